set_option maxRecDepth 8000
/-! ===== the walk goes with the items ===== -/
theorem zwS_cg {τ : zS} {P P' : zM} (hs : ∀ q, q < zpq P → zprs P' q = zprs P q) (hr : ∀ k, k < zprl P → zprw P' k = zprw P k) : ∀ (st : zST) cur j, dSk P st → j ≤ zprl P → zwS τ P st cur j → zwS τ P' st cur j := by
  intro st
  induction st with
  | nil => intro cur j _ _ h; exact h
  | cons x r ih =>
    rintro cur j ⟨k1, k2, k3, k4⟩ hj ⟨a, b, c, d⟩
    have e := hs _ k1
    have e' : zprs P' x.1 = zprs P x.1 := e
    have a' : zprs P x.1 < j := a
    refine ⟨?_, ?_, ?_, ?_⟩
    · show zprs P' x.1 < j
      rw [e']; exact a
    · show zprw P' (zprs P' x.1) = 100 + x.1
      rw [e', hr _ (by omega)]; exact b
    · show zwk τ (zprs P' x.1 + 1) j cur _ _
      rw [e']; exact c
    · show zwS τ P' r x.2 (zprs P' x.1)
      rw [e']
      exact ih x.2 _ k4 (by omega) d
theorem wkn : ∀ P st cur t ev, wD P st cur → zpn P < 16 → wkW P st cur → wkW (dLn P st t ev) st (cur ++ [zpn P]) := by
  intro P st cur t ev w hn h τ e'
  obtain ⟨f1, f2, f3, -, -, ⟨fte, fad, fco, ffi, fbe, fou, frs⟩, fr1, fr2⟩ := Ln_f (P := P) (st := st) (t := t) (ev := ev) w.1
  obtain ⟨⟨R, r1, r2, r3⟩, e2, e3, e4⟩ := e'
  rw [f3] at r2 e2
  rw [f2] at e3 e4
  rw [fte] at e3
  rw [ffi, fbe] at e4
  have e : wEnv τ P st := ⟨⟨R, r1, by omega, r3⟩, fun k hk => by rw [e2 k (by omega), fr2 k (by omega)], e3, e4⟩
  have S := zwS_cg (P' := dLn P st t ev) (fun q _ => by rw [frs]) (fun k hk => fr2 k (by omega)) st cur (zprl P) w.2.2.2.2.2.2.1 (Nat.le_refl _) (h τ e)
  have row : τ.1 119 (zprl P) = nI (zpn P) := by rw [e2 _ (by omega), fr1]
  have stp : ∀ Bq c, zwk τ (zprl P) (zprl P + 1) [zpn P] Bq c := fun Bq c => zwk_l r1 (by omega) r3 (by omega) row
  rw [f3]
  cases st with
  | nil => exact zwk_t S (stp _ _)
  | cons x r =>
    obtain ⟨a, b, c, d⟩ := S
    exact ⟨Nat.lt_succ_of_lt a, b, zwk_t c (stp _ _), d⟩
theorem wkp : ∀ P st cur t, wD P st cur → zpq P < 40 → st.length < 4 → 1 ≤ t → wkW P st cur → wkW (dLp P st t) ((zpq P, cur) :: st) [] := by
  intro P st cur t w hq hs t1 h τ e'
  obtain ⟨f1, f2, f3, ⟨f4, f5, f6, f7, f8, f9, f10⟩, fq, -, fr1, fr2⟩ := Lp_f (P := P) (st := st) (t := t)
  obtain ⟨⟨R, r1, r2, r3⟩, e2, e3, e4⟩ := e'
  rw [f3] at r2 e2
  rw [f2] at e3 e4
  have e : wEnv τ P st := by
    refine ⟨⟨R, r1, by omega, r3⟩, fun k hk => by rw [e2 k (by omega), fr2 k (by omega)], fun q hq => by rw [e3 q (by omega), (fq q (by omega)).1], fun q hq hm => ?_⟩
    have b : (zpq P == q) = false := beq_eq_false_iff_ne.mpr (by omega)
    have := e4 q (by omega) (by
      show (zpq P == q || dMem q st) = false
      rw [b, hm]; rfl)
    rw [(fq q (by omega)).2.2.2.1, (fq q (by omega)).2.2.2.2.1] at this
    exact this
  have S := zwS_cg (P' := dLp P st t) (fun q hq => (fq q (by omega)).2.2.2.2.2.2) (fun k hk => fr2 k (by omega)) st cur (zprl P) w.2.2.2.2.2.2.1 (Nat.le_refl _) (h τ e)
  rw [f3]
  refine ⟨?_, ?_, ?_, ?_⟩
  · show zprs (dLp P st t) (zpq P) < _
    rw [f10]; omega
  · show zprw (dLp P st t) (zprs (dLp P st t) (zpq P)) = _
    rw [f10, fr1]
  · show zwk τ (zprs (dLp P st t) (zpq P) + 1) _ [] _ _
    rw [f10]
    exact zwk_0 _ _ _ _
  · show zwS τ (dLp P st t) st cur (zprs (dLp P st t) (zpq P))
    rw [f10]
    exact S
theorem wkc : ∀ P q sv r cur, wD P ((q, sv) :: r) cur → wkW P ((q, sv) :: r) cur → wkW (dCl P q) r (sv ++ dRep (zpte P q) cur) := by
  intro P q sv r cur w h τ e'
  obtain ⟨f1, f2, f3, f4, f5, f6, ⟨fte, fad, fco, ffi, fou, frs⟩, -, fr1, fr2⟩ := Cl_f (P := P) (q := q)
  obtain ⟨⟨R, r1, r2, r3⟩, e2, e3, e4⟩ := e'
  rw [f3] at r2 e2
  rw [f2] at e3 e4
  rw [fte] at e3
  rw [ffi] at e4
  obtain ⟨w1, w2, w3, w4, w5, w6, w7, w8, w9⟩ := w
  obtain ⟨k1, k2, k3, k4⟩ := id w7
  have k1' : q < zpq P := k1
  have k3' : dHd r ≤ q := k3
  rw [List.length_cons] at w3 w4
  have e : wEnv τ P ((q, sv) :: r) := by
    refine ⟨⟨R, r1, by omega, r3⟩, fun k hk => by rw [e2 k (by omega), fr2 k (by omega)], e3, fun x hx hm => ?_⟩
    have hm' : (q == x || dMem x r) = false := hm
    rw [Bool.or_eq_false_iff] at hm'
    have ne : x ≠ q := fun z => by
      have := beq_eq_false_iff_ne.mp hm'.1
      exact this z.symm
    have := e4 x hx hm'.2
    rw [f5 x ne] at this
    exact this
  obtain ⟨a, b, c, d⟩ := h τ e
  have a' : zprs P q < zprl P := a
  have b' : zprw P (zprs P q) = 100 + q := b
  have nm : dMem q r = false := by
    cases hx : dMem q r
    · rfl
    · have := dMem_lt r k4 hx
      omega
  obtain ⟨x, x1, x2⟩ := e4 q k1' nm
  rw [f4] at x2
  obtain ⟨u1, u2, u3⟩ := w8
  have u1' : zpfi P q ≤ zpn P := u1
  have u2' : dSm (fun _ => 1) cur + zsm (fun l => zpc P l * 1) (zpfi P q) = zsm (fun l => zpc P l * 1) (zpn P) := u2 _
  rw [dSm_1] at u2'
  have hr : x = 0 ↔ cur = [] := by
    rw [x2]
    constructor
    · intro z
      rw [z] at u2'
      exact List.eq_nil_of_length_eq_zero (by omega)
    · intro z
      rw [z] at u2'
      rcases Nat.lt_or_ge (zpfi P q) (zpn P) with y | y
      · exfalso
        have m := zsm_mono (f := fun l => zpc P l * 1) (show zpfi P q + 1 ≤ zpn P from y)
        rw [zsm_s] at m
        have c1 := (w5 (zpfi P q) y).2.2.2.2.2.2.2.2.1
        have u2z : 0 + zsm (fun l => zpc P l * 1) (zpfi P q) = zsm (fun l => zpc P l * 1) (zpn P) := u2'
        omega
      · omega
  have te := w6 q k1'
  have loop := zwk_p (r := x) r1 (show zprl P < R by omega) r3 (by omega) a' (by rw [e2 _ (by omega), fr2 _ (by omega), b']) (by rw [e2 _ (by omega), fr1]) (e3 q k1') te.1 te.2.1 x1 hr c
  have S := zwS_cg (P' := dCl P q) (fun q _ => by rw [frs]) (fun k hk => fr2 k (by omega)) r sv (zprs P q) k4 (by omega) d
  rw [f3]
  cases r with
  | nil => exact zwk_t S (zwk_w (Nat.zero_le _) (by show 101 * (3 - 0) + 101 ≤ 404; omega) loop)
  | cons y r2 =>
    obtain ⟨g1, g2, g3, g4⟩ := S
    rw [List.length_cons] at w3
    refine ⟨?_, g2, zwk_t g3 (zwk_w k3' ?_ loop), g4⟩
    · have g1' : zprs (dCl P q) y.1 < zprs P q := g1
      show zprs (dCl P q) y.1 < _
      omega
    · show 101 * (3 - (y :: r2).length) + 101 ≤ 101 * (3 - r2.length)
      rw [List.length_cons]
      omega
/-! ===== what is taken ===== -/
def dFin (P : zM) (cur : List Nat) : zM := fun a k => if a = 0 ∧ k = 2 then cur.length else if a = 11 then cur.getD k 0 else if a = 12 then zsm (fun i => zptk P (cur.getD i 0)) k else P a k
theorem dFin_o {P : zM} {cur : List Nat} {a k : Nat} (h1 : ¬ (a = 0 ∧ k = 2)) (h2 : ¬ a = 11) (h3 : ¬ a = 12) : dFin P cur a k = P a k := by
  unfold dFin
  rw [if_neg h1, if_neg h2, if_neg h3]
theorem zsm_h (g : Nat → Nat) : ∀ n, zsm g (n + 1) = g 0 + zsm (fun i => g (i + 1)) n := by
  intro n
  induction n with
  | zero => show 0 + g 0 = g 0 + 0; omega
  | succ n ih =>
    rw [zsm_s, ih, zsm_s]
    omega
theorem zsm_dSm (f : Nat → Nat) : ∀ c : List Nat, zsm (fun i => f (c.getD i 0)) c.length = dSm f c := by
  intro c
  induction c with
  | nil => rfl
  | cons x r ih =>
    rw [List.length_cons, zsm_h]
    show f x + zsm (fun i => f (r.getD i 0)) r.length = f x + dSm f r
    rw [ih]
theorem dFin_f {P : zM} {cur : List Nat} : zpn (dFin P cur) = zpn P ∧ zpq (dFin P cur) = zpq P ∧ zps (dFin P cur) = cur.length ∧ zptk (dFin P cur) = zptk P ∧ zptm (dFin P cur) = zptm P ∧ zpin (dFin P cur) = zpin P ∧ zpar (dFin P cur) = zpar P ∧ zpte (dFin P cur) = zpte P ∧ zpad (dFin P cur) = zpad P ∧ zpco (dFin P cur) = zpco P ∧ zpfi (dFin P cur) = zpfi P ∧ zpbe (dFin P cur) = zpbe P ∧ zpou (dFin P cur) = zpou P ∧ (∀ l e, zpev (dFin P cur) l e = zpev P l e) ∧ (∀ i, zplo (dFin P cur) i = cur.getD i 0) ∧ ∀ i, zptt (dFin P cur) i = zsm (fun i => zptk P (cur.getD i 0)) i := by
  refine ⟨?_, ?_, ?_, ?_, ?_, ?_, ?_, ?_, ?_, ?_, ?_, ?_, ?_, fun l e => ?_, fun i => ?_, fun i => ?_⟩
  · exact dFin_o (by omega) (by omega) (by omega)
  · exact dFin_o (by omega) (by omega) (by omega)
  · exact if_pos ⟨rfl, rfl⟩
  case refine_14 => exact dFin_o (by omega) (by omega) (by omega)
  case refine_15 => rfl
  case refine_16 => rfl
  all_goals
    funext q
    exact dFin_o (by omega) (by omega) (by omega)
theorem dFin_w {P : zM} {cur : List Nat} (w : wD P [] cur) (h6 : cur.length ≤ 6000) : wPr (dFin P cur) := by
  obtain ⟨w1, w2, w3, w4, w5, w6, w7, w8, w9⟩ := w
  obtain ⟨f1, f2, f3, ftk, ftm, fin, fpa, fte, fad, fco, ffi, fbe, fou, fev, flo, ftt⟩ := dFin_f (P := P) (cur := cur)
  have w8' : ∀ f : Nat → Nat, dSm f cur = zsm (fun l => zpc P l * f l) (zpn P) := w8
  have w9' : ∀ x, x ∈ cur → x < zpn P := w9
  refine ⟨by omega, by omega, by omega, fun l hl => ?_, fun q hq => ?_, fun i hi => ?_, ?_, fun i hi => ?_, fun f => ?_⟩
  · obtain ⟨h1, h2, h3, h4, h5, h6', h7, h8, h9, h10, h11⟩ := w5 l (by omega)
    rw [ftk, ftm, fin, fpa, fte, fou, ffi, fbe, f2]
    refine ⟨h1, h2, h3, h5, fun e he => by rw [fev]; exact h6' e he, h7, h8, fun q hq => ?_⟩
    have o := h11 q hq
    have o' : zwi (zpou P) q 41 (zpar P l) = true ↔ zpfi P q ≤ l ∧ (false = true ∨ l < zpbe P q) := o
    rw [o']
    simp
  · rw [fte, fou, ffi, fbe, fad, fco, f1]
    exact w6 q (by omega)
  · rw [flo, f1]
    exact w9' _ (gd_m (by omega))
  · rw [ftt]
    rfl
  · rw [ftt, ftt, ftk, flo]
    rfl
  · rw [f3, f1, ftm]
    have : zsm (fun i => f (zplo (dFin P cur) i)) cur.length = dSm f cur := zsm_dSm f cur
    rw [this, w8' f]
    refine zsm_congr fun l hl => ?_
    have h10 := (w5 l hl).2.2.2.2.2.2.2.2.2.1
    have h10' : zptm P l = zpc P l * 1 := h10
    rw [h10', Nat.mul_one]
