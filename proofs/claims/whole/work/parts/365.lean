set_option maxRecDepth 8000
/-! ===== the three items, on the numbers ===== -/
theorem Ln_f {P : zM} {st : zST} {t : Nat} {ev : Nat → Nat} (hn : zpn P ≤ 16) : zpn (dLn P st t ev) = zpn P + 1 ∧ zpq (dLn P st t ev) = zpq P ∧ zprl (dLn P st t ev) = zprl P + 1 ∧ (zptk (dLn P st t ev) (zpn P) = t ∧ zptm (dLn P st t ev) (zpn P) = dRp P st ∧ zpin (dLn P st t ev) (zpn P) = st.length ∧ zpar (dLn P st t ev) (zpn P) = dHd st ∧ zpc (dLn P st t ev) (zpn P) = 1 ∧ ∀ e, zpev (dLn P st t ev) (zpn P) e = ev e) ∧ (∀ l, l ≠ zpn P → zptk (dLn P st t ev) l = zptk P l ∧ zptm (dLn P st t ev) l = zptm P l ∧ zpin (dLn P st t ev) l = zpin P l ∧ zpar (dLn P st t ev) l = zpar P l ∧ zpc (dLn P st t ev) l = zpc P l ∧ ∀ e, zpev (dLn P st t ev) l e = zpev P l e) ∧ (zpte (dLn P st t ev) = zpte P ∧ zpad (dLn P st t ev) = zpad P ∧ zpco (dLn P st t ev) = zpco P ∧ zpfi (dLn P st t ev) = zpfi P ∧ zpbe (dLn P st t ev) = zpbe P ∧ zpou (dLn P st t ev) = zpou P ∧ zprs (dLn P st t ev) = zprs P) ∧ zprw (dLn P st t ev) (zprl P) = zpn P ∧ ∀ k, k ≠ zprl P → zprw (dLn P st t ev) k = zprw P k := by
  unfold dLn
  refine ⟨?_, ?_, ?_, ⟨?_, ?_, ?_, ?_, ?_, fun e => ?_⟩, fun l hl => ⟨?_, ?_, ?_, ?_, ?_, fun e => ?_⟩, ⟨?_, ?_, ?_, ?_, ?_, ?_, ?_⟩, ?_, fun k hk => ?_⟩
  all_goals first
    | (simp (disch := omega) only [zu_n, zu_y, dEv_n, dEv_y]; done)
    | (funext q; simp (disch := omega) only [zu_n, zu_y, dEv_n, dEv_y]; done)
theorem Lp_f {P : zM} {st : zST} {t : Nat} : zpn (dLp P st t) = zpn P ∧ zpq (dLp P st t) = zpq P + 1 ∧ zprl (dLp P st t) = zprl P + 1 ∧ (zpte (dLp P st t) (zpq P) = t ∧ zpad (dLp P st t) (zpq P) = st.length ∧ zpco (dLp P st t) (zpq P) = dRp P st ∧ zpfi (dLp P st t) (zpq P) = zpn P ∧ zpbe (dLp P st t) (zpq P) = zpn P ∧ zpou (dLp P st t) (zpq P) = dHd st ∧ zprs (dLp P st t) (zpq P) = zprl P) ∧ (∀ q, q ≠ zpq P → zpte (dLp P st t) q = zpte P q ∧ zpad (dLp P st t) q = zpad P q ∧ zpco (dLp P st t) q = zpco P q ∧ zpfi (dLp P st t) q = zpfi P q ∧ zpbe (dLp P st t) q = zpbe P q ∧ zpou (dLp P st t) q = zpou P q ∧ zprs (dLp P st t) q = zprs P q) ∧ (zptk (dLp P st t) = zptk P ∧ zptm (dLp P st t) = zptm P ∧ zpin (dLp P st t) = zpin P ∧ zpar (dLp P st t) = zpar P ∧ zpc (dLp P st t) = zpc P ∧ ∀ l e, zpev (dLp P st t) l e = zpev P l e) ∧ zprw (dLp P st t) (zprl P) = 100 + zpq P ∧ ∀ k, k ≠ zprl P → zprw (dLp P st t) k = zprw P k := by
  unfold dLp
  refine ⟨?_, ?_, ?_, ⟨?_, ?_, ?_, ?_, ?_, ?_, ?_⟩, fun q hq => ⟨?_, ?_, ?_, ?_, ?_, ?_, ?_⟩, ⟨?_, ?_, ?_, ?_, ?_, fun l e => ?_⟩, ?_, fun k hk => ?_⟩
  all_goals first
    | (simp (disch := omega) only [zu_n, zu_y]; done)
    | (funext q; simp (disch := omega) only [zu_n, zu_y]; done)
theorem Cl_f {P : zM} {q : Nat} : zpn (dCl P q) = zpn P ∧ zpq (dCl P q) = zpq P ∧ zprl (dCl P q) = zprl P + 1 ∧ zpbe (dCl P q) q = zpn P ∧ (∀ x, x ≠ q → zpbe (dCl P q) x = zpbe P x) ∧ (∀ l, zpc (dCl P q) l = if zpfi P q ≤ l then zpte P q * zpc P l else zpc P l) ∧ (zpte (dCl P q) = zpte P ∧ zpad (dCl P q) = zpad P ∧ zpco (dCl P q) = zpco P ∧ zpfi (dCl P q) = zpfi P ∧ zpou (dCl P q) = zpou P ∧ zprs (dCl P q) = zprs P) ∧ (zptk (dCl P q) = zptk P ∧ zptm (dCl P q) = zptm P ∧ zpin (dCl P q) = zpin P ∧ zpar (dCl P q) = zpar P ∧ ∀ l e, zpev (dCl P q) l e = zpev P l e) ∧ zprw (dCl P q) (zprl P) = 200 + q ∧ ∀ k, k ≠ zprl P → zprw (dCl P q) k = zprw P k := by
  unfold dCl
  refine ⟨?_, ?_, ?_, ?_, fun x hx => ?_, fun l => ?_, ⟨?_, ?_, ?_, ?_, ?_, ?_⟩, ⟨?_, ?_, ?_, ?_, fun l e => ?_⟩, ?_, fun k hk => ?_⟩
  all_goals first
    | (simp (disch := omega) only [zu_n, zu_y, dCc_n, dCc_y]; done)
    | (funext q; simp (disch := omega) only [zu_n, zu_y, dCc_n, dCc_y]; done)
theorem Ln_w {P : zM} {st : zST} {cur : List Nat} {t : Nat} {ev : Nat → Nat} (w : wD P st cur) (hn : zpn P < 16) (t1 : 1 ≤ t) (t2 : t ≤ 20) (he : ∀ e, e < 8 → ev e ≤ 99) : wD (dLn P st t ev) st (cur ++ [zpn P]) := by
  obtain ⟨w1, w2, w3, w4, w5, w6, w7, w8, w9⟩ := w
  obtain ⟨f1, f2, f3, ⟨f4, f5, f6, f7, f8, f9⟩, fl, ⟨fte, fad, fco, ffi, fbe, fou, frs⟩, -⟩ := Ln_f (P := P) (st := st) (t := t) (ev := ev) w1
  generalize dLn P st t ev = P' at *
  have sk : dSk P' st := dSk_cg (P := P) (by omega) (fun q _ => by rw [fou]) st w7
  have rp := dRp_le (P := P) (fun q hq => ⟨(w6 q hq).1, (w6 q hq).2.1⟩) st w7
  have rp4 : 99 ^ st.length ≤ 99 ^ 4 := Nat.pow_le_pow_right (by omega) w3
  have p4 : 99 ^ 4 = 96059601 := by decide
  have ops : ∀ l, dOp P' l st = dOp P l st := fun l => dOp_cg (fun q _ => ⟨by rw [fte], by rw [ffi]⟩) st w7
  refine ⟨by omega, by omega, w3, by omega, fun l hl => ?_, fun q hq => ?_, sk, ?_, fun x hx => ?_⟩
  · by_cases e : l = zpn P
    · subst e
      refine ⟨by omega, by omega, by omega, by omega, ?_, fun e he' => by rw [f9]; exact he e he', ?_, ?_, by omega, ?_, fun q hq => ?_⟩
      · rw [f7, f2]; exact dHd_le w7
      · rw [f6, f7, fou, st_d st 41 w7 (by omega)]
      · rw [f5, f7, fou, fte, st_p st 41 w7 (by omega)]
      · rw [f5, f8, ops, dOp_all (fun q hq => by have := w6 q hq; exact Nat.le_trans this.2.2.2.1 this.2.2.2.2.1) st w7, Nat.one_mul]
      · rw [f7, fou, st_w st 41 w7 (by omega), ffi, fbe]
        have := w6 q (by omega)
        have h1 := this.2.2.2.1
        have h2 := this.2.2.2.2.1
        constructor
        · intro h; exact ⟨by omega, Or.inl h⟩
        · rintro ⟨_, h | h⟩
          · exact h
          · omega
    · obtain ⟨g1, g2, g3, g4, g5, g6⟩ := fl l e
      obtain ⟨h1, h2, h3, h4, h5, h6, h7, h8, h9, h10, h11⟩ := w5 l (by omega)
      refine ⟨by omega, by omega, by omega, by omega, by omega, fun e he' => by rw [g6]; exact h6 e he', by rw [g3, g4, fou]; exact h7, by rw [g2, g4, fou, fte]; exact h8, by omega, by rw [g2, g5, ops]; exact h10, fun q hq => ?_⟩
      rw [g4, fou, ffi, fbe]
      exact h11 q (by omega)
  · obtain ⟨h1, h2, h3, h4, h5, h6, h7, h8⟩ := w6 q (by omega)
    refine ⟨by rw [fte]; exact h1, by rw [fte]; exact h2, by rw [fou]; exact h3, by rw [ffi, fbe]; exact h4, by rw [fbe, f1]; omega, by rw [fad, fou]; exact h6, by rw [fco, fou, fte]; exact h7, by rw [fco]; exact h8⟩
  · have z1 : ∀ f : Nat → Nat, zsm (fun l => zpc P' l * f l) (zpn P + 1) = zsm (fun l => zpc P l * f l) (zpn P) + f (zpn P) := by
      intro f
      rw [zsm_s, zsm_congr (g := fun l => zpc P l * f l) (fun l hl => by rw [(fl l (by omega)).2.2.2.2.1]), f8, Nat.one_mul]
    have s1 : ∀ f, dSm f (cur ++ [zpn P]) = dSm f cur + f (zpn P) := by
      intro f
      rw [dSm_a]
      rfl
    rw [f1]
    cases st with
    | nil =>
      intro f
      rw [s1, z1, w8 f]
    | cons x r =>
      obtain ⟨a, b, c⟩ := w8
      have e : zpfi P' x.1 = zpfi P x.1 := by rw [ffi]
      refine ⟨?_, fun f => ?_, ?_⟩
      · show zpfi P' x.1 ≤ _
        rw [e]
        exact Nat.le_trans a (by omega)
      · show _ + zsm _ (zpfi P' x.1) = _
        rw [s1, z1, e, zsm_congr (g := fun l => zpc P l * f l) (fun l hl => by rw [(fl l (by have : zpfi P x.1 ≤ zpn P := a; omega)).2.2.2.2.1])]
        have b' : dSm f cur + zsm (fun l => zpc P l * f l) (zpfi P x.1) = zsm (fun l => zpc P l * f l) (zpn P) := b f
        omega
      · show dBl P' r x.2 (zpfi P' x.1)
        rw [e]
        exact dBl_cg r x.2 _ w7.2.2.2 (fun q _ => by rw [ffi]) (fun l hl => (fl l (by have : zpfi P x.1 ≤ zpn P := a; omega)).2.2.2.2.1) c
  · rw [dFl_a] at hx
    rcases List.mem_append.mp hx with h | h
    · have := w9 x h
      omega
    · have := List.mem_singleton.mp h
      omega
theorem Lp_w {P : zM} {st : zST} {cur : List Nat} {t : Nat} (w : wD P st cur) (hq : zpq P < 40) (hs : st.length < 4) (t1 : 1 ≤ t) (t2 : t ≤ 99) : wD (dLp P st t) ((zpq P, cur) :: st) [] := by
  obtain ⟨w1, w2, w3, w4, w5, w6, w7, w8, w9⟩ := w
  obtain ⟨f1, f2, f3, ⟨f4, f5, f6, f7, f8, f9, f10⟩, fq, ⟨ftk, ftm, fin, fpa, fc, fev⟩, -⟩ := Lp_f (P := P) (st := st) (t := t)
  generalize dLp P st t = P' at *
  have ne : ∀ q, q < zpq P → q ≠ zpq P := fun q h => Nat.ne_of_lt h
  have sk : dSk P' st := dSk_cg (P := P) (by omega) (fun q h => (fq q (ne q h)).2.2.2.2.2.1) st w7
  have rp := dRp_le (P := P) (fun q hq => ⟨(w6 q hq).1, (w6 q hq).2.1⟩) st w7
  have rp3 : 99 ^ st.length ≤ 99 ^ 3 := Nat.pow_le_pow_right (by omega) (by omega)
  have p3 : 99 ^ 3 = 970299 := by decide
  have ops : ∀ l, dOp P' l st = dOp P l st := fun l => dOp_cg (fun q h => ⟨(fq q (ne q h)).1, (fq q (ne q h)).2.2.2.1⟩) st w7
  have chh : ∀ j, j < zpq P → zpou P' j = zpou P j ∧ zpou P j ≤ j := fun j h => ⟨(fq j (ne j h)).2.2.2.2.2.1, (w6 j h).2.2.1⟩
  have cht : ∀ j, j < zpq P → zpte P' j = zpte P j := fun j h => (fq j (ne j h)).1
  have chl : ∀ j, j < zpq P → zpou P' j ≤ j := fun j h => by rw [(chh j h).1]; exact (chh j h).2
  have hd := dHd_le w7
  refine ⟨by omega, by omega, by rw [List.length_cons]; omega, by rw [List.length_cons]; omega, fun l hl => ?_, fun q hq' => ?_, ⟨by rw [f2]; omega, f9, hd, sk⟩, ?_, fun x hx => ?_⟩
  · obtain ⟨h1, h2, h3, h4, h5, h6, h7, h8, h9, h10, h11⟩ := w5 l (by omega)
    refine ⟨by rw [ftk]; exact h1, by rw [ftk]; exact h2, by rw [ftm]; exact h3, by rw [ftm]; exact h4, by rw [fpa, f2]; omega, fun e he' => by rw [fev]; exact h6 e he', by rw [fin, fpa, ch_d chh 41 _ h5]; exact h7, by rw [ftm, fpa, ch_p chh cht 41 _ h5]; exact h8, by rw [fc]; exact h9, ?_, fun q hq' => ?_⟩
    · rw [ftm, fc]
      show zptm P l = zpc P l * ((if zpfi P' (zpq P) ≤ l then zpte P' (zpq P) else 1) * dOp P' l st)
      rw [f7, if_neg (by omega), Nat.one_mul, ops]
      exact h10
    · rw [fpa]
      show _ ↔ _ ∧ ((zpq P == q || dMem q st) = true ∨ _)
      by_cases e : q = zpq P
      · subst e
        rw [ch_no chl 41 _ h5, f7]
        constructor
        · intro h; cases h
        · rintro ⟨h, _⟩; omega
      · have b : (zpq P == q) = false := beq_eq_false_iff_ne.mpr (fun h => e h.symm)
        rw [b, Bool.false_or, ch_w chh 41 _ h5, (fq q e).2.2.2.1, (fq q e).2.2.2.2.1]
        exact h11 q (by omega)
  · by_cases e : q = zpq P
    · subst e
      refine ⟨by omega, by omega, by omega, by omega, by omega, ?_, ?_, by omega⟩
      · rw [f5, f9, ch_d chh 41 _ hd, st_d st 41 w7 (by omega)]
      · rw [f6, f9, ch_p chh cht 41 _ hd, st_p st 41 w7 (by omega)]
    · obtain ⟨g1, g2, g3, g4, g5, g6, g7⟩ := fq q e
      obtain ⟨h1, h2, h3, h4, h5, h6, h7, h8⟩ := w6 q (by omega)
      refine ⟨by omega, by omega, by omega, by omega, by omega, ?_, ?_, by omega⟩
      · rw [g2, g6, ch_d chh 41 _ (by omega)]; exact h6
      · rw [g3, g6, ch_p chh cht 41 _ (by omega)]; exact h7
  · rw [f1]
    refine ⟨by rw [f7]; exact Nat.le_refl _, fun f => ?_, ?_⟩
    · rw [f7]
      show 0 + _ = _
      omega
    · rw [f7]
      exact dBl_cg st cur _ w7 (fun q h => (fq q (ne q h)).2.2.2.1) (fun l _ => by rw [fc]) w8
  · have hx' : x ∈ dFl st (cur ++ []) := hx
    rw [List.append_nil] at hx'
    rw [f1]
    exact w9 x hx'
/-- a closing loop multiplies what stands behind its beginning -/
theorem zsm_mulfrom {g : Nat → Nat} {a t : Nat} : ∀ n, a ≤ n → zsm (fun l => if a ≤ l then t * g l else g l) n + t * zsm g a = zsm g a + t * zsm g n := by
  intro n
  induction n with
  | zero =>
    intro h
    rw [show a = 0 by omega, zsm_0, zsm_0]
  | succ n ih =>
    intro h
    by_cases e : a = n + 1
    · rw [e]
      have : zsm (fun l => if n + 1 ≤ l then t * g l else g l) (n + 1) = zsm g (n + 1) := zsm_congr fun l hl => if_neg (by omega)
      rw [this]
    · have i := ih (by omega)
      rw [zsm_s, zsm_s g n, if_pos (show a ≤ n by omega), Nat.mul_add]
      omega
theorem Cl_w {P : zM} {q : Nat} {sv : List Nat} {r : zST} {cur : List Nat} (w : wD P ((q, sv) :: r) cur) : wD (dCl P q) r (sv ++ dRep (zpte P q) cur) := by
  obtain ⟨w1, w2, w3, w4, w5, w6, w7, w8, w9⟩ := w
  obtain ⟨f1, f2, f3, f4, f5, f6, ⟨fte, fad, fco, ffi, fou, frs⟩, ⟨ftk, ftm, fin, fpa, fev⟩, -⟩ := Cl_f (P := P) (q := q)
  generalize dCl P q = P' at *
  rw [List.length_cons] at w3 w4
  have w7' := w7
  obtain ⟨k1, k2, k3, k4⟩ := w7'
  have k1' : q < zpq P := k1
  have k3' : dHd r ≤ q := k3
  have sk : dSk P' r := dSk_cg (P := P) (by omega) (fun q _ => by rw [fou]) r k4
  have hq := w6 q k1'
  refine ⟨by omega, by omega, by omega, by omega, fun l hl => ?_, fun x hx => ?_, sk, ?_, fun x hx => ?_⟩
  · obtain ⟨h1, h2, h3, h4, h5, h6, h7, h8, h9, h10, h11⟩ := w5 l (by omega)
    refine ⟨by rw [ftk]; exact h1, by rw [ftk]; exact h2, by rw [ftm]; exact h3, by rw [ftm]; exact h4, by rw [fpa, f2]; omega, fun e he' => by rw [fev]; exact h6 e he', by rw [fin, fpa, fou]; exact h7, by rw [ftm, fpa, fou, fte]; exact h8, ?_, ?_, fun x hx => ?_⟩
    · rw [f6]
      split
      · exact Nat.mul_le_mul hq.1 h9
      · exact h9
    · rw [ftm, f6, dOp_cg (P := P) (fun q _ => ⟨by rw [fte], by rw [ffi]⟩) r k4]
      have h10' : zptm P l = zpc P l * ((if zpfi P q ≤ l then zpte P q else 1) * dOp P l r) := h10
      rw [h10']
      by_cases hc : zpfi P q ≤ l
      · rw [if_pos hc, if_pos hc, Nat.mul_comm (zpte P q) (zpc P l), Nat.mul_assoc]
      · rw [if_neg hc, if_neg hc, Nat.one_mul]
    · have o := h11 x (by omega)
      have o' : zwi (zpou P) x 41 (zpar P l) = true ↔ zpfi P x ≤ l ∧ ((q == x || dMem x r) = true ∨ l < zpbe P x) := o
      rw [fpa, fou, ffi, o']
      by_cases e : x = q
      · subst e
        rw [f4, beq_self_eq_true]
        simp only [Bool.true_or, true_or, and_true]
        exact ⟨fun h => ⟨h, Or.inr (by omega)⟩, fun h => h.1⟩
      · have b : (q == x) = false := beq_eq_false_iff_ne.mpr (fun h => e h.symm)
        rw [b, Bool.false_or, f5 x e]
  · obtain ⟨h1, h2, h3, h4, h5, h6, h7, h8⟩ := w6 x (by omega)
    refine ⟨by rw [fte]; exact h1, by rw [fte]; exact h2, by rw [fou]; exact h3, ?_, ?_, by rw [fad, fou]; exact h6, by rw [fco, fou, fte]; exact h7, by rw [fco]; exact h8⟩
    · rw [ffi]
      by_cases e : x = q
      · rw [e, f4]
        exact Nat.le_trans hq.2.2.2.1 hq.2.2.2.2.1
      · rw [f5 x e]; exact h4
    · rw [f1]
      by_cases e : x = q
      · rw [e, f4]; exact Nat.le_refl _
      · rw [f5 x e]; exact h5
  · obtain ⟨a, b, c⟩ := w8
    have a' : zpfi P q ≤ zpn P := a
    have b' : ∀ f : Nat → Nat, dSm f cur + zsm (fun l => zpc P l * f l) (zpfi P q) = zsm (fun l => zpc P l * f l) (zpn P) := b
    have c' : dBl P r sv (zpfi P q) := c
    have s1 : ∀ f, dSm f (sv ++ dRep (zpte P q) cur) = dSm f sv + zpte P q * dSm f cur := fun f => by rw [dSm_a, dSm_r]
    have z1 : ∀ f : Nat → Nat, zsm (fun l => zpc P' l * f l) (zpn P) + zpte P q * zsm (fun l => zpc P l * f l) (zpfi P q) = zsm (fun l => zpc P l * f l) (zpfi P q) + zpte P q * zsm (fun l => zpc P l * f l) (zpn P) := by
      intro f
      have := zsm_mulfrom (g := fun l => zpc P l * f l) (a := zpfi P q) (t := zpte P q) (zpn P) a'
      rw [← this]
      congr 1
      refine zsm_congr fun l _ => ?_
      rw [f6]
      split
      · rw [Nat.mul_assoc]
      · rfl
    rw [f1]
    cases r with
    | nil =>
      intro f
      have c2 : dSm f sv = zsm (fun l => zpc P l * f l) (zpfi P q) := c' f
      have b2 := b' f
      have z2 := z1 f
      rw [s1, c2]
      have m : zpte P q * (dSm f cur + zsm (fun l => zpc P l * f l) (zpfi P q)) = zpte P q * zsm (fun l => zpc P l * f l) (zpn P) := by rw [b2]
      rw [Nat.mul_add] at m
      omega
    | cons y r2 =>
      obtain ⟨d1, d2, d3⟩ := c'
      have e : zpfi P' y.1 = zpfi P y.1 := by rw [ffi]
      have d1' : zpfi P y.1 ≤ zpfi P q := d1
      have low : ∀ l, l < zpfi P y.1 → zpc P' l = zpc P l := fun l hl => by rw [f6, if_neg (by omega)]
      refine ⟨?_, fun f => ?_, ?_⟩
      · show zpfi P' y.1 ≤ zpn P
        rw [e]
        omega
      · show dSm f (sv ++ dRep (zpte P q) cur) + zsm _ (zpfi P' y.1) = _
        rw [e, s1, zsm_congr (g := fun l => zpc P l * f l) (fun l hl => by rw [low l hl])]
        have d2' : dSm f sv + zsm (fun l => zpc P l * f l) (zpfi P y.1) = zsm (fun l => zpc P l * f l) (zpfi P q) := d2 f
        have b2 := b' f
        have z2 := z1 f
        have m : zpte P q * (dSm f cur + zsm (fun l => zpc P l * f l) (zpfi P q)) = zpte P q * zsm (fun l => zpc P l * f l) (zpn P) := by rw [b2]
        rw [Nat.mul_add] at m
        omega
      · show dBl P' r2 y.2 (zpfi P' y.1)
        rw [e]
        exact dBl_cg r2 y.2 _ k4.2.2.2 (fun q _ => by rw [ffi]) low d3
  · rw [f1]
    have fl : dFl ((q, sv) :: r) cur = dFl r (sv ++ cur) := rfl
    rw [dFl_a] at hx
    rw [fl, dFl_a] at w9
    rcases List.mem_append.mp hx with h | h
    · exact w9 x (List.mem_append.mpr (Or.inl h))
    · exact w9 x (List.mem_append.mpr (Or.inr (dRep_m _ h)))
