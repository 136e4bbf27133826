set_option maxRecDepth 8000
/-! ===== the class's draft ===== -/
def cFs (I : zI) (p s : Nat) (ok : Prop) : zST → Prop
  | [] => True
  | (q, sv) :: r => (∃ f, I (p + 26) q = nI f ∧ f ≤ s ∧ (ok → f = (dFl r sv).length)) ∧ cFs I p s ok r
def cOp (I : zI) (p : Nat) : zST → Prop
  | [] => True
  | (q, _) :: r => I (p + 27) r.length = nI q ∧ cOp I p r
def cSt (I : zI) (p : Nat) (st : zST) (cur : List Nat) : Prop := ∃ s, s ≤ 6000 ∧ I p 15 = nI s ∧ ((dFl st cur).length ≤ 6000 → s = (dFl st cur).length ∧ I p 16 = nI 0 ∧ ∀ i, i < s → I (p + 28) i = nI ((dFl st cur).getD i 0)) ∧ (6000 < (dFl st cur).length → I p 16 = nI 1) ∧ cFs I p s ((dFl st cur).length ≤ 6000) st
def cD (I : zI) (p : Nat) (P : zM) (st : zST) (cur : List Nat) : Prop := I p 0 = nI (zpn P) ∧ I p 5 = nI (zpq P) ∧ I p 13 = nI st.length ∧ I p 14 = nI (dRp P st) ∧ (∀ l, l < zpn P → I (p + 1) l = nI (zptk P l) ∧ I (p + 2) l = nI (zptm P l) ∧ I (p + 3) l = nI (zpin P l) ∧ ∀ e, e < 8 → I ((p + 4) + 1 + l) e = nI (zpev P l e)) ∧ (∀ q, q < zpq P → I (p + 21) q = nI (zpte P q) ∧ I (p + 22) q = nI (zpad P q) ∧ I (p + 23) q = nI (zpco P q) ∧ I (p + 24) q = nI (zpfi P q) ∧ I (p + 25) q = nI (zpbe P q)) ∧ cOp I p st ∧ cSt I p st cur
def pfr (p : Nat) (σ σ' : zS) : Prop := σ'.2 = σ.2 ∧ ∀ c i, ¬ (p ≤ c ∧ c < p + 30) → σ'.1 c i = σ.1 c i
theorem cFs_cg {I J : zI} {p s s' : Nat} {ok ok' : Prop} (h : ∀ q, J (p + 26) q = I (p + 26) q) (hs : s ≤ s') (ho : ok' → ok) : ∀ st, cFs I p s ok st → cFs J p s' ok' st := by
  intro st
  induction st with
  | nil => intro _; trivial
  | cons x r ih =>
    rintro ⟨⟨f, a, b, c⟩, d⟩
    exact ⟨⟨f, (h _).trans a, Nat.le_trans b hs, fun q => c (ho q)⟩, ih d⟩
theorem cFs_lt {P : zM} {I J : zI} {p s s' : Nat} {ok ok' : Prop} (h : ∀ q, q < zpq P → J (p + 26) q = I (p + 26) q) (hs : s ≤ s') (ho : ok' → ok) : ∀ st, dSk P st → cFs I p s ok st → cFs J p s' ok' st := by
  intro st
  induction st with
  | nil => intro _ _; trivial
  | cons x r ih =>
    rintro ⟨k1, k2, k3, k4⟩ ⟨⟨f, a, b, c⟩, d⟩
    exact ⟨⟨f, (h _ k1).trans a, Nat.le_trans b hs, fun q => c (ho q)⟩, ih k4 d⟩
theorem cOp_lt {I J : zI} {p : Nat} : ∀ (st : zST) (m : Nat), st.length ≤ m → (∀ k, k < m → J (p + 27) k = I (p + 27) k) → cOp I p st → cOp J p st := by
  intro st
  induction st with
  | nil => intro _ _ _ _; trivial
  | cons x r ih =>
    rintro m hm h ⟨a, b⟩
    rw [List.length_cons] at hm
    exact ⟨(h _ (by omega)).trans a, ih m (by omega) h b⟩
theorem gd_l {a b : List Nat} {i : Nat} (h : i < a.length) : (a ++ b).getD i 0 = a.getD i 0 := by
  rw [List.getD_eq_getElem?_getD, List.getD_eq_getElem?_getD, List.getElem?_append_left h]
theorem gd_r {a b : List Nat} {i : Nat} (h : a.length ≤ i) : (a ++ b).getD i 0 = b.getD (i - a.length) 0 := by
  rw [List.getD_eq_getElem?_getD, List.getD_eq_getElem?_getD, List.getElem?_append_right h]
theorem gd_m {a : List Nat} {i : Nat} (h : i < a.length) : a.getD i 0 ∈ a := by
  rw [List.getD_eq_getElem?_getD, List.getElem?_eq_getElem h]
  exact List.getElem_mem h
theorem byN {x : Nat} (h : x < 128) : vp_nar .byte (nI x) = nI x := by
  have e : (nI x).toInt8.toInt32 = nI x := (sbF ⟨x, by omega⟩).2.2.2.2 h
  have := pk_vb (nI x)
  rw [e] at this
  exact this
theorem f48 {p n : Nat} {K : zS → Option zS} (hn : n < 16) : ∀ q e N σ, e + q = 8 → q < N → σ.1 p 0 = nI n → ∃ σ', L_X3_addLine_48 p K N (nI e) σ = K σ' ∧ σ'.2 = σ.2 ∧ (∀ c i, ¬ (c = p + 4 + 1 + n) → σ'.1 c i = σ.1 c i) ∧ (∀ i, i < e → σ'.1 (p + 4 + 1 + n) i = σ.1 (p + 4 + 1 + n) i) ∧ ∀ i, e ≤ i → i < 8 → σ'.1 (p + 4 + 1 + n) i = nI 0 := by
  intro q
  induction q with
  | zero =>
    intro e N σ h hN h0
    cases N with
    | zero => omega
    | succ N =>
      obtain rfl : e = 8 := by omega
      refine ⟨σ, ?_, rfl, fun _ _ _ => rfl, fun _ _ => rfl, fun i h1 h2 => by omega⟩
      rw [L_X3_addLine_48, zlet_eq, if_pos (show (8 : Int32) ≤ nI 8 by decide)]
  | succ q ih =>
    intro e N σ h hN h0
    cases N with
    | zero => omega
    | succ N =>
      have t4 : nI e + 1 = nI (e + 1) := nI_add e 1
      obtain ⟨σ', e1, e2, e3, e4, e5⟩ := ih (e + 1) N (zsI σ (p + 4 + 1 + n) e (0 : Int32)) (by omega) (by omega) (by rw [zI_n (by omega)]; exact h0)
      refine ⟨σ', ?_, e2, fun c i hc => by rw [e3 c i hc, zI_n (by omega)], fun i hi => by rw [e4 i (by omega), zI_n (by omega)], fun i h1 h2 => ?_⟩
      · rw [L_X3_addLine_48, zlet_eq, if_neg (show ¬ (8 : Int32) ≤ nI e from nI_ge (b := 8) (by omega) (by omega)), h0, zi_nI (by omega) (by omega), zg_t, zi_nI (by omega) (by omega), zg_t, zcla (by omega), zcla (by omega), zlet_eq, t4, zlet_eq]
        exact e1
      · by_cases ee : i = e
        · rw [ee, e4 e (by omega), zI_y]
          rfl
        · exact e5 i (by omega) h2
theorem caL {p t : Nat} {P : zM} {st : zST} {cur : List Nat} {σ : zS} (w : wD P st cur) (hn : zpn P < 16) (c : cD σ.1 p P st cur) : ∃ σ', J_X3_addLine p (nI t) σ = some σ' ∧ cD σ'.1 p (dLn P st t fun _ => 0) st (cur ++ [zpn P]) ∧ pfr p σ σ' := by
  obtain ⟨c1, c2, c3, c4, c5, c6, c7, s, c8, c9, c10, c11, c12⟩ := c
  obtain ⟨f1, f2, f3, ⟨f4, f5, f6, f7, f8, f9⟩, fl, ⟨fte, fad, fco, ffi, fbe, fou, frs⟩, -⟩ := Ln_f (P := P) (st := st) (t := t) (ev := fun _ => 0) w.1
  have rp : dRp (dLn P st t fun _ => 0) st = dRp P st := dRp_cg (fun q _ => by rw [fte]) st w.2.2.2.2.2.2.1
  obtain ⟨σ1, hσ1⟩ : ∃ σ1, σ1 = zsI (zsI (zsI σ (p + 1) (zpn P) (nI t)) (p + 2) (zpn P) (nI (dRp P st))) (p + 3) (zpn P) (nI st.length) := ⟨_, rfl⟩
  have o : ∀ c i, ¬ (c = p + 1 ∧ i = zpn P) → ¬ (c = p + 2 ∧ i = zpn P) → ¬ (c = p + 3 ∧ i = zpn P) → σ1.1 c i = σ.1 c i := fun c i h1 h2 h3 => by rw [hσ1, zI_n h3, zI_n h2, zI_n h1]
  have o1 : σ1.1 (p + 1) (zpn P) = nI t := by rw [hσ1, zI_n (by omega), zI_n (by omega), zI_y]
  have o2 : σ1.1 (p + 2) (zpn P) = nI (dRp P st) := by rw [hσ1, zI_n (by omega), zI_y]
  have o3 : σ1.1 (p + 3) (zpn P) = nI st.length := by rw [hσ1, zI_y]
  obtain ⟨σ2, e1, e2, e3, -, e5⟩ := f48 (p := p) (K := D_X3_addLine_72 p) hn 8 0 4294967296 σ1 (by omega) (by omega) (by rw [o _ _ (by omega) (by omega) (by omega)]; exact c1)
  have E : J_X3_addLine p (nI t) σ = D_X3_addLine_72 p σ2 := by
    unfold J_X3_addLine
    have i0 : (zsI σ (p + 1) (zpn P) (nI t)).1 p 0 = nI (zpn P) := by rw [zI_n (by omega)]; exact c1
    have i14 : (zsI σ (p + 1) (zpn P) (nI t)).1 p 14 = nI (dRp P st) := by rw [zI_n (by omega)]; exact c4
    have j0 : (zsI (zsI σ (p + 1) (zpn P) (nI t)) (p + 2) (zpn P) (nI (dRp P st))).1 p 0 = nI (zpn P) := by rw [zI_n (by omega)]; exact i0
    have j13 : (zsI (zsI σ (p + 1) (zpn P) (nI t)) (p + 2) (zpn P) (nI (dRp P st))).1 p 13 = nI st.length := by rw [zI_n (by omega), zI_n (by omega)]; exact c3
    rw [c1, if_pos (show nI (zpn P) < (16 : Int32) from nI_lt (b := 16) hn (by omega)), zi_nI hn (by omega), zg_t, zcla (by omega), zlet_eq, i0, zi_nI hn (by omega), zg_t, zcla (by omega), i14, zlet_eq, j0, zi_nI hn (by omega), zg_t, zcla (by omega), j13, zlet_eq, zlet_eq, ← hσ1]
    exact e1
  have x0 : σ2.1 p 0 = nI (zpn P) := by rw [e3 _ _ (by omega), o _ _ (by omega) (by omega) (by omega)]; exact c1
  have x15 : σ2.1 p 15 = nI s := by rw [e3 _ _ (by omega), o _ _ (by omega) (by omega) (by omega)]; exact c9
  have t4 : nI (zpn P) + 1 = nI (zpn P + 1) := nI_add _ 1
  have s4 : nI s + 1 = nI (s + 1) := nI_add s 1
  have bn : vp_nar .byte ((nI (zpn P)).toInt8.toInt32) = nI (zpn P) := by
    have e : (nI (zpn P)).toInt8.toInt32 = nI (zpn P) := (sbF ⟨zpn P, by omega⟩).2.2.2.2 (show zpn P < 128 by omega)
    rw [e]
    exact byN (by omega)
  have fla := dFl_a st cur [zpn P]
  have fll : (dFl st (cur ++ [zpn P])).length = (dFl st cur).length + 1 := by rw [fla, List.length_append]; rfl
  -- the cells of all but the steps
  have rest : ∀ (J : zI) , J p 0 = nI (zpn P + 1) → (∀ c i, ¬ (c = p ∧ (i = 0 ∨ i = 15 ∨ i = 16)) → ¬ c = p + 28 → J c i = σ2.1 c i) → cSt J p st (cur ++ [zpn P]) → cD J p (dLn P st t fun _ => 0) st (cur ++ [zpn P]) := by
    intro J J0 hJ hS
    refine ⟨by rw [f1]; exact J0, ?_, ?_, ?_, fun l hl => ?_, fun q hq => ?_, ?_, hS⟩
    · rw [hJ _ _ (by omega) (by omega), e3 _ _ (by omega), o _ _ (by omega) (by omega) (by omega), f2]; exact c2
    · rw [hJ _ _ (by omega) (by omega), e3 _ _ (by omega), o _ _ (by omega) (by omega) (by omega)]; exact c3
    · rw [hJ _ _ (by omega) (by omega), e3 _ _ (by omega), o _ _ (by omega) (by omega) (by omega), rp]; exact c4
    · by_cases e : l = zpn P
      · subst e
        refine ⟨?_, ?_, ?_, fun e he => ?_⟩
        · rw [hJ _ _ (by omega) (by omega), e3 _ _ (by omega), o1, f4]
        · rw [hJ _ _ (by omega) (by omega), e3 _ _ (by omega), o2, f5]
        · rw [hJ _ _ (by omega) (by omega), e3 _ _ (by omega), o3, f6]
        · rw [hJ _ _ (by omega) (by omega), e5 e (by omega) he, f9]
      · obtain ⟨g1, g2, g3, g4, g5, g6⟩ := fl l e
        obtain ⟨d1, d2, d3, d4⟩ := c5 l (by omega)
        refine ⟨?_, ?_, ?_, fun e he => ?_⟩
        · rw [hJ _ _ (by omega) (by omega), e3 _ _ (by omega), o _ _ (by omega) (by omega) (by omega), g1]; exact d1
        · rw [hJ _ _ (by omega) (by omega), e3 _ _ (by omega), o _ _ (by omega) (by omega) (by omega), g2]; exact d2
        · rw [hJ _ _ (by omega) (by omega), e3 _ _ (by omega), o _ _ (by omega) (by omega) (by omega), g3]; exact d3
        · rw [hJ _ _ (by omega) (by omega), e3 _ _ (by omega), o _ _ (by omega) (by omega) (by omega), g6]; exact d4 e he
    · obtain ⟨d1, d2, d3, d4, d5⟩ := c6 q (by omega)
      rw [fte, fad, fco, ffi, fbe]
      refine ⟨?_, ?_, ?_, ?_, ?_⟩
      · rw [hJ _ _ (by omega) (by omega), e3 _ _ (by omega), o _ _ (by omega) (by omega) (by omega)]; exact d1
      · rw [hJ _ _ (by omega) (by omega), e3 _ _ (by omega), o _ _ (by omega) (by omega) (by omega)]; exact d2
      · rw [hJ _ _ (by omega) (by omega), e3 _ _ (by omega), o _ _ (by omega) (by omega) (by omega)]; exact d3
      · rw [hJ _ _ (by omega) (by omega), e3 _ _ (by omega), o _ _ (by omega) (by omega) (by omega)]; exact d4
      · rw [hJ _ _ (by omega) (by omega), e3 _ _ (by omega), o _ _ (by omega) (by omega) (by omega)]; exact d5
    · exact cOp_lt (I := σ.1) st _ (Nat.le_refl _) (fun k _ => by rw [hJ _ _ (by omega) (by omega), e3 _ _ (by omega), o _ _ (by omega) (by omega) (by omega)]) c7
  have fs : ∀ (J : zI) s' , (∀ c i, ¬ (c = p ∧ (i = 0 ∨ i = 15 ∨ i = 16)) → ¬ c = p + 28 → J c i = σ2.1 c i) → s ≤ s' → cFs J p s' ((dFl st (cur ++ [zpn P])).length ≤ 6000) st := fun J s' hJ hs => cFs_cg (I := σ.1) (fun q => by rw [hJ _ _ (by omega) (by omega), e3 _ _ (by omega), o _ _ (by omega) (by omega) (by omega)]) hs (fun h => by omega) st c12
  rw [E]
  unfold D_X3_addLine_72
  rw [zlet_eq, x15]
  by_cases h6 : 6000 ≤ s
  · have z0 : (zsI σ2 p 16 (1 : Int32)).1 p 0 = nI (zpn P) := by rw [zI_n (by omega)]; exact x0
    rw [if_pos (show (6000 : Int32) ≤ nI s from nI_le (a := 6000) h6 (by omega)), zlet_eq]
    unfold D_X3_addLine_114
    rw [z0, t4, zlet_eq]
    refine ⟨_, rfl, rest _ zI_y (fun c i h1 h2 => by rw [zI_n (by omega), zI_n (by omega)]) ?_, e2.trans (by rw [hσ1]; rfl), fun c i hc => by rw [zI_n (by omega), zI_n (by omega), e3 _ _ (by omega), o _ _ (by omega) (by omega) (by omega)]⟩
    refine ⟨s, c8, by rw [zI_n (by omega), zI_n (by omega)]; exact x15, fun h => ?_, fun h => by rw [zI_n (by omega), zI_y]; rfl, fs _ s (fun c i h1 h2 => by rw [zI_n (by omega), zI_n (by omega)]) (Nat.le_refl _)⟩
    have := (c10 (by omega)).1
    omega
  · have z0 : (zsI (zsI σ2 (p + 28) s (nI (zpn P))) p 15 (nI (s + 1))).1 p 0 = nI (zpn P) := by rw [zI_n (by omega), zI_n (by omega)]; exact x0
    have z15 : (zsI σ2 (p + 28) s (nI (zpn P))).1 p 15 = nI s := by rw [zI_n (by omega)]; exact x15
    rw [if_neg (show ¬ (6000 : Int32) ≤ nI s from nI_ge (b := 6000) (by omega) (by omega)), zi_nI (by omega) (by omega), zg_t, zcla (by omega), x0, bn, zlet_eq, z15, s4, zlet_eq]
    unfold D_X3_addLine_114
    rw [z0, t4, zlet_eq]
    refine ⟨_, rfl, rest _ zI_y (fun c i h1 h2 => by rw [zI_n (by omega), zI_n (by omega), zI_n (by omega)]) ?_, e2.trans (by rw [hσ1]; rfl), fun c i hc => by rw [zI_n (by omega), zI_n (by omega), zI_n (by omega), e3 _ _ (by omega), o _ _ (by omega) (by omega) (by omega)]⟩
    refine ⟨s + 1, by omega, by rw [zI_n (by omega), zI_y], fun h => ?_, fun h => ?_, fs _ (s + 1) (fun c i h1 h2 => by rw [zI_n (by omega), zI_n (by omega), zI_n (by omega)]) (by omega)⟩
    · obtain ⟨g1, g2, g3⟩ := c10 (by omega)
      refine ⟨by omega, ?_, fun i hi => ?_⟩
      · rw [zI_n (by omega), zI_n (by omega), zI_n (by omega), e3 _ _ (by omega), o _ _ (by omega) (by omega) (by omega)]; exact g2
      · rw [zI_n (by omega), zI_n (by omega), fla]
        by_cases ei : i = s
        · rw [ei, zI_y, gd_r (by omega), show s - (dFl st cur).length = 0 by omega]
          rfl
        · rw [zI_n (by omega), e3 _ _ (by omega), o _ _ (by omega) (by omega) (by omega), gd_l (by omega)]
          exact g3 i (by omega)
    · rw [zI_n (by omega), zI_n (by omega), zI_n (by omega), e3 _ _ (by omega), o _ _ (by omega) (by omega) (by omega)]
      rcases Nat.lt_or_ge 6000 (dFl st cur).length with q | q
      · exact c11 q
      · have := (c10 q).1
        omega
