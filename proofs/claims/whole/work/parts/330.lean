set_option maxRecDepth 8000
/-! ===== samples ===== -/
theorem as_ (a b d f : Int32) (σ : zS) : (∃ e E L t, e < 8 ∧ a = nI e ∧ 1 ≤ E ∧ E ≤ 9999 ∧ b = nI E ∧ L < E ∧ d = nI L ∧ t ≤ 9 ∧ f = nI t ∧ J_X10_areSamples a b d f σ = some 1 ∧ ∀ σ', J_X11_isSampling a b d f σ' = some 1) ∨ (J_X10_areSamples a b d f σ = some 0 ∧ ∀ σ', J_X11_isSampling a b d f σ' = some 0) := by
  unfold J_X10_areSamples J_X11_isSampling
  by_cases ha : zL a 8
  · have e1 := isEvent_y (σ := σ) ha
    have e2 := fun σ => isEventM_y (σ := σ) ha
    obtain ⟨e, he, rfl⟩ := ha
    by_cases hb : zR b 1 9999
    · have b2 := fun σ => zin_y (σ := σ) (y := 1) (z := 9999) hb rfl rfl (by omega) (by omega)
      obtain ⟨E, E1, E2, rfl⟩ := hb
      have b3 : ¬ nI E < 1 := of_eq_false (z_lt_f (b := 1) (by omega) (by omega))
      have b4 : ¬ 9999 < nI E := of_eq_false (z_lt_f (a := 9999) (by omega) (by omega))
      by_cases hd : zL d E
      · have d2 := fun σ => zinm_y (σ := σ) hd (by omega)
        obtain ⟨L, hL, rfl⟩ := hd
        have d3 : ¬ nI L < 0 := nI_pos (by omega)
        have d4 : ¬ nI E ≤ nI L := nI_ge hL (by omega)
        by_cases hf : zL f 10
        · have f2 := fun σ => in4_y (σ := σ) 10 hf (by decide)
          have f2' : ∀ σ, J_X11_in f.toInt64 0 9 σ = some 1 := f2
          have hf' := hf
          obtain ⟨t, ht, hft⟩ := hf'
          left
          refine ⟨e, E, L, t, he, rfl, E1, E2, rfl, hL, rfl, by omega, hft, ?_, ?_⟩
          · rw [hft]
            have f3 : ¬ nI t < 0 := nI_pos (by omega)
            have f4 : ¬ 9 < nI t := of_eq_false (z_lt_f (a := 9) (by omega) (by omega))
            simp only [zlet_eq, zg_t, zb_s, zb2_s, z10_eq, eq_self, ↓reduceIte, e1, b3, b4, d3, d4, f3, f4]
          · intro σ'
            simp only [zlet_eq, zg_t, zb_s, zb2_s, z10_eq, eq_self, ↓reduceIte, e2, b2, d2, f2']
        · have f2 := fun σ => in4_n (σ := σ) 10 hf (by decide) (by decide)
          have f2' : ∀ σ, J_X11_in f.toInt64 0 9 σ = some 0 := f2
          right
          refine ⟨?_, ?_⟩
          · simp only [zlet_eq, zg_t, zb_s, zb2_s, z10_eq, eq_self, ↓reduceIte, e1, b3, b4, d3, d4]
            by_cases h0 : f < 0
            · rw [if_pos h0]
            · rw [if_neg h0]
              obtain ⟨j, hj, rfl⟩ := nI_of h0
              exact if_pos (nI_lt (a := 9) (Nat.lt_of_not_le fun q => hf ⟨j, by omega, rfl⟩) hj)
          · intro σ'
            simp only [zlet_eq, zg_t, zb_s, zb2_s, z10_eq, eq_self, ↓reduceIte, e2, b2, d2, f2']
      · have d2 := fun σ => zinm_n (σ := σ) hd (by omega)
        right
        refine ⟨?_, ?_⟩
        · simp only [zlet_eq, zg_t, zb_s, zb2_s, z10_eq, eq_self, ↓reduceIte, e1, b3, b4]
          exact zL_n hd (by omega)
        · intro σ'
          simp only [zlet_eq, zg_t, zb_s, zb2_s, z10_eq, eq_self, ↓reduceIte, e2, b2, d2]
    · have b2 := fun σ => zin_n (σ := σ) (y := 1) (z := 9999) hb rfl rfl (by omega) (by omega)
      right
      refine ⟨?_, ?_⟩
      · simp only [zlet_eq, zg_t, zb_s, zb2_s, z10_eq, eq_self, ↓reduceIte, e1]
        rcases zlt0 hb (by omega) (by omega) with h1 | h1
        · rw [if_pos (show b < 1 from h1)]
        · by_cases h2 : b < 1
          · rw [if_pos h2]
          · rw [if_neg h2]
            exact if_pos h1
      · intro σ'
        simp only [zlet_eq, zg_t, zb_s, zb2_s, z10_eq, eq_self, ↓reduceIte, e2, b2]
  · have e1 := isEvent_n (σ := σ) ha
    have e2 := fun σ => isEventM_n (σ := σ) ha
    right
    exact ⟨by simp only [zlet_eq, zg_t, zb_s, zb2_s, z10_eq, eq_self, ↓reduceIte, e1], fun σ' => by simp only [zlet_eq, zg_t, zb_s, zb2_s, z10_eq, eq_self, ↓reduceIte, e2]⟩
/-- what is left over, and how many samples fall, at a step -/
def zsq (P : zM) (e E L : Nat) : Nat → Nat
  | 0 => L
  | i + 1 => (zsq P e E L i + zge P e i) % E
def zsn (P : zM) (e E L i : Nat) : Nat := (zsq P e E L i + zge P e i) / E
def zsls (P : zM) (e E L t : Nat) : Nat → Nat := zsm fun i => if i + t < zps P then 0 else zsn P e E L i
def zsal (P : zM) (e E L t : Nat) : Nat → Nat := zsm fun i => if i + t < zps P then zsn P e E L i else 0
def zssh (P : zM) (e E L t l : Nat) : Nat → Nat := zsm fun i => if i + t < zps P ∧ zplo P (i + t) = l then zsn P e E L i else 0
theorem zsq_lt {P : zM} {e E L : Nat} (hE : 1 ≤ E) (hL : L < E) : ∀ i, zsq P e E L i < E := by
  intro i
  cases i with
  | zero => exact hL
  | succ i => exact Nat.mod_lt _ (by omega)
theorem zs_inv {P : zM} {e E L t : Nat} : ∀ i, (zsal P e E L t i + zsls P e E L t i) * E + zsq P e E L i = L + zsm (zge P e) i := by
  intro i
  induction i with
  | zero => exact (congrArg (· + L) (Nat.zero_mul E)).trans (Nat.add_comm _ _)
  | succ i ih =>
    have hd := Nat.div_add_mod (zsq P e E L i + zge P e i) E
    have s1 : zsal P e E L t (i + 1) + zsls P e E L t (i + 1) = zsal P e E L t i + zsls P e E L t i + zsn P e E L i := by
      unfold zsal zsls
      rw [zsm_s, zsm_s]
      split <;> omega
    rw [s1, Nat.add_mul, zsm_s]
    have s2 : zsn P e E L i * E = E * ((zsq P e E L i + zge P e i) / E) := Nat.mul_comm _ _
    rw [s2]
    show _ + _ + (zsq P e E L i + zge P e i) % E = _
    omega
theorem zs_b {P : zM} (w : wPr P) {e E L t : Nat} (he : e < 8) (hE : 1 ≤ E) (hL : L ≤ 9999) {i : Nat} (hi : i ≤ zps P) : zsal P e E L t i + zsls P e E L t i ≤ 610000 := by
  have h1 := zs_inv (P := P) (e := e) (E := E) (L := L) (t := t) i
  have h2 : zsal P e E L t i + zsls P e E L t i ≤ (zsal P e E L t i + zsls P e E L t i) * E := Nat.le_mul_of_pos_right _ hE
  have h3 : zsm (zge P e) i ≤ zsm (zge P e) (zps P) := zsm_mono hi
  have h4 := ev_tot w e
  have h5 := zto_le w he
  omega
theorem zssh_le {P : zM} {e E L t l : Nat} (i : Nat) : zssh P e E L t l i ≤ zsal P e E L t i := by
  apply zsm_le
  intro j _
  by_cases h : j + t < zps P
  · rw [if_pos h]
    split
    · exact Nat.le_refl _
    · omega
  · rw [if_neg h, if_neg (fun q => h q.1)]
    exact Nat.le_refl _
theorem zssh_0 {P : zM} (w : wPr P) {e E L t l : Nat} (h : zpn P ≤ l) : ∀ i, zssh P e E L t l i = 0 := by
  intro i
  induction i with
  | zero => rfl
  | succ i ih =>
    have s : zssh P e E L t l (i + 1) = zssh P e E L t l i + (if i + t < zps P ∧ zplo P (i + t) = l then zsn P e E L i else 0) := rfl
    rw [s, ih, if_neg]
    rintro ⟨h1, h2⟩
    have := w.2.2.2.2.2.1 _ h1
    omega
theorem zsal_none {P : zM} (w : wPr P) {e E L t : Nat} (hE : 1 ≤ E) (hL : L < E) (h0 : zto P e = 0) : zsal P e E L t (zps P) = 0 := by
  have h1 := zs_inv (P := P) (e := e) (E := E) (L := L) (t := t) (zps P)
  rw [ev_tot w e, h0] at h1
  by_cases hz : zsal P e E L t (zps P) + zsls P e E L t (zps P) = 0
  · omega
  · have : 1 * E ≤ (zsal P e E L t (zps P) + zsls P e E L t (zps P)) * E := Nat.mul_le_mul_right _ (by omega)
    omega
/-- the class's cells after some steps -/
def zcS (I : zI) (P : zM) (e E L t i : Nat) : Prop := I 89 1 = nI (zsal P e E L t i) ∧ I 89 2 = nI (zsls P e E L t i) ∧ ∀ l, l < 16 → I 90 l = nI (zssh P e E L t l i)
def zmS (I : zI) (P : zM) (e E L t i : Nat) : Prop := I 105 45 = nI (zsal P e E L t i + zsls P e E L t i) ∧ I 105 46 = nI (zsls P e E L t i) ∧ ∀ l, l < 16 → I 130 l = nI (zssh P e E L t l i)
theorem sk10 {p : Nat} {P : zM} (hp : p = 3 ∨ p = 33) (w : wPr P) {e E L t : Nat} (he : e < 8) (h1 : 1 ≤ E) (h2 : E ≤ 9999) (hL : L < E) (ht : t ≤ 9) : ∀ k i n σ, i + k = zps P → k < n → cPr σ.1 p P → zcS σ.1 P e E L t i → ∃ σ', L_X6_take_47 p (nI e) (nI E) (nI t) n (nI (zsq P e E L i)) (nI i) σ = some σ' ∧ σ'.2.2 = σ.2.2 ∧ (∀ c j, ¬ (c = 89 ∨ c = 90) → σ'.1 c j = σ.1 c j) ∧ zcS σ'.1 P e E L t (zps P) := by
  intro k
  induction k with
  | zero =>
    intro i n σ h hn c hs
    cases n with
    | zero => omega
    | succ n =>
      obtain rfl : i = zps P := by omega
      have w3 := w.2.2.1
      have c3 := c.2.2.1
      rw [L_X6_take_47]
      exact ⟨σ, by simp (disch := omega) only [zlet_eq, zg_t, zb_s, zb2_s, zl_0, zl_1, zl_2, zl_3, zl_4, zl_5, zl_6, zl_7, zl_8, zl_9, zl_10, zl_12, zl_16, zl_19, zl_20, zl_24, zl_31, zl_36, zl_39, zl_40, zl_48, zl_57, zl_63, zl_80, zl_97, zl_99, zl_100, zl_122, zl_128, zl_160, zl_199, zl_200, zl_255, zl_256, zl_320, zl_999, zl_6000, zl_6001, zl_9999, zl_999999, zq_0, zq_1, zq_2, zq_3, zq_4, zq_5, zq_7, zq_9, zq_10, zq_16, zq_17, zq_20, zq_48, zq_57, zq_97, zq_100, zq_122, zq_255, zq_999, zq_6000, zq_9999, zq_999999, nI_add, pk_mul, z_le_t, z_le_f, z_lt_t, z_lt_f, z_eq_t, z_eq_f, zcla, zi_nI, ↓reduceIte, z_ng, z_ngb, z_ngl, z_ngt, zI_y, zI_n, zI_2, zL_1, zL_2, nI_l, inN_t, inN_f, z_or0, lc_le_t, lc_le_f, lc_lt_t, lc_lt_f, lc_ge_t, lc_ge_f, lc_gt_t, lc_gt_f, lc_eq_t, lc_eq_f, z_ngle, lN_i, lN_add, lN_mul, c3], rfl, fun _ _ _ => rfl, hs⟩
  | succ k ih =>
    intro i n σ h hn c hs
    cases n with
    | zero => omega
    | succ n =>
      have w3 := w.2.2.1
      have w1 := w.1
      have w6 := w.2.2.2.2.2.1 i (by omega)
      have c' := c
      obtain ⟨c1, c2, c3, c4, c5, c6, c7⟩ := c
      obtain ⟨s1, s2, s3⟩ := hs
      have gl := zge_le w he (show i < zps P by omega)
      have ql := zsq_lt (P := P) (e := e) h1 hL i
      have dv : nI (zsq P e E L i + zge P e i) / nI E = nI (zsn P e E L i) := pk_div (by omega) (by omega) (by omega)
      have rm : nI (zsq P e E L i + zge P e i) - nI (zsn P e E L i) * nI E = nI (zsq P e E L (i + 1)) := by
        rw [← dv]
        exact pk_rem (by omega) (by omega) (by omega)
      have eal : zsal P e E L t (i + 1) = zsal P e E L t i + (if i + t < zps P then zsn P e E L i else 0) := rfl
      have els : zsls P e E L t (i + 1) = zsls P e E L t i + (if i + t < zps P then 0 else zsn P e E L i) := rfl
      have esh : ∀ l, zssh P e E L t l (i + 1) = zssh P e E L t l i + (if i + t < zps P ∧ zplo P (i + t) = l then zsn P e E L i else 0) := fun l => rfl
      rw [L_X6_take_47]
      by_cases hlt : zsq P e E L i + zge P e i < E
      · have n0 : zsn P e E L i = 0 := Nat.div_eq_of_lt hlt
        have q0 : zsq P e E L (i + 1) = zsq P e E L i + zge P e i := Nat.mod_eq_of_lt hlt
        obtain ⟨σ', q1, q2, q3, q4⟩ := ih (i + 1) n σ (by omega) (by omega) c' ⟨by rw [eal, n0]; simpa using s1, by rw [els, n0]; simpa using s2, fun l hl => by rw [esh, n0]; simpa using s3 l hl⟩
        refine ⟨σ', ?_, q2, q3, q4⟩
        rw [q0] at q1
        have hlt' : zsq P e E L i + zpev P (zplo P i) e < E := hlt
        simp (disch := omega) only [zlet_eq, zg_t, zb_s, zb2_s, zl_0, zl_1, zl_2, zl_3, zl_4, zl_5, zl_6, zl_7, zl_8, zl_9, zl_10, zl_12, zl_16, zl_19, zl_20, zl_24, zl_31, zl_36, zl_39, zl_40, zl_48, zl_57, zl_63, zl_80, zl_97, zl_99, zl_100, zl_122, zl_128, zl_160, zl_199, zl_200, zl_255, zl_256, zl_320, zl_999, zl_6000, zl_6001, zl_9999, zl_999999, zq_0, zq_1, zq_2, zq_3, zq_4, zq_5, zq_7, zq_9, zq_10, zq_16, zq_17, zq_20, zq_48, zq_57, zq_97, zq_100, zq_122, zq_255, zq_999, zq_6000, zq_9999, zq_999999, nI_add, pk_mul, z_le_t, z_le_f, z_lt_t, z_lt_f, z_eq_t, z_eq_f, zcla, zi_nI, ↓reduceIte, z_ng, z_ngb, z_ngl, z_ngt, zI_y, zI_n, zI_2, zL_1, zL_2, nI_l, inN_t, inN_f, z_or0, lc_le_t, lc_le_f, lc_lt_t, lc_lt_f, lc_ge_t, lc_ge_f, lc_gt_t, lc_gt_f, lc_eq_t, lc_eq_f, z_ngle, lN_i, lN_add, lN_mul, c3, c6, c4]
        exact q1
      · have hlt' : E ≤ zsq P e E L i + zpev P (zplo P i) e := Nat.le_of_not_lt hlt
        have gl' : zpev P (zplo P i) e ≤ 99 := gl
        have dv' : nI (zsq P e E L i + zpev P (zplo P i) e) / nI E = nI (zsn P e E L i) := dv
        have rm' : nI (zsq P e E L i + zpev P (zplo P i) e) - nI (zsn P e E L i * E) = nI (zsq P e E L (i + 1)) := by rw [← pk_mul]; exact rm
        by_cases hst : i + t < zps P
        · have w7 := w.2.2.2.2.2.1 (i + t) hst
          let τ : zS := zsI (zsI σ 90 (zplo P (i + t)) (nI (zssh P e E L t (zplo P (i + t)) i + zsn P e E L i))) 89 1 (nI (zsal P e E L t i + zsn P e E L i))
          have ct : cPr τ.1 p P := cPr_c (I := σ.1) (fun c i hc => by rw [zI_n (by omega), zI_n (by omega)]) w c'
          have st : zcS τ.1 P e E L t (i + 1) := by
            refine ⟨?_, ?_, ?_⟩
            · rw [eal, if_pos hst, zI_y]
            · rw [els, if_pos hst, zI_n (by omega), zI_n (by omega), s2, Nat.add_zero]
            · intro l hl
              rw [esh, zI_n (by omega)]
              by_cases hl2 : zplo P (i + t) = l
              · subst hl2
                rw [if_pos ⟨hst, rfl⟩, zI_y]
              · rw [if_neg (fun q => hl2 q.2), zI_n (by omega), s3 l hl, Nat.add_zero]
          obtain ⟨σ', q1, q2, q3, q4⟩ := ih (i + 1) n τ (by omega) (by omega) ct st
          have show_ : J_X6_show p (nI i + nI t) (nI (zsn P e E L i)) σ = some τ := by
            unfold J_X6_show
            have s3' := s3 (zplo P (i + t)) (by omega)
            simp (disch := omega) only [zlet_eq, zg_t, zb_s, zb2_s, zl_0, zl_1, zl_2, zl_3, zl_4, zl_5, zl_6, zl_7, zl_8, zl_9, zl_10, zl_12, zl_16, zl_19, zl_20, zl_24, zl_31, zl_36, zl_39, zl_40, zl_48, zl_57, zl_63, zl_80, zl_97, zl_99, zl_100, zl_122, zl_128, zl_160, zl_199, zl_200, zl_255, zl_256, zl_320, zl_999, zl_6000, zl_6001, zl_9999, zl_999999, zq_0, zq_1, zq_2, zq_3, zq_4, zq_5, zq_7, zq_9, zq_10, zq_16, zq_17, zq_20, zq_48, zq_57, zq_97, zq_100, zq_122, zq_255, zq_999, zq_6000, zq_9999, zq_999999, nI_add, pk_mul, z_le_t, z_le_f, z_lt_t, z_lt_f, z_eq_t, z_eq_f, zcla, zi_nI, ↓reduceIte, z_ng, z_ngb, z_ngl, z_ngt, zI_y, zI_n, zI_2, zL_1, zL_2, nI_l, inN_t, inN_f, z_or0, lc_le_t, lc_le_f, lc_lt_t, lc_lt_f, lc_ge_t, lc_ge_f, lc_gt_t, lc_gt_f, lc_eq_t, lc_eq_f, z_ngle, lN_i, lN_add, lN_mul, c3, c6, s3', s1]
            rfl
          refine ⟨σ', ?_, q2, fun c j hc => by rw [q3 c j hc, zI_n (by omega), zI_n (by omega)], q4⟩
          rw [nI_add] at show_
          simp (disch := omega) only [zlet_eq, zg_t, zb_s, zb2_s, zl_0, zl_1, zl_2, zl_3, zl_4, zl_5, zl_6, zl_7, zl_8, zl_9, zl_10, zl_12, zl_16, zl_19, zl_20, zl_24, zl_31, zl_36, zl_39, zl_40, zl_48, zl_57, zl_63, zl_80, zl_97, zl_99, zl_100, zl_122, zl_128, zl_160, zl_199, zl_200, zl_255, zl_256, zl_320, zl_999, zl_6000, zl_6001, zl_9999, zl_999999, zq_0, zq_1, zq_2, zq_3, zq_4, zq_5, zq_7, zq_9, zq_10, zq_16, zq_17, zq_20, zq_48, zq_57, zq_97, zq_100, zq_122, zq_255, zq_999, zq_6000, zq_9999, zq_999999, nI_add, pk_mul, z_le_t, z_le_f, z_lt_t, z_lt_f, z_eq_t, z_eq_f, zcla, zi_nI, ↓reduceIte, z_ng, z_ngb, z_ngl, z_ngt, zI_y, zI_n, zI_2, zL_1, zL_2, nI_l, inN_t, inN_f, z_or0, lc_le_t, lc_le_f, lc_lt_t, lc_lt_f, lc_ge_t, lc_ge_f, lc_gt_t, lc_gt_f, lc_eq_t, lc_eq_f, z_ngle, lN_i, lN_add, lN_mul, c3, c6, c4, zn_nI, dv', rm', show_]
          exact q1
        · let τ : zS := zsI σ 89 2 (nI (zsls P e E L t i + zsn P e E L i))
          have ct : cPr τ.1 p P := cPr_c (I := σ.1) (fun c i hc => by rw [zI_n (by omega)]) w c'
          have st : zcS τ.1 P e E L t (i + 1) := by
            refine ⟨?_, ?_, ?_⟩
            · rw [eal, if_neg hst, zI_n (by omega), s1, Nat.add_zero]
            · rw [els, if_neg hst, zI_y]
            · intro l hl
              rw [esh, if_neg (fun q => hst q.1), zI_n (by omega), s3 l hl, Nat.add_zero]
          obtain ⟨σ', q1, q2, q3, q4⟩ := ih (i + 1) n τ (by omega) (by omega) ct st
          have show_ : J_X6_show p (nI i + nI t) (nI (zsn P e E L i)) σ = some τ := by
            unfold J_X6_show
            simp (disch := omega) only [zlet_eq, zg_t, zb_s, zb2_s, zl_0, zl_1, zl_2, zl_3, zl_4, zl_5, zl_6, zl_7, zl_8, zl_9, zl_10, zl_12, zl_16, zl_19, zl_20, zl_24, zl_31, zl_36, zl_39, zl_40, zl_48, zl_57, zl_63, zl_80, zl_97, zl_99, zl_100, zl_122, zl_128, zl_160, zl_199, zl_200, zl_255, zl_256, zl_320, zl_999, zl_6000, zl_6001, zl_9999, zl_999999, zq_0, zq_1, zq_2, zq_3, zq_4, zq_5, zq_7, zq_9, zq_10, zq_16, zq_17, zq_20, zq_48, zq_57, zq_97, zq_100, zq_122, zq_255, zq_999, zq_6000, zq_9999, zq_999999, nI_add, pk_mul, z_le_t, z_le_f, z_lt_t, z_lt_f, z_eq_t, z_eq_f, zcla, zi_nI, ↓reduceIte, z_ng, z_ngb, z_ngl, z_ngt, zI_y, zI_n, zI_2, zL_1, zL_2, nI_l, inN_t, inN_f, z_or0, lc_le_t, lc_le_f, lc_lt_t, lc_lt_f, lc_ge_t, lc_ge_f, lc_gt_t, lc_gt_f, lc_eq_t, lc_eq_f, z_ngle, lN_i, lN_add, lN_mul, c3, s2]
            rfl
          refine ⟨σ', ?_, q2, fun c j hc => by rw [q3 c j hc, zI_n (by omega)], q4⟩
          rw [nI_add] at show_
          simp (disch := omega) only [zlet_eq, zg_t, zb_s, zb2_s, zl_0, zl_1, zl_2, zl_3, zl_4, zl_5, zl_6, zl_7, zl_8, zl_9, zl_10, zl_12, zl_16, zl_19, zl_20, zl_24, zl_31, zl_36, zl_39, zl_40, zl_48, zl_57, zl_63, zl_80, zl_97, zl_99, zl_100, zl_122, zl_128, zl_160, zl_199, zl_200, zl_255, zl_256, zl_320, zl_999, zl_6000, zl_6001, zl_9999, zl_999999, zq_0, zq_1, zq_2, zq_3, zq_4, zq_5, zq_7, zq_9, zq_10, zq_16, zq_17, zq_20, zq_48, zq_57, zq_97, zq_100, zq_122, zq_255, zq_999, zq_6000, zq_9999, zq_999999, nI_add, pk_mul, z_le_t, z_le_f, z_lt_t, z_lt_f, z_eq_t, z_eq_f, zcla, zi_nI, ↓reduceIte, z_ng, z_ngb, z_ngl, z_ngt, zI_y, zI_n, zI_2, zL_1, zL_2, nI_l, inN_t, inN_f, z_or0, lc_le_t, lc_le_f, lc_lt_t, lc_lt_f, lc_ge_t, lc_ge_f, lc_gt_t, lc_gt_f, lc_eq_t, lc_eq_f, z_ngle, lN_i, lN_add, lN_mul, c3, c6, c4, zn_nI, dv', rm', show_]
          exact q1
theorem sz10 (K : zS → Option zS) : ∀ k l n σ, l + k = 16 → k < n → ∃ σ', L_X6_take_3 K n (nI l) σ = K σ' ∧ σ'.2.2 = σ.2.2 ∧ (∀ c j, ¬ (c = 90 ∧ l ≤ j ∧ j < 16) → σ'.1 c j = σ.1 c j) ∧ ∀ j, l ≤ j → j < 16 → σ'.1 90 j = nI 0 := by
  intro k
  induction k with
  | zero =>
    intro l n σ h hn
    cases n with
    | zero => omega
    | succ n =>
      obtain rfl : l = 16 := by omega
      rw [L_X6_take_3]
      exact ⟨σ, by simp (disch := omega) only [zlet_eq, zg_t, zb_s, zb2_s, zl_0, zl_1, zl_2, zl_3, zl_4, zl_5, zl_6, zl_7, zl_8, zl_9, zl_10, zl_12, zl_16, zl_19, zl_20, zl_24, zl_31, zl_36, zl_39, zl_40, zl_48, zl_57, zl_63, zl_80, zl_97, zl_99, zl_100, zl_122, zl_128, zl_160, zl_199, zl_200, zl_255, zl_256, zl_320, zl_999, zl_6000, zl_6001, zl_9999, zl_999999, zq_0, zq_1, zq_2, zq_3, zq_4, zq_5, zq_7, zq_9, zq_10, zq_16, zq_17, zq_20, zq_48, zq_57, zq_97, zq_100, zq_122, zq_255, zq_999, zq_6000, zq_9999, zq_999999, nI_add, pk_mul, z_le_t, z_le_f, z_lt_t, z_lt_f, z_eq_t, z_eq_f, zcla, zi_nI, ↓reduceIte, z_ng, z_ngb, z_ngl, z_ngt, zI_y, zI_n, zI_2, zL_1, zL_2, nI_l, inN_t, inN_f, z_or0, lc_le_t, lc_le_f, lc_lt_t, lc_lt_f, lc_ge_t, lc_ge_f, lc_gt_t, lc_gt_f, lc_eq_t, lc_eq_f, z_ngle, lN_i, lN_add, lN_mul], rfl, fun _ _ _ => rfl, fun j h1 h2 => absurd h1 (by omega)⟩
  | succ k ih =>
    intro l n σ h hn
    cases n with
    | zero => omega
    | succ n =>
      rw [L_X6_take_3]
      obtain ⟨σ', e1, e2, e3, e4⟩ := ih (l + 1) n (zsI σ 90 l (nI 0)) (by omega) (by omega)
      refine ⟨σ', by simp (disch := omega) only [zlet_eq, zg_t, zb_s, zb2_s, zl_0, zl_1, zl_2, zl_3, zl_4, zl_5, zl_6, zl_7, zl_8, zl_9, zl_10, zl_12, zl_16, zl_19, zl_20, zl_24, zl_31, zl_36, zl_39, zl_40, zl_48, zl_57, zl_63, zl_80, zl_97, zl_99, zl_100, zl_122, zl_128, zl_160, zl_199, zl_200, zl_255, zl_256, zl_320, zl_999, zl_6000, zl_6001, zl_9999, zl_999999, zq_0, zq_1, zq_2, zq_3, zq_4, zq_5, zq_7, zq_9, zq_10, zq_16, zq_17, zq_20, zq_48, zq_57, zq_97, zq_100, zq_122, zq_255, zq_999, zq_6000, zq_9999, zq_999999, nI_add, pk_mul, z_le_t, z_le_f, z_lt_t, z_lt_f, z_eq_t, z_eq_f, zcla, zi_nI, ↓reduceIte, z_ng, z_ngb, z_ngl, z_ngt, zI_y, zI_n, zI_2, zL_1, zL_2, nI_l, inN_t, inN_f, z_or0, lc_le_t, lc_le_f, lc_lt_t, lc_lt_f, lc_ge_t, lc_ge_f, lc_gt_t, lc_gt_f, lc_eq_t, lc_eq_f, z_ngle, lN_i, lN_add, lN_mul]; exact e1, e2, fun c j hc => by rw [e3 c j (by omega), zI_n (by omega)], ?_⟩
      intro j h1 h2
      by_cases hj : j = l
      · subst hj
        rw [e3 _ _ (by omega), zI_y]
      · exact e4 j (by omega) h2
theorem st10 {p : Nat} {P : zM} {σ : zS} (hp : p = 3 ∨ p = 33) (w : wPr P) {e E L t : Nat} (he : e < 8) (h1 : 1 ≤ E) (h2 : E ≤ 9999) (hL : L < E) (ht : t ≤ 9) (c : cPr σ.1 p P) : ∃ σ', J_X6_take p (nI e) (nI E) (nI L) (nI t) σ = some σ' ∧ zsim σ σ' ∧ (∀ c j, ¬ (c = 89 ∨ c = 90) → σ'.1 c j = σ.1 c j) ∧ zcS σ'.1 P e E L t (zps P) := by
  have w3 := w.2.2.1
  obtain ⟨σ1, a1, a2, a3, a4⟩ := sz10 (D_X6_take_24 p (nI e) (nI E) (nI L) (nI t)) 16 0 4294967296 σ (by omega) (by omega)
  obtain ⟨σ2, b1, b2, b3, b4⟩ := sk10 hp w he h1 h2 hL ht (zps P) 0 4294967296 (zsI (zsI σ1 89 1 (nI 0)) 89 2 (nI 0)) (by omega) (by omega) (cPr_c (I := σ.1) (fun c i hc => by rw [zI_n (by omega), zI_n (by omega), a3 _ _ (by omega)]) w c) ⟨by rw [zI_n (by omega), zI_y]; rfl, by rw [zI_y]; rfl, fun l hl => by rw [zI_n (by omega), zI_n (by omega), a4 l (by omega) hl]; rfl⟩
  have ff : ∀ c j, ¬ (c = 89 ∨ c = 90) → σ2.1 c j = σ.1 c j := fun c j hc => by rw [b3 c j hc, zI_n (by omega), zI_n (by omega), a3 _ _ (by omega)]
  refine ⟨σ2, ?_, ⟨fun c j h1 h2 => ff c j (by simp only [zscr] at h1; omega), b2.trans a2⟩, ff, b4⟩
  unfold J_X6_take
  rw [zlet_eq]
  refine a1.trans ?_
  unfold D_X6_take_24
  have h1' : (1 : Int32) ≤ nI E := of_eq_true (z_le_t (a := 1) h1 (by omega))
  rw [zlet_eq, zlet_eq, if_pos h1']
  exact b1
theorem sk11 {P : zM} (w : wPr P) {e E L t : Nat} (he : e < 8) (h1 : 1 ≤ E) (h2 : E ≤ 9999) (hL : L < E) (ht : t ≤ 9) : ∀ k i n σ, i + k = zps P → k < n → mPr σ.1 P → zmS σ.1 P e E L t i → ∃ σ', L_X11_findSamples_40 (nI e) (nI E) (nI t) n (nI (zsq P e E L i)) (nI i) σ = some σ' ∧ σ'.2.2 = σ.2.2 ∧ (∀ c j, ¬ (c = 130 ∨ (c = 105 ∧ (j = 45 ∨ j = 46))) → σ'.1 c j = σ.1 c j) ∧ zmS σ'.1 P e E L t (zps P) := by
  intro k
  induction k with
  | zero =>
    intro i n σ h hn c hs
    cases n with
    | zero => omega
    | succ n =>
      obtain rfl : i = zps P := by omega
      have w3 := w.2.2.1
      have c3 := c.2.2.1
      rw [L_X11_findSamples_40]
      exact ⟨σ, by simp (disch := omega) only [zlet_eq, zg_t, zb_s, zb2_s, zl_0, zl_1, zl_2, zl_3, zl_4, zl_5, zl_6, zl_7, zl_8, zl_9, zl_10, zl_12, zl_16, zl_19, zl_20, zl_24, zl_31, zl_36, zl_39, zl_40, zl_48, zl_57, zl_63, zl_80, zl_97, zl_99, zl_100, zl_122, zl_128, zl_160, zl_199, zl_200, zl_255, zl_256, zl_320, zl_999, zl_6000, zl_6001, zl_9999, zl_999999, zq_0, zq_1, zq_2, zq_3, zq_4, zq_5, zq_7, zq_9, zq_10, zq_16, zq_17, zq_20, zq_48, zq_57, zq_97, zq_100, zq_122, zq_255, zq_999, zq_6000, zq_9999, zq_999999, nI_add, pk_mul, z_le_t, z_le_f, z_lt_t, z_lt_f, z_eq_t, z_eq_f, zcla, zi_nI, ↓reduceIte, z_ng, z_ngb, z_ngl, z_ngt, zI_y, zI_n, zI_2, zL_1, zL_2, nI_l, inN_t, inN_f, z_or0, lc_le_t, lc_le_f, lc_lt_t, lc_lt_f, lc_ge_t, lc_ge_f, lc_gt_t, lc_gt_f, lc_eq_t, lc_eq_f, z_ngle, lN_i, lN_add, lN_mul, c3], rfl, fun _ _ _ => rfl, hs⟩
  | succ k ih =>
    intro i n σ h hn c hs
    cases n with
    | zero => omega
    | succ n =>
      have w3 := w.2.2.1
      have w1 := w.1
      have w6 := w.2.2.2.2.2.1 i (by omega)
      have c' := c
      have e0 := made11 (σ := σ) (i := zplo P i) (e := e) c w1 w6 he
      obtain ⟨c1, c2, c3, c4, c5, c6, c7⟩ := c
      obtain ⟨s1, s2, s3⟩ := hs
      have gl : zpev P (zplo P i) e ≤ 99 := zge_le w he (show i < zps P by omega)
      have ql := zsq_lt (P := P) (e := e) h1 hL i
      have dv : nI (zsq P e E L i + zpev P (zplo P i) e) / nI E = nI (zsn P e E L i) := pk_div (by omega) (by omega) (by omega)
      have rm : nI (zsq P e E L i + zpev P (zplo P i) e) - nI (zsn P e E L i * E) = nI (zsq P e E L (i + 1)) := by
        rw [← pk_mul, ← dv]
        exact pk_rem (by omega) (by omega) (by omega)
      have eal : zsal P e E L t (i + 1) = zsal P e E L t i + (if i + t < zps P then zsn P e E L i else 0) := rfl
      have els : zsls P e E L t (i + 1) = zsls P e E L t i + (if i + t < zps P then 0 else zsn P e E L i) := rfl
      have esh : ∀ l, zssh P e E L t l (i + 1) = zssh P e E L t l i + (if i + t < zps P ∧ zplo P (i + t) = l then zsn P e E L i else 0) := fun l => rfl
      rw [L_X11_findSamples_40]
      by_cases hst : i + t < zps P
      · have w7 := w.2.2.2.2.2.1 (i + t) hst
        let τ : zS := zsI (zsI σ 105 45 (nI (zsal P e E L t i + zsls P e E L t i + zsn P e E L i))) 130 (zplo P (i + t)) (nI (zssh P e E L t (zplo P (i + t)) i + zsn P e E L i))
        have ct : mPr τ.1 P := mPr_c (I := σ.1) (fun c i hc => by rw [zI_n (by omega), zI_n (by omega)]) c'
        have st : zmS τ.1 P e E L t (i + 1) := by
          refine ⟨?_, ?_, ?_⟩
          · rw [eal, els, if_pos hst, if_pos hst, zI_n (by omega), zI_y]
            congr 1
            omega
          · rw [els, if_pos hst, zI_n (by omega), zI_n (by omega), s2, Nat.add_zero]
          · intro l hl
            rw [esh]
            by_cases hl2 : zplo P (i + t) = l
            · subst hl2
              rw [if_pos ⟨hst, rfl⟩, zI_y]
            · rw [if_neg (fun q => hl2 q.2), zI_n (by omega), zI_n (by omega), s3 l hl, Nat.add_zero]
        obtain ⟨σ', q1, q2, q3, q4⟩ := ih (i + 1) n τ (by omega) (by omega) ct st
        have s3' := s3 (zplo P (i + t)) (by omega)
        refine ⟨σ', ?_, q2, fun c j hc => by rw [q3 c j hc, zI_n (by omega), zI_n (by omega)], q4⟩
        simp (disch := omega) only [zlet_eq, zg_t, zb_s, zb2_s, zl_0, zl_1, zl_2, zl_3, zl_4, zl_5, zl_6, zl_7, zl_8, zl_9, zl_10, zl_12, zl_16, zl_19, zl_20, zl_24, zl_31, zl_36, zl_39, zl_40, zl_48, zl_57, zl_63, zl_80, zl_97, zl_99, zl_100, zl_122, zl_128, zl_160, zl_199, zl_200, zl_255, zl_256, zl_320, zl_999, zl_6000, zl_6001, zl_9999, zl_999999, zq_0, zq_1, zq_2, zq_3, zq_4, zq_5, zq_7, zq_9, zq_10, zq_16, zq_17, zq_20, zq_48, zq_57, zq_97, zq_100, zq_122, zq_255, zq_999, zq_6000, zq_9999, zq_999999, nI_add, pk_mul, z_le_t, z_le_f, z_lt_t, z_lt_f, z_eq_t, z_eq_f, zcla, zi_nI, ↓reduceIte, z_ng, z_ngb, z_ngl, z_ngt, zI_y, zI_n, zI_2, zL_1, zL_2, nI_l, inN_t, inN_f, z_or0, lc_le_t, lc_le_f, lc_lt_t, lc_lt_f, lc_ge_t, lc_ge_f, lc_gt_t, lc_gt_f, lc_eq_t, lc_eq_f, z_ngle, lN_i, lN_add, lN_mul, c3, c7, e0, zn_nI, dv, rm, s1, s3']
        exact q1
      · let τ : zS := zsI (zsI σ 105 45 (nI (zsal P e E L t i + zsls P e E L t i + zsn P e E L i))) 105 46 (nI (zsls P e E L t i + zsn P e E L i))
        have ct : mPr τ.1 P := mPr_c (I := σ.1) (fun c i hc => by rw [zI_n (by omega), zI_n (by omega)]) c'
        have st : zmS τ.1 P e E L t (i + 1) := by
          refine ⟨?_, ?_, ?_⟩
          · rw [eal, els, if_neg hst, if_neg hst, zI_n (by omega), zI_y]
            congr 1
            omega
          · rw [els, if_neg hst, zI_y]
          · intro l hl
            rw [esh, if_neg (fun q => hst q.1), zI_n (by omega), zI_n (by omega), s3 l hl, Nat.add_zero]
        obtain ⟨σ', q1, q2, q3, q4⟩ := ih (i + 1) n τ (by omega) (by omega) ct st
        refine ⟨σ', ?_, q2, fun c j hc => by rw [q3 c j hc, zI_n (by omega), zI_n (by omega)], q4⟩
        simp (disch := omega) only [zlet_eq, zg_t, zb_s, zb2_s, zl_0, zl_1, zl_2, zl_3, zl_4, zl_5, zl_6, zl_7, zl_8, zl_9, zl_10, zl_12, zl_16, zl_19, zl_20, zl_24, zl_31, zl_36, zl_39, zl_40, zl_48, zl_57, zl_63, zl_80, zl_97, zl_99, zl_100, zl_122, zl_128, zl_160, zl_199, zl_200, zl_255, zl_256, zl_320, zl_999, zl_6000, zl_6001, zl_9999, zl_999999, zq_0, zq_1, zq_2, zq_3, zq_4, zq_5, zq_7, zq_9, zq_10, zq_16, zq_17, zq_20, zq_48, zq_57, zq_97, zq_100, zq_122, zq_255, zq_999, zq_6000, zq_9999, zq_999999, nI_add, pk_mul, z_le_t, z_le_f, z_lt_t, z_lt_f, z_eq_t, z_eq_f, zcla, zi_nI, ↓reduceIte, z_ng, z_ngb, z_ngl, z_ngt, zI_y, zI_n, zI_2, zL_1, zL_2, nI_l, inN_t, inN_f, z_or0, lc_le_t, lc_le_f, lc_lt_t, lc_lt_f, lc_ge_t, lc_ge_f, lc_gt_t, lc_gt_f, lc_eq_t, lc_eq_f, z_ngle, lN_i, lN_add, lN_mul, c3, c7, e0, zn_nI, dv, rm, s1, s2]
        exact q1
theorem sz11 (K : zS → Option zS) : ∀ k l n σ, l + k = 16 → k < n → ∃ σ', L_X11_findSamples_13 K n (nI l) σ = K σ' ∧ σ'.2.2 = σ.2.2 ∧ (∀ c j, ¬ (c = 130 ∧ l ≤ j ∧ j < 16) → σ'.1 c j = σ.1 c j) ∧ ∀ j, l ≤ j → j < 16 → σ'.1 130 j = nI 0 := by
  intro k
  induction k with
  | zero =>
    intro l n σ h hn
    cases n with
    | zero => omega
    | succ n =>
      obtain rfl : l = 16 := by omega
      rw [L_X11_findSamples_13]
      exact ⟨σ, by simp (disch := omega) only [zlet_eq, zg_t, zb_s, zb2_s, zl_0, zl_1, zl_2, zl_3, zl_4, zl_5, zl_6, zl_7, zl_8, zl_9, zl_10, zl_12, zl_16, zl_19, zl_20, zl_24, zl_31, zl_36, zl_39, zl_40, zl_48, zl_57, zl_63, zl_80, zl_97, zl_99, zl_100, zl_122, zl_128, zl_160, zl_199, zl_200, zl_255, zl_256, zl_320, zl_999, zl_6000, zl_6001, zl_9999, zl_999999, zq_0, zq_1, zq_2, zq_3, zq_4, zq_5, zq_7, zq_9, zq_10, zq_16, zq_17, zq_20, zq_48, zq_57, zq_97, zq_100, zq_122, zq_255, zq_999, zq_6000, zq_9999, zq_999999, nI_add, pk_mul, z_le_t, z_le_f, z_lt_t, z_lt_f, z_eq_t, z_eq_f, zcla, zi_nI, ↓reduceIte, z_ng, z_ngb, z_ngl, z_ngt, zI_y, zI_n, zI_2, zL_1, zL_2, nI_l, inN_t, inN_f, z_or0, lc_le_t, lc_le_f, lc_lt_t, lc_lt_f, lc_ge_t, lc_ge_f, lc_gt_t, lc_gt_f, lc_eq_t, lc_eq_f, z_ngle, lN_i, lN_add, lN_mul], rfl, fun _ _ _ => rfl, fun j h1 h2 => absurd h1 (by omega)⟩
  | succ k ih =>
    intro l n σ h hn
    cases n with
    | zero => omega
    | succ n =>
      rw [L_X11_findSamples_13]
      obtain ⟨σ', e1, e2, e3, e4⟩ := ih (l + 1) n (zsI σ 130 l (nI 0)) (by omega) (by omega)
      refine ⟨σ', by simp (disch := omega) only [zlet_eq, zg_t, zb_s, zb2_s, zl_0, zl_1, zl_2, zl_3, zl_4, zl_5, zl_6, zl_7, zl_8, zl_9, zl_10, zl_12, zl_16, zl_19, zl_20, zl_24, zl_31, zl_36, zl_39, zl_40, zl_48, zl_57, zl_63, zl_80, zl_97, zl_99, zl_100, zl_122, zl_128, zl_160, zl_199, zl_200, zl_255, zl_256, zl_320, zl_999, zl_6000, zl_6001, zl_9999, zl_999999, zq_0, zq_1, zq_2, zq_3, zq_4, zq_5, zq_7, zq_9, zq_10, zq_16, zq_17, zq_20, zq_48, zq_57, zq_97, zq_100, zq_122, zq_255, zq_999, zq_6000, zq_9999, zq_999999, nI_add, pk_mul, z_le_t, z_le_f, z_lt_t, z_lt_f, z_eq_t, z_eq_f, zcla, zi_nI, ↓reduceIte, z_ng, z_ngb, z_ngl, z_ngt, zI_y, zI_n, zI_2, zL_1, zL_2, nI_l, inN_t, inN_f, z_or0, lc_le_t, lc_le_f, lc_lt_t, lc_lt_f, lc_ge_t, lc_ge_f, lc_gt_t, lc_gt_f, lc_eq_t, lc_eq_f, z_ngle, lN_i, lN_add, lN_mul]; exact e1, e2, fun c j hc => by rw [e3 c j (by omega), zI_n (by omega)], ?_⟩
      intro j h1 h2
      by_cases hj : j = l
      · subst hj
        rw [e3 _ _ (by omega), zI_y]
      · exact e4 j (by omega) h2
theorem st11 {P : zM} {σ : zS} (w : wPr P) {e E L t : Nat} (he : e < 8) (h1 : 1 ≤ E) (h2 : E ≤ 9999) (hL : L < E) (ht : t ≤ 9) (c : mPr σ.1 P) : ∃ σ', J_X11_findSamples (nI e) (nI E) (nI L) (nI t) σ = some σ' ∧ zsim σ σ' ∧ (∀ c j, ¬ (c = 130 ∨ (c = 105 ∧ (j = 45 ∨ j = 46))) → σ'.1 c j = σ.1 c j) ∧ zmS σ'.1 P e E L t (zps P) := by
  have w3 := w.2.2.1
  obtain ⟨σ1, a1, a2, a3, a4⟩ := sz11 (D_X11_findSamples_34 (nI e) (nI E) (nI L) (nI t)) 16 0 4294967296 (zsI (zsI σ 105 45 (nI 0)) 105 46 (nI 0)) (by omega) (by omega)
  obtain ⟨σ2, b1, b2, b3, b4⟩ := sk11 w he h1 h2 hL ht (zps P) 0 4294967296 σ1 (by omega) (by omega) (mPr_c (I := σ.1) (fun c i hc => by rw [a3 _ _ (by omega), zI_n (by omega), zI_n (by omega)]) c) ⟨by rw [a3 _ _ (by omega), zI_n (by omega), zI_y]; rfl, by rw [a3 _ _ (by omega), zI_y]; rfl, fun l hl => by rw [a4 l (by omega) hl]; rfl⟩
  have ff : ∀ c j, ¬ (c = 130 ∨ (c = 105 ∧ (j = 45 ∨ j = 46))) → σ2.1 c j = σ.1 c j := fun c j hc => by rw [b3 c j hc, a3 _ _ (by omega), zI_n (by omega), zI_n (by omega)]
  refine ⟨σ2, ?_, ⟨fun c j h1 h2 => ff c j (by simp only [zscr] at h1; omega), b2.trans a2⟩, ff, b4⟩
  unfold J_X11_findSamples
  rw [zlet_eq, zlet_eq, zlet_eq]
  refine a1.trans ?_
  exact b1
