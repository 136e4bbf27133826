set_option maxRecDepth 8000
/-! ===== looked, seldom ===== -/
theorem slc_y {d : Int32} {σ : zS} (h : zR d 1 999) : J_X10_isSlice d σ = some 1 := by
  obtain ⟨j, h1, h2, rfl⟩ := h
  unfold J_X10_isSlice
  simp (disch := omega) only [zlet_eq, zg_t, zb_s, zb2_s, zl_0, zl_1, zl_2, zl_3, zl_4, zl_5, zl_6, zl_7, zl_8, zl_9, zl_10, zl_12, zl_16, zl_19, zl_20, zl_24, zl_31, zl_36, zl_39, zl_40, zl_48, zl_57, zl_63, zl_80, zl_97, zl_99, zl_100, zl_122, zl_128, zl_160, zl_199, zl_200, zl_255, zl_256, zl_320, zl_999, zl_6000, zl_6001, zl_9999, zl_999999, zq_0, zq_1, zq_2, zq_3, zq_4, zq_5, zq_7, zq_9, zq_10, zq_16, zq_17, zq_20, zq_48, zq_57, zq_97, zq_100, zq_122, zq_255, zq_999, zq_6000, zq_9999, zq_999999, nI_add, pk_mul, z_le_t, z_le_f, z_lt_t, z_lt_f, z_eq_t, z_eq_f, zcla, zi_nI, ↓reduceIte, z_ng, z_ngb, z_ngl, z_ngt, zI_y, zI_n, zI_2, zL_1, zL_2, nI_l, inN_t, inN_f, z_or0, lc_le_t, lc_le_f, lc_lt_t, lc_lt_f, lc_ge_t, lc_ge_f, lc_gt_t, lc_gt_f, lc_eq_t, lc_eq_f, z_ngle, lN_i, lN_add, lN_mul]
theorem slc_n {d : Int32} {σ : zS} (h : ¬ zR d 1 999) : J_X10_isSlice d σ = some 0 := by
  unfold J_X10_isSlice
  rcases zlt0 h (by omega) (by omega) with h1 | h1
  · rw [if_pos h1]
  · by_cases h2 : d < 1
    · rw [if_pos h2]
    · rw [if_neg h2]
      exact if_pos h1
theorem grt_ {σ : zS} {j ww : Nat} (hj : j < 4) (h1 : 2 ≤ ww) (h2 : ww ≤ 16) (h : σ.1 84 j = nI ww) : J_X0_greatest (nI j) σ = some (nI (2 ^ ww - 1)) := by
  unfold J_X0_greatest
  rw [zi_nI (by omega) (by omega), zg_t, zcla (by omega), h, great_ h1 h2]
  exact congrArg some (pk_sub (b := 1) (pow_le h2).1)
theorem pp_looked (a b d f : Int32) : zGood (J_X10_looked a b d f) (J_X11_looked a b d f) := by
  intro σ h kb
  obtain ⟨P, p, hp, hr, hz, w, c, m⟩ := zopen h
  have w3 := w.2.2.1
  unfold J_X10_looked J_X11_looked
  rcases ct_ h a b with ⟨k, j, e, M, ww, k2, hj, rfl, he, rfl, m1, w1, w2, w84, w126, e1, e2⟩ | ⟨e1, e2⟩
  · by_cases hd : zR d 1 999
    · have s1 := slc_y (σ := σ) hd
      have s2 := zin_y (σ := σ) (y := 1) (z := 999) hd rfl rfl (by omega) (by omega)
      by_cases hf : zL f 3
      · have i1 := in4_y (σ := σ) 3 hf (by decide)
        have i1' : J_X11_in f.toInt64 0 2 σ = some 1 := i1
        have hf' : ∃ x, x < 3 ∧ f = nI x := hf
        obtain ⟨s, sl1, sl2, rfl⟩ := hd
        obtain ⟨x, hx, rfl⟩ := hf'
        obtain ⟨σ1, a1, a2, a3, a4, a5, a6⟩ := lkt10 (σ := σ) hp w he sl1 (show s < 2147483648 by omega) w2 c
        have h126 : σ1.1 126 j = nI ww := by rw [a6 _ _ (by omega)]; exact w126
        obtain ⟨σ2, b1, b2, b3, b4⟩ := tbt11 (σ := σ1) w (show j < 4 by omega) he sl1 (show s < 2147483648 by omega) w1 w2 (zsim_m a2 m) h126
        have e2' : J_X11_canCount (nI j) (nI e) σ1 = some 1 := by
          rw [canCount_c (σ := σ) (a6 _ _ (by omega)) (fun j => a6 _ _ (by omega))]
          exact e2
        have s2' : J_X11_in (nI s).toInt64 1 999 σ1 = some 1 := s2
        have i1'' : J_X11_in (nI x).toInt64 0 2 σ1 = some 1 := i1
        have hg := grt_ (σ := σ) (show j < 4 by omega) w1 w2 w84
        have T1 := tot3 (σ := σ1) (zsim_c a2 hp w c) w he
        have T2 := tot11 (σ := σ2) (zsim_m (zsim_t a2 b2) m) w he
        have fin : zRel σ2 ∧ rBank σ2.1 := ⟨zRel_s (zsim_t a2 b2) h, rBank_c (fun c k hc => by rw [b3 _ _ (by omega), a6 _ _ (by omega)]) kb⟩
        have hr1 : σ1.2.2 0 1 = p := by rw [a3]; exact hr
        have c0 : ¬ nI x < 0 := nI_pos (by omega)
        have c2 : nI x ≤ 2 := nI_le (b := 2) (by omega) (by omega)
        have cases3 : x = 0 ∨ x = 1 ∨ x = 2 := by omega
        rcases cases3 with hx0 | hx0 | hx0
        · have q1 : nI x = 0 := by rw [hx0]; rfl
          refine ⟨_, σ1, σ2, ?_, ?_, fin⟩
          · simp only [zlet_eq, zg_t, zb_s, zb2_s, z10_eq, eq_self, ↓reduceIte, e1, s1, c0, c2, hr, hz, hg, a1, q1]
            rfl
          · simp only [zlet_eq, zg_t, zb_s, zb2_s, z10_eq, eq_self, ↓reduceIte, e2', s2', i1'', b1, q1, a4]
        · have q1 : ¬ nI x = 0 := by rw [hx0]; decide
          have q2 : nI x = 1 := by rw [hx0]; rfl
          refine ⟨_, σ1, σ2, ?_, ?_, fin⟩
          · simp only [zlet_eq, zg_t, zb_s, zb2_s, z10_eq, eq_self, ↓reduceIte, e1, s1, c0, c2, hr, hz, hg, a1, q1, q2, hr1, T1]
            rfl
          · simp only [zlet_eq, zg_t, zb_s, zb2_s, z10_eq, eq_self, ↓reduceIte, e2', s2', i1'', b1, q1, q2, T2, a4]
        · have q1 : ¬ nI x = 0 := by rw [hx0]; decide
          have q2 : ¬ nI x = 1 := by rw [hx0]; decide
          refine ⟨_, σ1, σ2, ?_, ?_, fin⟩
          · simp only [zlet_eq, zg_t, zb_s, zb2_s, z10_eq, eq_self, ↓reduceIte, e1, s1, c0, c2, hr, hz, hg, a1, q1, q2]
            rfl
          · simp only [zlet_eq, zg_t, zb_s, zb2_s, z10_eq, eq_self, ↓reduceIte, e2', s2', i1'', b1, q1, q2, a5, b4]
      · have i1 := in4_n (σ := σ) 3 hf (by decide) (by decide)
        have i1' : J_X11_in f.toInt64 0 2 σ = some 0 := i1
        refine ⟨-1, σ, σ, ?_, by simp only [zlet_eq, zg_t, zb_s, zb2_s, z10_eq, eq_self, ↓reduceIte, e2, s2, i1'], h, kb⟩
        simp only [zlet_eq, zg_t, zb_s, zb2_s, z10_eq, eq_self, ↓reduceIte, e1, s1]
        refine zcase (lo := 0) (hi := 2) ?_ (by omega) (by omega)
        rintro ⟨j, -, h2, rfl⟩
        exact hf ⟨j, by omega, rfl⟩
    · have s1 := slc_n (σ := σ) hd
      have s2 := zin_n (σ := σ) (y := 1) (z := 999) hd rfl rfl (by omega) (by omega)
      exact ⟨-1, σ, σ, by simp only [zlet_eq, zg_t, zb_s, zb2_s, z10_eq, eq_self, ↓reduceIte, e1, s1], by simp only [zlet_eq, zg_t, zb_s, zb2_s, z10_eq, eq_self, ↓reduceIte, e2, s2], h, kb⟩
  · exact ⟨-1, σ, σ, by simp only [zlet_eq, zg_t, zb_s, zb2_s, z10_eq, eq_self, ↓reduceIte, e1], by simp only [zlet_eq, zg_t, zb_s, zb2_s, z10_eq, eq_self, ↓reduceIte, e2], h, kb⟩
theorem ev_tot {P : zM} (w : wPr P) (e : Nat) : zsm (zge P e) (zps P) = zto P e := by
  have := w.2.2.2.2.2.2.2.2 (fun l => zpev P l e)
  exact this
theorem lk_A {P : zM} {e s W : Nat} {N : Nat} (h : ∀ i, i ≤ N → (zlk P e s W i).1 < W) : ∀ i, i ≤ N → (zlk P e s W i).2.1 + (zlk P e s W i).1 = zsm (zge P e) i := by
  intro i
  induction i with
  | zero => intro _; rfl
  | succ i ih =>
    intro hi
    have q := ih (by omega)
    have hm := Nat.mod_eq_of_lt (h i (by omega))
    rw [zlk, zsm_s]
    split
    · show (zlk P e s W i).2.1 + ((zlk P e s W i).1 + zge P e i) = _
      omega
    · show (zlk P e s W i).2.1 + (zlk P e s W i).1 % W + zge P e i = _
      omega
theorem lk_B {P : zM} {e s W : Nat} (hW : 0 < W) : ∀ i, (zlk P e s W i).2.1 + (zlk P e s W i).1 ≤ zsm (zge P e) i ∧ ((∃ j, j ≤ i ∧ W ≤ (zlk P e s W j).1) → W ≤ (zlk P e s W i).1 ∨ (zlk P e s W i).2.1 + (zlk P e s W i).1 < zsm (zge P e) i) := by
  intro i
  induction i with
  | zero =>
    refine ⟨Nat.le_refl _, ?_⟩
    rintro ⟨j, hj, hw⟩
    obtain rfl : j = 0 := by omega
    exact Or.inl hw
  | succ i ih =>
    obtain ⟨q1, q2⟩ := ih
    have hm := Nat.mod_le (zlk P e s W i).1 W
    have hlt := Nat.mod_lt (zlk P e s W i).1 hW
    constructor
    · rw [zlk, zsm_s]
      split
      · show (zlk P e s W i).2.1 + ((zlk P e s W i).1 + zge P e i) ≤ _
        omega
      · show (zlk P e s W i).2.1 + (zlk P e s W i).1 % W + zge P e i ≤ _
        omega
    · rintro ⟨j, hj, hw⟩
      by_cases hji : j = i + 1
      · exact Or.inl (by rw [← hji]; exact hw)
      · have q3 := q2 ⟨j, by omega, hw⟩
        rw [zlk, zsm_s]
        split
        · show W ≤ (zlk P e s W i).1 + zge P e i ∨ (zlk P e s W i).2.1 + ((zlk P e s W i).1 + zge P e i) < _
          omega
        · show W ≤ zge P e i ∨ (zlk P e s W i).2.1 + (zlk P e s W i).1 % W + zge P e i < _
          omega
/-- told is all just where no look comes too late -/
theorem lk_iff {P : zM} (w : wPr P) {e s W : Nat} (hW : 0 < W) : (zlk P e s W (zps P)).2.1 + (zlk P e s W (zps P)).1 % W = zto P e ↔ ∀ i, i ≤ zps P → (zlk P e s W i).1 < W := by
  rw [← ev_tot w]
  constructor
  · intro h i hi
    refine Nat.lt_of_not_le fun q => ?_
    obtain ⟨b1, b2⟩ := lk_B (P := P) (e := e) (s := s) hW (zps P)
    have b3 := b2 ⟨i, hi, q⟩
    have hm := Nat.mod_le (zlk P e s W (zps P)).1 W
    have hlt := Nat.mod_lt (zlk P e s W (zps P)).1 hW
    omega
  · intro h
    have := lk_A h (zps P) (Nat.le_refl _)
    rw [Nat.mod_eq_of_lt (h _ (Nat.le_refl _))]
    exact this
/-- many in one slice -/
theorem lk_C {P : zM} (w : wPr P) {e s W b : Nat} : ∀ d, b + d < zps P → zptt P b / s = zptt P (b + d) / s → zsm (zge P e) (b + d + 1) ≤ zsm (zge P e) b + (zlk P e s W (b + d + 1)).1 := by
  intro d
  induction d with
  | zero =>
    intro h1 h2
    rw [Nat.add_zero, zsm_s, zlk]
    split
    · show _ ≤ _ + ((zlk P e s W b).1 + zge P e b)
      omega
    · show _ ≤ _ + zge P e b
      omega
  | succ d ih =>
    intro h1 h2
    have m1 := Nat.div_le_div_right (c := s) (tt_mono w (show b ≤ b + d by omega) (by omega))
    have m2 := Nat.div_le_div_right (c := s) (tt_mono w (show b + d ≤ b + (d + 1) by omega) (by omega))
    have q := ih (by omega) (by omega)
    have hs : zptt P (b + (d + 1)) / s = zptt P (b + (d + 1) - 1) / s := by
      rw [show b + (d + 1) - 1 = b + d by omega]
      omega
    have ez : (zlk P e s W (b + (d + 1) + 1)).1 = (zlk P e s W (b + (d + 1))).1 + zge P e (b + (d + 1)) := by
      rw [zlk, if_pos (Or.inr hs)]
    rw [ez, zsm_s]
    have : b + d + 1 = b + (d + 1) := by omega
    rw [this] at q
    omega
