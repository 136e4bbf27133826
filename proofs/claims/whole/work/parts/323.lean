set_option maxRecDepth 8000
/-! ===== looked, seldom ===== -/
theorem slc_y {d : Int32} {σ : zS} (h : zR d 1 999) : J_X10_isSlice d σ = some 1 := by
  obtain ⟨j, h1, h2, rfl⟩ := h
  unfold J_X10_isSlice
  simp (disch := omega) only [zlet_eq, zg_t, zb_s, zb2_s, zl_0, zl_1, zl_2, zl_3, zl_4, zl_5, zl_6, zl_7, zl_8, zl_9, zl_10, zl_12, zl_16, zl_19, zl_20, zl_24, zl_31, zl_36, zl_39, zl_40, zl_48, zl_57, zl_63, zl_80, zl_97, zl_99, zl_100, zl_122, zl_128, zl_160, zl_199, zl_200, zl_255, zl_256, zl_320, zl_999, zl_6000, zl_6001, zl_9999, zl_999999, zq_0, zq_1, zq_2, zq_3, zq_4, zq_5, zq_7, zq_9, zq_10, zq_16, zq_17, zq_20, zq_48, zq_57, zq_97, zq_100, zq_122, zq_255, zq_999, zq_6000, zq_9999, zq_999999, nI_add, pk_mul, z_le_t, z_le_f, z_lt_t, z_lt_f, z_eq_t, z_eq_f, zcla, zi_nI, ↓reduceIte, z_ng, z_ngb, z_ngl, z_ngt, zI_y, zI_n, zI_2, zL_1, zL_2, nI_l, inN_t, inN_f, z_or0, lc_le_t, lc_le_f, lc_lt_t, lc_lt_f, lc_ge_t, lc_ge_f, lc_gt_t, lc_gt_f, lc_eq_t, lc_eq_f, z_ngle, lN_i, lN_add, lN_mul]
theorem slc_n {d : Int32} {σ : zS} (h : ¬ zR d 1 999) : J_X10_isSlice d σ = some 0 := by
  unfold J_X10_isSlice
  rcases zlt0 h (by omega) (by omega) with h1 | h1
  · have h1' : d < 1 := h1
    rw [if_pos h1']
  · by_cases h2 : d < 1
    · rw [if_pos h2]
    · rw [if_neg h2]
      exact if_pos h1
theorem grt_ {σ : zS} {j ww : Nat} (hj : j < 4) (h1 : 2 ≤ ww) (h2 : ww ≤ 16) (h : σ.1 84 j = nI ww) : J_X0_greatest (nI j) σ = some (nI (2 ^ ww - 1)) := by
  unfold J_X0_greatest
  rw [zi_nI (by omega) (by omega), zg_t, zcla (by omega), h, great_ h1 h2]
  exact congrArg some (pk_sub (b := 1) (pow_le h2).1)
theorem pp_looked (a b d f : Int32) : zGood (J_X10_looked a b d f) (J_X11_looked a b d f) := by
  intro σ h kb
  obtain ⟨P, p, hp, hr, hz, w, c, m⟩ := zopen h
  have w3 := w.2.2.1
  unfold J_X10_looked J_X11_looked
  rcases ct_ h a b with ⟨k, j, e, M, ww, k2, hj, rfl, he, rfl, m1, w1, w2, w84, w126, e1, e2⟩ | ⟨e1, e2⟩
  · by_cases hd : zR d 1 999
    · have s1 := slc_y (σ := σ) hd
      have s2 := zin_y (σ := σ) (y := 1) (z := 999) hd rfl rfl (by omega) (by omega)
      by_cases hf : zL f 3
      · have i1 := in4_y (σ := σ) 3 hf (by decide)
        have i1' : J_X11_in f.toInt64 0 2 σ = some 1 := i1
        have hf' : ∃ x, x < 3 ∧ f = nI x := hf
        obtain ⟨s, sl1, sl2, rfl⟩ := hd
        obtain ⟨x, hx, rfl⟩ := hf'
        obtain ⟨σ1, a1, a2, a3, a4, a5, a6⟩ := lkt10 (σ := σ) hp w he sl1 (show s < 2147483648 by omega) w2 c
        have h126 : σ1.1 126 j = nI ww := by rw [a6 _ _ (by omega)]; exact w126
        obtain ⟨σ2, b1, b2, b3, b4⟩ := tbt11 (σ := σ1) w (show j < 4 by omega) he sl1 (show s < 2147483648 by omega) w1 w2 (zsim_m a2 m) h126
        have e2' : J_X11_canCount (nI j) (nI e) σ1 = some 1 := by
          rw [canCount_c (σ := σ) (a6 _ _ (by omega)) (fun j => a6 _ _ (by omega))]
          exact e2
        have s2' : J_X11_in (nI s).toInt64 1 999 σ1 = some 1 := s2
        have i1'' : J_X11_in (nI x).toInt64 0 2 σ1 = some 1 := i1
        have hg := grt_ (σ := σ) (show j < 4 by omega) w1 w2 w84
        have T1 := tot3 (σ := σ1) (zsim_c a2 hp w c) w he
        have T2 := tot11 (σ := σ2) (zsim_m (zsim_t a2 b2) m) w he
        have fin : zRel σ2 ∧ rBank σ2.1 := ⟨zRel_s (zsim_t a2 b2) h, rBank_c (fun c k hc => by rw [b3 _ _ (by omega), a6 _ _ (by omega)]) kb⟩
        have hr1 : σ1.2.2 0 1 = p := by rw [a3]; exact hr
        have c0 : ¬ nI x < 0 := nI_pos (by omega)
        have c2 : nI x ≤ 2 := nI_le (b := 2) (by omega) (by omega)
        have cases3 : x = 0 ∨ x = 1 ∨ x = 2 := by omega
        rcases cases3 with hx0 | hx0 | hx0
        · have q1 : (nI x = 0) = True := eq_true (by rw [hx0]; rfl)
          refine ⟨nI ((zlk P e s (2 ^ ww) (zps P)).2.1 + (zlk P e s (2 ^ ww) (zps P)).1 % 2 ^ ww), σ1, σ2, ?_, ?_, fin⟩
          · simp only [zlet_eq, zg_t, zb_s, zb2_s, z10_eq, eq_self, ↓reduceIte, e1, s1, c0, c2, hr, hz, hg, a1, q1, a4]
          · simp only [zlet_eq, zg_t, zb_s, zb2_s, z10_eq, eq_self, ↓reduceIte, e2', s2', i1'', b1, q1]
        · have q1 : ¬ nI x = 0 := by rw [hx0]; decide
          have q2 : (nI x = 1) = True := eq_true (by rw [hx0]; rfl)
          refine ⟨nI (zto P e) - nI ((zlk P e s (2 ^ ww) (zps P)).2.1 + (zlk P e s (2 ^ ww) (zps P)).1 % 2 ^ ww), σ1, σ2, ?_, ?_, fin⟩
          · simp only [zlet_eq, zg_t, zb_s, zb2_s, z10_eq, eq_self, ↓reduceIte, e1, s1, c0, c2, hr, hz, hg, a1, q1, q2, hr1, T1, a4]
          · simp only [zlet_eq, zg_t, zb_s, zb2_s, z10_eq, eq_self, ↓reduceIte, e2', s2', i1'', b1, q1, q2, T2]
        · have q1 : ¬ nI x = 0 := by rw [hx0]; decide
          have q2 : ¬ nI x = 1 := by rw [hx0]; decide
          refine ⟨nI ((zlk P e s (2 ^ ww) (zps P)).2.2 + 1), σ1, σ2, ?_, ?_, fin⟩
          · simp only [zlet_eq, zg_t, zb_s, zb2_s, z10_eq, eq_self, ↓reduceIte, e1, s1, c0, c2, hr, hz, hg, a1, q1, q2, a5]
          · simp only [zlet_eq, zg_t, zb_s, zb2_s, z10_eq, eq_self, ↓reduceIte, e2', s2', i1'', b1, q1, q2, b4]
      · have i1 := in4_n (σ := σ) 3 hf (by decide) (by decide)
        have i1' : J_X11_in f.toInt64 0 2 σ = some 0 := i1
        refine ⟨-1, σ, σ, ?_, by simp only [zlet_eq, zg_t, zb_s, zb2_s, z10_eq, eq_self, ↓reduceIte, e2, s2, i1'], h, kb⟩
        simp only [zlet_eq, zg_t, zb_s, zb2_s, z10_eq, eq_self, ↓reduceIte, e1, s1]
        refine zcase (lo := 0) (hi := 2) ?_ (by omega) (by omega)
        rintro ⟨j, -, h2, rfl⟩
        exact hf ⟨j, by omega, rfl⟩
    · have s1 := slc_n (σ := σ) hd
      have s2 := zin_n (σ := σ) (y := 1) (z := 999) hd rfl rfl (by omega) (by omega)
      exact ⟨-1, σ, σ, by simp only [zlet_eq, zg_t, zb_s, zb2_s, z10_eq, eq_self, ↓reduceIte, e1, s1], by simp only [zlet_eq, zg_t, zb_s, zb2_s, z10_eq, eq_self, ↓reduceIte, e2, s2], h, kb⟩
  · exact ⟨-1, σ, σ, by simp only [zlet_eq, zg_t, zb_s, zb2_s, z10_eq, eq_self, ↓reduceIte, e1], by simp only [zlet_eq, zg_t, zb_s, zb2_s, z10_eq, eq_self, ↓reduceIte, e2], h, kb⟩
theorem ev_tot {P : zM} (w : wPr P) (e : Nat) : zsm (zge P e) (zps P) = zto P e := by
  have := w.2.2.2.2.2.2.2.2 (fun l => zpev P l e)
  exact this
theorem lk_A {P : zM} {e s W : Nat} {N : Nat} (h : ∀ i, i ≤ N → (zlk P e s W i).1 < W) : ∀ i, i ≤ N → (zlk P e s W i).2.1 + (zlk P e s W i).1 = zsm (zge P e) i := by
  intro i
  induction i with
  | zero => intro _; rfl
  | succ i ih =>
    intro hi
    have q := ih (by omega)
    have hm := Nat.mod_eq_of_lt (h i (by omega))
    rw [zlk, zsm_s]
    split
    · show (zlk P e s W i).2.1 + ((zlk P e s W i).1 + zge P e i) = _
      omega
    · show (zlk P e s W i).2.1 + (zlk P e s W i).1 % W + zge P e i = _
      omega
theorem lk_B {P : zM} {e s W : Nat} (hW : 0 < W) : ∀ i, (zlk P e s W i).2.1 + (zlk P e s W i).1 ≤ zsm (zge P e) i ∧ ((∃ j, j ≤ i ∧ W ≤ (zlk P e s W j).1) → W ≤ (zlk P e s W i).1 ∨ (zlk P e s W i).2.1 + (zlk P e s W i).1 < zsm (zge P e) i) := by
  intro i
  induction i with
  | zero =>
    refine ⟨Nat.le_refl _, ?_⟩
    rintro ⟨j, hj, hw⟩
    obtain rfl : j = 0 := by omega
    exact Or.inl hw
  | succ i ih =>
    obtain ⟨q1, q2⟩ := ih
    have hm := Nat.mod_le (zlk P e s W i).1 W
    have hlt := Nat.mod_lt (zlk P e s W i).1 hW
    constructor
    · rw [zlk, zsm_s]
      split
      · show (zlk P e s W i).2.1 + ((zlk P e s W i).1 + zge P e i) ≤ _
        omega
      · show (zlk P e s W i).2.1 + (zlk P e s W i).1 % W + zge P e i ≤ _
        omega
    · rintro ⟨j, hj, hw⟩
      by_cases hji : j = i + 1
      · exact Or.inl (by rw [← hji]; exact hw)
      · have q3 := q2 ⟨j, by omega, hw⟩
        rw [zlk, zsm_s]
        split
        · show W ≤ (zlk P e s W i).1 + zge P e i ∨ (zlk P e s W i).2.1 + ((zlk P e s W i).1 + zge P e i) < _
          omega
        · show W ≤ zge P e i ∨ (zlk P e s W i).2.1 + (zlk P e s W i).1 % W + zge P e i < _
          omega
/-- told is all just where no look comes too late -/
theorem lk_iff {P : zM} (w : wPr P) {e s W : Nat} (hW : 0 < W) : (zlk P e s W (zps P)).2.1 + (zlk P e s W (zps P)).1 % W = zto P e ↔ ∀ i, i ≤ zps P → (zlk P e s W i).1 < W := by
  rw [← ev_tot w]
  constructor
  · intro h i hi
    refine Nat.lt_of_not_le fun q => ?_
    obtain ⟨b1, b2⟩ := lk_B (P := P) (e := e) (s := s) hW (zps P)
    have b3 := b2 ⟨i, hi, q⟩
    have hm := Nat.mod_le (zlk P e s W (zps P)).1 W
    have hlt := Nat.mod_lt (zlk P e s W (zps P)).1 hW
    omega
  · intro h
    have := lk_A h (zps P) (Nat.le_refl _)
    rw [Nat.mod_eq_of_lt (h _ (Nat.le_refl _))]
    exact this
/-- many in one slice -/
theorem lk_C {P : zM} (w : wPr P) {e s W b : Nat} : ∀ d, b + d < zps P → zptt P b / s = zptt P (b + d) / s → zsm (zge P e) (b + d + 1) ≤ zsm (zge P e) b + (zlk P e s W (b + d + 1)).1 := by
  intro d
  induction d with
  | zero =>
    intro h1 h2
    rw [Nat.add_zero, zsm_s, zlk]
    split
    · show _ ≤ _ + ((zlk P e s W b).1 + zge P e b)
      omega
    · show _ ≤ _ + zge P e b
      omega
  | succ d ih =>
    intro h1 h2
    have m1 := Nat.div_le_div_right (c := s) (tt_mono w (show b ≤ b + d by omega) (by omega))
    have m2 := Nat.div_le_div_right (c := s) (tt_mono w (show b + d ≤ b + (d + 1) by omega) (by omega))
    have q := ih (by omega) (by omega)
    have hs : zptt P (b + (d + 1)) / s = zptt P (b + (d + 1) - 1) / s := by
      rw [show b + (d + 1) - 1 = b + d by omega]
      omega
    have ez : (zlk P e s W (b + (d + 1) + 1)).1 = (zlk P e s W (b + (d + 1))).1 + zge P e (b + (d + 1)) := by
      rw [zlk, if_pos (Or.inr hs)]
    rw [ez, zsm_s]
    have : b + d + 1 = b + (d + 1) := by omega
    rw [this] at q
    omega
theorem lo_ {p : Nat} {P : zM} {σ : zS} (c : cPr σ.1 p P) (w : wPr P) {e s ww : Nat} (he : e < 8) (h1 : 1 ≤ s) (hs : s < 2147483648) (hw : ww ≤ 16) (K : Int32 → Int32 → Option (Int32 × zS)) : ∀ k i n b, i + k = zps P → k < n → b ≤ i → ((zlk P e s (2 ^ ww) i).1 = 0 ∨ (b < i ∧ (zlk P e s (2 ^ ww) i).1 + zsm (zge P e) b = zsm (zge P e) i ∧ zptt P b / s = zptt P (i - 1) / s)) → (∀ j, j ≤ i → (zlk P e s (2 ^ ww) j).1 < 2 ^ ww) → (L_X2_loses_12 p (nI e) (nI s) (nI (2 ^ ww - 1)) σ K n (nI (if i = 0 then 0 else zptt P (i - 1) / s)) (nI (zlk P e s (2 ^ ww) i).1) (nI b) (nI i) = some (nI 0, σ) ∧ ∀ j, j ≤ zps P → (zlk P e s (2 ^ ww) j).1 < 2 ^ ww) ∨ ∃ b' e', b' ≤ e' ∧ e' < zps P ∧ 2 ^ ww + zsm (zge P e) b' ≤ zsm (zge P e) (e' + 1) ∧ (∃ j, j ≤ zps P ∧ 2 ^ ww ≤ (zlk P e s (2 ^ ww) j).1) ∧ L_X2_loses_12 p (nI e) (nI s) (nI (2 ^ ww - 1)) σ K n (nI (if i = 0 then 0 else zptt P (i - 1) / s)) (nI (zlk P e s (2 ^ ww) i).1) (nI b) (nI i) = K (nI b') (nI e') := by
  intro k
  induction k with
  | zero =>
    intro i n b h hn hb hi hj
    cases n with
    | zero => omega
    | succ n =>
      obtain rfl : i = zps P := by omega
      have w3 := w.2.2.1
      have c3 := c.2.2.1
      left
      refine ⟨?_, hj⟩
      rw [L_X2_loses_12]
      simp (disch := omega) only [zlet_eq, zg_t, zb_s, zb2_s, zl_0, zl_1, zl_2, zl_3, zl_4, zl_5, zl_6, zl_7, zl_8, zl_9, zl_10, zl_12, zl_16, zl_19, zl_20, zl_24, zl_31, zl_36, zl_39, zl_40, zl_48, zl_57, zl_63, zl_80, zl_97, zl_99, zl_100, zl_122, zl_128, zl_160, zl_199, zl_200, zl_255, zl_256, zl_320, zl_999, zl_6000, zl_6001, zl_9999, zl_999999, zq_0, zq_1, zq_2, zq_3, zq_4, zq_5, zq_7, zq_9, zq_10, zq_16, zq_17, zq_20, zq_48, zq_57, zq_97, zq_100, zq_122, zq_255, zq_999, zq_6000, zq_9999, zq_999999, nI_add, pk_mul, z_le_t, z_le_f, z_lt_t, z_lt_f, z_eq_t, z_eq_f, zcla, zi_nI, ↓reduceIte, z_ng, z_ngb, z_ngl, z_ngt, zI_y, zI_n, zI_2, zL_1, zL_2, nI_l, inN_t, inN_f, z_or0, lc_le_t, lc_le_f, lc_lt_t, lc_lt_f, lc_ge_t, lc_ge_f, lc_gt_t, lc_gt_f, lc_eq_t, lc_eq_f, z_ngle, lN_i, lN_add, lN_mul, c3]
  | succ k ih =>
    intro i n b h hn hb hi hj
    cases n with
    | zero => omega
    | succ n =>
      have pw := pow_le hw
      have sl := slc_ c w (show i ≤ zps P by omega) h1 hs
      have w3 := w.2.2.1
      have w1 := w.1
      have w6 := w.2.2.2.2.2.1 i (by omega)
      have c' := c
      obtain ⟨c1, c2, c3, c4, c5, c6, c7⟩ := c
      obtain ⟨b1, b2⟩ := zlk_b w (s := s) (W := 2 ^ ww) he i (by omega)
      have tl := tt_le w i (by omega)
      have dl := Nat.div_le_self (zptt P i) s
      have tl2 := tt_le w (i - 1) (by omega)
      have dl2 := Nat.div_le_self (zptt P (i - 1)) s
      have gl := zge_le w he (show i < zps P by omega)
      have t0 : zptt P 0 = 0 := w.2.2.2.2.2.2.1
      -- the count before this step, within its slice
      have key : ∀ v b0, v + zge P e i = (zlk P e s (2 ^ ww) (i + 1)).1 → b0 ≤ i → ((v = 0 ∧ b0 = i) ∨ (b0 < i ∧ v + zsm (zge P e) b0 = zsm (zge P e) i ∧ zptt P b0 / s = zptt P i / s)) → v ≤ 600000 → (L_X2_loses_12 p (nI e) (nI s) (nI (2 ^ ww - 1)) σ K (n + 1) (nI (if i = 0 then 0 else zptt P (i - 1) / s)) (nI (zlk P e s (2 ^ ww) i).1) (nI b) (nI i) = if v + zge P e i ≤ 2 ^ ww - 1 then L_X2_loses_12 p (nI e) (nI s) (nI (2 ^ ww - 1)) σ K n (nI (zptt P i / s)) (nI (v + zge P e i)) (nI b0) (nI (i + 1)) else K (nI b0) (nI i)) → (L_X2_loses_12 p (nI e) (nI s) (nI (2 ^ ww - 1)) σ K (n + 1) (nI (if i = 0 then 0 else zptt P (i - 1) / s)) (nI (zlk P e s (2 ^ ww) i).1) (nI b) (nI i) = some (nI 0, σ) ∧ ∀ j, j ≤ zps P → (zlk P e s (2 ^ ww) j).1 < 2 ^ ww) ∨ ∃ b' e', b' ≤ e' ∧ e' < zps P ∧ 2 ^ ww + zsm (zge P e) b' ≤ zsm (zge P e) (e' + 1) ∧ (∃ j, j ≤ zps P ∧ 2 ^ ww ≤ (zlk P e s (2 ^ ww) j).1) ∧ L_X2_loses_12 p (nI e) (nI s) (nI (2 ^ ww - 1)) σ K (n + 1) (nI (if i = 0 then 0 else zptt P (i - 1) / s)) (nI (zlk P e s (2 ^ ww) i).1) (nI b) (nI i) = K (nI b') (nI e') := by
        intro v b0 hv hb0 hcase hvl he'
        rw [he']
        by_cases hle : v + zge P e i ≤ 2 ^ ww - 1
        · rw [if_pos hle]
          have r := ih (i + 1) n b0 (by omega) (by omega) (by omega) (by
            right
            rw [← hv, Nat.add_sub_cancel]
            refine ⟨by omega, ?_, ?_⟩
            · rw [zsm_s]
              rcases hcase with ⟨x, y⟩ | ⟨x, y, z⟩
              · rw [y]; omega
              · omega
            · rcases hcase with ⟨x, y⟩ | ⟨x, y, z⟩
              · rw [y]
              · exact z) (by
            intro j hj'
            by_cases hji : j = i + 1
            · rw [hji, ← hv]; omega
            · exact hj j (by omega))
          rw [if_neg (by omega), Nat.add_sub_cancel, ← hv] at r
          exact r
        · rw [if_neg hle]
          right
          refine ⟨b0, i, hb0, by omega, ?_, ⟨i + 1, by omega, by omega⟩, rfl⟩
          rw [zsm_s]
          rcases hcase with ⟨x, y⟩ | ⟨x, y, z⟩
          · rw [y]; omega
          · omega
      by_cases hsm : i = 0 ∨ zptt P i / s = zptt P (i - 1) / s
      · have cur : (if i = 0 then 0 else zptt P (i - 1) / s) = zptt P i / s := by
          by_cases h0 : i = 0
          · subst h0
            rw [t0, Nat.zero_div]; rfl
          · rw [if_neg h0]
            rcases hsm with x | x
            · exact absurd x h0
            · exact x.symm
        have ez : (zlk P e s (2 ^ ww) (i + 1)).1 = (zlk P e s (2 ^ ww) i).1 + zge P e i := by rw [zlk, if_pos hsm]
        refine key (zlk P e s (2 ^ ww) i).1 (if (zlk P e s (2 ^ ww) i).1 = 0 then i else b) ez.symm (by split <;> omega) ?_ (by omega) ?_
        · by_cases hz : (zlk P e s (2 ^ ww) i).1 = 0
          · rw [if_pos hz]
            exact Or.inl ⟨hz, rfl⟩
          · rw [if_neg hz]
            right
            rcases hi with x | ⟨x, y, z⟩
            · exact absurd x hz
            · refine ⟨x, y, ?_⟩
              rcases hsm with q | q
              · omega
              · rw [z, q]
        · rw [L_X2_loses_12, cur]
          by_cases hz : (zlk P e s (2 ^ ww) i).1 = 0
          · rw [hz]
            have gle : zpev P (zplo P i) e ≤ 99 := gl
            by_cases hle : zpev P (zplo P i) e ≤ 2 ^ ww - 1
            · rw [if_pos (show 0 + zge P e i ≤ 2 ^ ww - 1 by rw [Nat.zero_add]; exact hle)]
              simp (disch := omega) only [zlet_eq, zg_t, zb_s, zb2_s, zl_0, zl_1, zl_2, zl_3, zl_4, zl_5, zl_6, zl_7, zl_8, zl_9, zl_10, zl_12, zl_16, zl_19, zl_20, zl_24, zl_31, zl_36, zl_39, zl_40, zl_48, zl_57, zl_63, zl_80, zl_97, zl_99, zl_100, zl_122, zl_128, zl_160, zl_199, zl_200, zl_255, zl_256, zl_320, zl_999, zl_6000, zl_6001, zl_9999, zl_999999, zq_0, zq_1, zq_2, zq_3, zq_4, zq_5, zq_7, zq_9, zq_10, zq_16, zq_17, zq_20, zq_48, zq_57, zq_97, zq_100, zq_122, zq_255, zq_999, zq_6000, zq_9999, zq_999999, nI_add, pk_mul, z_le_t, z_le_f, z_lt_t, z_lt_f, z_eq_t, z_eq_f, zcla, zi_nI, ↓reduceIte, z_ng, z_ngb, z_ngl, z_ngt, zI_y, zI_n, zI_2, zL_1, zL_2, nI_l, inN_t, inN_f, z_or0, lc_le_t, lc_le_f, lc_lt_t, lc_lt_f, lc_ge_t, lc_ge_f, lc_gt_t, lc_gt_f, lc_eq_t, lc_eq_f, z_ngle, lN_i, lN_add, lN_mul, c3, sl, c6, c4]
              rfl
            · rw [if_neg (show ¬ 0 + zge P e i ≤ 2 ^ ww - 1 by rw [Nat.zero_add]; exact hle)]
              simp (disch := omega) only [zlet_eq, zg_t, zb_s, zb2_s, zl_0, zl_1, zl_2, zl_3, zl_4, zl_5, zl_6, zl_7, zl_8, zl_9, zl_10, zl_12, zl_16, zl_19, zl_20, zl_24, zl_31, zl_36, zl_39, zl_40, zl_48, zl_57, zl_63, zl_80, zl_97, zl_99, zl_100, zl_122, zl_128, zl_160, zl_199, zl_200, zl_255, zl_256, zl_320, zl_999, zl_6000, zl_6001, zl_9999, zl_999999, zq_0, zq_1, zq_2, zq_3, zq_4, zq_5, zq_7, zq_9, zq_10, zq_16, zq_17, zq_20, zq_48, zq_57, zq_97, zq_100, zq_122, zq_255, zq_999, zq_6000, zq_9999, zq_999999, nI_add, pk_mul, z_le_t, z_le_f, z_lt_t, z_lt_f, z_eq_t, z_eq_f, zcla, zi_nI, ↓reduceIte, z_ng, z_ngb, z_ngl, z_ngt, zI_y, zI_n, zI_2, zL_1, zL_2, nI_l, inN_t, inN_f, z_or0, lc_le_t, lc_le_f, lc_lt_t, lc_lt_f, lc_ge_t, lc_ge_f, lc_gt_t, lc_gt_f, lc_eq_t, lc_eq_f, z_ngle, lN_i, lN_add, lN_mul, c3, sl, c6, c4]
          · rw [if_neg hz]
            have gle : zpev P (zplo P i) e ≤ 99 := gl
            by_cases hle : (zlk P e s (2 ^ ww) i).1 + zpev P (zplo P i) e ≤ 2 ^ ww - 1
            · rw [if_pos (show (zlk P e s (2 ^ ww) i).1 + zge P e i ≤ 2 ^ ww - 1 from hle)]
              simp (disch := omega) only [zlet_eq, zg_t, zb_s, zb2_s, zl_0, zl_1, zl_2, zl_3, zl_4, zl_5, zl_6, zl_7, zl_8, zl_9, zl_10, zl_12, zl_16, zl_19, zl_20, zl_24, zl_31, zl_36, zl_39, zl_40, zl_48, zl_57, zl_63, zl_80, zl_97, zl_99, zl_100, zl_122, zl_128, zl_160, zl_199, zl_200, zl_255, zl_256, zl_320, zl_999, zl_6000, zl_6001, zl_9999, zl_999999, zq_0, zq_1, zq_2, zq_3, zq_4, zq_5, zq_7, zq_9, zq_10, zq_16, zq_17, zq_20, zq_48, zq_57, zq_97, zq_100, zq_122, zq_255, zq_999, zq_6000, zq_9999, zq_999999, nI_add, pk_mul, z_le_t, z_le_f, z_lt_t, z_lt_f, z_eq_t, z_eq_f, zcla, zi_nI, ↓reduceIte, z_ng, z_ngb, z_ngl, z_ngt, zI_y, zI_n, zI_2, zL_1, zL_2, nI_l, inN_t, inN_f, z_or0, lc_le_t, lc_le_f, lc_lt_t, lc_lt_f, lc_ge_t, lc_ge_f, lc_gt_t, lc_gt_f, lc_eq_t, lc_eq_f, z_ngle, lN_i, lN_add, lN_mul, c3, sl, c6, c4]
              rfl
            · rw [if_neg (show ¬ (zlk P e s (2 ^ ww) i).1 + zge P e i ≤ 2 ^ ww - 1 from hle)]
              simp (disch := omega) only [zlet_eq, zg_t, zb_s, zb2_s, zl_0, zl_1, zl_2, zl_3, zl_4, zl_5, zl_6, zl_7, zl_8, zl_9, zl_10, zl_12, zl_16, zl_19, zl_20, zl_24, zl_31, zl_36, zl_39, zl_40, zl_48, zl_57, zl_63, zl_80, zl_97, zl_99, zl_100, zl_122, zl_128, zl_160, zl_199, zl_200, zl_255, zl_256, zl_320, zl_999, zl_6000, zl_6001, zl_9999, zl_999999, zq_0, zq_1, zq_2, zq_3, zq_4, zq_5, zq_7, zq_9, zq_10, zq_16, zq_17, zq_20, zq_48, zq_57, zq_97, zq_100, zq_122, zq_255, zq_999, zq_6000, zq_9999, zq_999999, nI_add, pk_mul, z_le_t, z_le_f, z_lt_t, z_lt_f, z_eq_t, z_eq_f, zcla, zi_nI, ↓reduceIte, z_ng, z_ngb, z_ngl, z_ngt, zI_y, zI_n, zI_2, zL_1, zL_2, nI_l, inN_t, inN_f, z_or0, lc_le_t, lc_le_f, lc_lt_t, lc_lt_f, lc_ge_t, lc_ge_f, lc_gt_t, lc_gt_f, lc_eq_t, lc_eq_f, z_ngle, lN_i, lN_add, lN_mul, c3, sl, c6, c4]
      · have cur : (if i = 0 then 0 else zptt P (i - 1) / s) = zptt P (i - 1) / s := if_neg (by omega)
        have ez : (zlk P e s (2 ^ ww) (i + 1)).1 = zge P e i := by rw [zlk, if_neg hsm]
        refine key 0 i (by rw [ez, Nat.zero_add]) (Nat.le_refl _) (Or.inl ⟨rfl, rfl⟩) (by omega) ?_
        rw [L_X2_loses_12, cur]
        have gle : zpev P (zplo P i) e ≤ 99 := gl
        by_cases hle : zpev P (zplo P i) e ≤ 2 ^ ww - 1
        · rw [if_pos (show 0 + zge P e i ≤ 2 ^ ww - 1 by rw [Nat.zero_add]; exact hle)]
          simp (disch := omega) only [zlet_eq, zg_t, zb_s, zb2_s, zl_0, zl_1, zl_2, zl_3, zl_4, zl_5, zl_6, zl_7, zl_8, zl_9, zl_10, zl_12, zl_16, zl_19, zl_20, zl_24, zl_31, zl_36, zl_39, zl_40, zl_48, zl_57, zl_63, zl_80, zl_97, zl_99, zl_100, zl_122, zl_128, zl_160, zl_199, zl_200, zl_255, zl_256, zl_320, zl_999, zl_6000, zl_6001, zl_9999, zl_999999, zq_0, zq_1, zq_2, zq_3, zq_4, zq_5, zq_7, zq_9, zq_10, zq_16, zq_17, zq_20, zq_48, zq_57, zq_97, zq_100, zq_122, zq_255, zq_999, zq_6000, zq_9999, zq_999999, nI_add, pk_mul, z_le_t, z_le_f, z_lt_t, z_lt_f, z_eq_t, z_eq_f, zcla, zi_nI, ↓reduceIte, z_ng, z_ngb, z_ngl, z_ngt, zI_y, zI_n, zI_2, zL_1, zL_2, nI_l, inN_t, inN_f, z_or0, lc_le_t, lc_le_f, lc_lt_t, lc_lt_f, lc_ge_t, lc_ge_f, lc_gt_t, lc_gt_f, lc_eq_t, lc_eq_f, z_ngle, lN_i, lN_add, lN_mul, c3, sl, c6, c4]
          rw [Nat.zero_add, Nat.zero_add]
          rfl
        · rw [if_neg (show ¬ 0 + zge P e i ≤ 2 ^ ww - 1 by rw [Nat.zero_add]; exact hle)]
          simp (disch := omega) only [zlet_eq, zg_t, zb_s, zb2_s, zl_0, zl_1, zl_2, zl_3, zl_4, zl_5, zl_6, zl_7, zl_8, zl_9, zl_10, zl_12, zl_16, zl_19, zl_20, zl_24, zl_31, zl_36, zl_39, zl_40, zl_48, zl_57, zl_63, zl_80, zl_97, zl_99, zl_100, zl_122, zl_128, zl_160, zl_199, zl_200, zl_255, zl_256, zl_320, zl_999, zl_6000, zl_6001, zl_9999, zl_999999, zq_0, zq_1, zq_2, zq_3, zq_4, zq_5, zq_7, zq_9, zq_10, zq_16, zq_17, zq_20, zq_48, zq_57, zq_97, zq_100, zq_122, zq_255, zq_999, zq_6000, zq_9999, zq_999999, nI_add, pk_mul, z_le_t, z_le_f, z_lt_t, z_lt_f, z_eq_t, z_eq_f, zcla, zi_nI, ↓reduceIte, z_ng, z_ngb, z_ngl, z_ngt, zI_y, zI_n, zI_2, zL_1, zL_2, nI_l, inN_t, inN_f, z_or0, lc_le_t, lc_le_f, lc_lt_t, lc_lt_f, lc_ge_t, lc_ge_f, lc_gt_t, lc_gt_f, lc_eq_t, lc_eq_f, z_ngle, lN_i, lN_add, lN_mul, c3, sl, c6, c4]
theorem lst10 {p : Nat} {P : zM} {σ : zS} (c : cPr σ.1 p P) (w : wPr P) {e s ww : Nat} (he : e < 8) (h1 : 1 ≤ s) (hs : s < 2147483648) (hw : ww ≤ 16) : (J_X2_loses p (nI e) (nI s) (nI (2 ^ ww - 1)) σ = some (nI 0, σ) ∧ ∀ j, j ≤ zps P → (zlk P e s (2 ^ ww) j).1 < 2 ^ ww) ∨ ∃ b' e', b' ≤ e' ∧ e' < zps P ∧ 2 ^ ww + zsm (zge P e) b' ≤ zsm (zge P e) (e' + 1) ∧ (∃ j, j ≤ zps P ∧ 2 ^ ww ≤ (zlk P e s (2 ^ ww) j).1) ∧ J_X2_loses p (nI e) (nI s) (nI (2 ^ ww - 1)) σ = some (nI 1, zsI (zsI σ 91 2 (nI b')) 91 3 (nI e')) := by
  have w3 := w.2.2.1
  have := lo_ c w he h1 hs hw (D_X2_loses_79 σ) (zps P) 0 4294967296 0 (by omega) (by omega) (Nat.le_refl _) (Or.inl rfl) (by
    intro j hj
    obtain rfl : j = 0 := by omega
    exact (pow_le hw).1)
  exact this
theorem lwl_ {P : zM} (w : wPr P) {j e ww : Nat} (hj : j < 4) (he : e < 8) (hw2 : 2 ≤ ww) (hw : ww ≤ 16) : ∀ s, s ≤ 999 → ∃ r, (∀ p n σ (x : Nat), (p = 3 ∨ p = 33) → s < n → cPr σ.1 p P → x ≤ 1 → (x = 0 ∨ ∃ b' e', b' ≤ e' ∧ e' < zps P ∧ 2 ^ ww + zsm (zge P e) b' ≤ zsm (zge P e) (e' + 1) ∧ σ.1 91 2 = nI b' ∧ σ.1 91 3 = nI e') → ∃ σ', L_X2_longestWithoutLoss_8 p (nI e) (nI (2 ^ ww - 1)) n (nI x) (nI s) σ = some (r, σ') ∧ σ'.2.2 = σ.2.2 ∧ ∀ c k, ¬ (c = 91) → σ'.1 c k = σ.1 c k) ∧ ∀ n σ, s < n → mPr σ.1 P → σ.1 126 j = nI ww → ∃ σ', L_X11_seldom_22 (nI j) (nI e) (nI (zto P e)) n (nI s) σ = some (r, σ') ∧ σ'.2.2 = σ.2.2 ∧ ∀ c k, ¬ (c = 105 ∧ k = 48) → σ'.1 c k = σ.1 c k := by
  have w3 := w.2.2.1
  have pw := pow_le hw
  intro s
  induction s with
  | zero =>
    intro _
    refine ⟨-4, ?_, ?_⟩
    · intro p n σ x hp hn c hx hI
      cases n with
      | zero => omega
      | succ n =>
        rw [L_X2_longestWithoutLoss_8]
        exact ⟨σ, by simp (disch := omega) only [zlet_eq, zg_t, zb_s, zb2_s, zl_0, zl_1, zl_2, zl_3, zl_4, zl_5, zl_6, zl_7, zl_8, zl_9, zl_10, zl_12, zl_16, zl_19, zl_20, zl_24, zl_31, zl_36, zl_39, zl_40, zl_48, zl_57, zl_63, zl_80, zl_97, zl_99, zl_100, zl_122, zl_128, zl_160, zl_199, zl_200, zl_255, zl_256, zl_320, zl_999, zl_6000, zl_6001, zl_9999, zl_999999, zq_0, zq_1, zq_2, zq_3, zq_4, zq_5, zq_7, zq_9, zq_10, zq_16, zq_17, zq_20, zq_48, zq_57, zq_97, zq_100, zq_122, zq_255, zq_999, zq_6000, zq_9999, zq_999999, nI_add, pk_mul, z_le_t, z_le_f, z_lt_t, z_lt_f, z_eq_t, z_eq_f, zcla, zi_nI, ↓reduceIte, z_ng, z_ngb, z_ngl, z_ngt, zI_y, zI_n, zI_2, zL_1, zL_2, nI_l, inN_t, inN_f, z_or0, lc_le_t, lc_le_f, lc_lt_t, lc_lt_f, lc_ge_t, lc_ge_f, lc_gt_t, lc_gt_f, lc_eq_t, lc_eq_f, z_ngle, lN_i, lN_add, lN_mul], rfl, fun _ _ _ => rfl⟩
    · intro n σ hn m h126
      cases n with
      | zero => omega
      | succ n =>
        rw [L_X11_seldom_22]
        exact ⟨σ, by simp (disch := omega) only [zlet_eq, zg_t, zb_s, zb2_s, zl_0, zl_1, zl_2, zl_3, zl_4, zl_5, zl_6, zl_7, zl_8, zl_9, zl_10, zl_12, zl_16, zl_19, zl_20, zl_24, zl_31, zl_36, zl_39, zl_40, zl_48, zl_57, zl_63, zl_80, zl_97, zl_99, zl_100, zl_122, zl_128, zl_160, zl_199, zl_200, zl_255, zl_256, zl_320, zl_999, zl_6000, zl_6001, zl_9999, zl_999999, zq_0, zq_1, zq_2, zq_3, zq_4, zq_5, zq_7, zq_9, zq_10, zq_16, zq_17, zq_20, zq_48, zq_57, zq_97, zq_100, zq_122, zq_255, zq_999, zq_6000, zq_9999, zq_999999, nI_add, pk_mul, z_le_t, z_le_f, z_lt_t, z_lt_f, z_eq_t, z_eq_f, zcla, zi_nI, ↓reduceIte, z_ng, z_ngb, z_ngl, z_ngt, zI_y, zI_n, zI_2, zL_1, zL_2, nI_l, inN_t, inN_f, z_or0, lc_le_t, lc_le_f, lc_lt_t, lc_lt_f, lc_ge_t, lc_ge_f, lc_gt_t, lc_gt_f, lc_eq_t, lc_eq_f, z_ngle, lN_i, lN_add, lN_mul], rfl, fun _ _ _ => rfl⟩
  | succ s ih =>
    intro hs
    obtain ⟨r, r1, r2⟩ := ih (by omega)
    have dec : nI (s + 1) + -1 = nI s := pk_m1 s
    have h1 : ¬ nI (s + 1) < 1 := of_eq_false (z_lt_f (a := s + 1) (b := 1) (by omega) (by omega))
    have h0 : ¬ nI (s + 1) ≤ 0 := of_eq_false (z_le_f (a := s + 1) (b := 0) (by omega) (by omega))
    by_cases hno : ∀ i, i ≤ zps P → (zlk P e (s + 1) (2 ^ ww) i).1 < 2 ^ ww
    · refine ⟨nI (s + 1), ?_, ?_⟩
      · intro p n σ x hp hn c hx hI
        cases n with
        | zero => omega
        | succ n =>
          have lose : J_X2_loses p (nI e) (nI (s + 1)) (nI (2 ^ ww - 1)) σ = some (nI 0, σ) := by
            rcases lst10 c w he (show 1 ≤ s + 1 by omega) (by omega) hw with ⟨q, -⟩ | ⟨b', e', -, -, -, ⟨i, i1, i2⟩, -⟩
            · exact q
            · have := hno i i1
              omega
          have D0 : D_X2_longestWithoutLoss_47 p (nI e) (nI (2 ^ ww - 1)) (L_X2_longestWithoutLoss_8 p (nI e) (nI (2 ^ ww - 1)) n) (nI (s + 1)) σ 0 = some (nI (s + 1), σ) := by
            unfold D_X2_longestWithoutLoss_47
            rw [if_pos rfl, lose]
            rfl
          rw [L_X2_longestWithoutLoss_8]
          refine ⟨σ, ?_, rfl, fun _ _ _ => rfl⟩
          rw [zlet_eq, if_neg h1, zlet_eq]
          by_cases hx0 : x = 0
          · rw [hx0]
            exact D0
          · have hx1 : ¬ nI x = 0 := of_eq_false (z_eq_f (a := x) (b := 0) hx0 (by omega) (by omega))
            rw [if_neg hx1]
            rcases hI with q | ⟨b', e', q1, q2, q3, q4, q5⟩
            · exact absurd q hx0
            · have s1 := slc_ c w (show b' ≤ zps P by omega) (show 1 ≤ s + 1 by omega) (by omega)
              have s2 := slc_ c w (show e' ≤ zps P by omega) (show 1 ≤ s + 1 by omega) (by omega)
              rw [q4, q5, s1, s2, zb_s, zb_s]
              have t1 := tt_le w b' (by omega)
              have t2 := tt_le w e' (by omega)
              have d1 := Nat.div_le_self (zptt P b') (s + 1)
              have d2 := Nat.div_le_self (zptt P e') (s + 1)
              have hne : ¬ zptt P b' / (s + 1) = zptt P e' / (s + 1) := by
                intro q
                obtain ⟨d, rfl⟩ : ∃ d, e' = b' + d := ⟨e' - b', by omega⟩
                have := lk_C (W := 2 ^ ww) w (e := e) d q2 q
                have := hno (b' + d + 1) (by omega)
                omega
              rw [if_neg (show ¬ nI (zptt P b' / (s + 1)) = nI (zptt P e' / (s + 1)) from fun q => hne ((nI_eq (by omega) (by omega)).mp q))]
              exact D0
      · intro n σ hn m h126
        cases n with
        | zero => omega
        | succ n =>
          rw [L_X11_seldom_22]
          obtain ⟨σ', q1, q2, q3, q4⟩ := tbt11 w hj he (show 1 ≤ s + 1 by omega) (by omega) hw2 hw m h126
          rw [(lk_iff w (by omega)).mpr hno] at q1
          refine ⟨σ', ?_, q2.2, q3⟩
          rw [zlet_eq, if_neg h0, q1, zb2_s, if_pos rfl]
    · have hex : ∃ i, i ≤ zps P ∧ 2 ^ ww ≤ (zlk P e (s + 1) (2 ^ ww) i).1 := by
        refine Classical.byContradiction fun q => hno fun i hi => Nat.lt_of_not_le fun q2 => q ⟨i, hi, q2⟩
      refine ⟨r, ?_, ?_⟩
      · intro p n σ x hp hn c hx hI
        cases n with
        | zero => omega
        | succ n =>
          have D0 : ∃ σ', D_X2_longestWithoutLoss_47 p (nI e) (nI (2 ^ ww - 1)) (L_X2_longestWithoutLoss_8 p (nI e) (nI (2 ^ ww - 1)) n) (nI (s + 1)) σ 0 = some (r, σ') ∧ σ'.2.2 = σ.2.2 ∧ ∀ c k, ¬ (c = 91) → σ'.1 c k = σ.1 c k := by
            unfold D_X2_longestWithoutLoss_47
            rcases lst10 c w he (show 1 ≤ s + 1 by omega) (by omega) hw with ⟨-, q⟩ | ⟨b', e', k1, k2, k3, -, k5⟩
            · exact absurd q hno
            · obtain ⟨σ', g1, g2, g3⟩ := r1 p n (zsI (zsI σ 91 2 (nI b')) 91 3 (nI e')) 1 hp (by omega) (cPr_c (I := σ.1) (fun c i hc => by rw [zI_n (by omega), zI_n (by omega)]) w c) (by omega) (Or.inr ⟨b', e', k1, k2, k3, by rw [zI_n (by omega), zI_y], by rw [zI_y]⟩)
              refine ⟨σ', ?_, g2, fun c k hc => by rw [g3 c k hc, zI_n (by omega), zI_n (by omega)]⟩
              rw [if_pos rfl, k5, zb2_s, if_neg (show ¬ nI 1 = 0 by decide), zlet_eq, dec]
              exact g1
          rw [L_X2_longestWithoutLoss_8, zlet_eq, if_neg h1, zlet_eq]
          by_cases hx0 : x = 0
          · rw [hx0]
            exact D0
          · have hx1 : ¬ nI x = 0 := of_eq_false (z_eq_f (a := x) (b := 0) hx0 (by omega) (by omega))
            rw [if_neg hx1]
            rcases hI with q | ⟨b', e', q1, q2, q3, q4, q5⟩
            · exact absurd q hx0
            · have s1 := slc_ c w (show b' ≤ zps P by omega) (show 1 ≤ s + 1 by omega) (by omega)
              have s2 := slc_ c w (show e' ≤ zps P by omega) (show 1 ≤ s + 1 by omega) (by omega)
              rw [q4, q5, s1, s2, zb_s, zb_s]
              by_cases hq : nI (zptt P b' / (s + 1)) = nI (zptt P e' / (s + 1))
              · rw [if_pos hq]
                unfold D_X2_longestWithoutLoss_47
                obtain ⟨σ', g1, g2, g3⟩ := r1 p n σ 1 hp (by omega) c (by omega) (Or.inr ⟨b', e', q1, q2, q3, q4, q5⟩)
                refine ⟨σ', ?_, g2, g3⟩
                rw [if_neg (show ¬ (1 : Int32) = 0 by decide), zlet_eq, dec]
                exact g1
              · rw [if_neg hq]
                exact D0
      · intro n σ hn m h126
        cases n with
        | zero => omega
        | succ n =>
          rw [L_X11_seldom_22]
          obtain ⟨σ1, q1, q2, q3, q4⟩ := tbt11 w hj he (show 1 ≤ s + 1 by omega) (by omega) hw2 hw m h126
          obtain ⟨σ', g1, g2, g3⟩ := r2 n σ1 (by omega) (zsim_m q2 m) (by rw [q3 _ _ (by omega)]; exact h126)
          refine ⟨σ', ?_, g2.trans q2.2, fun c k hc => (g3 c k hc).trans (q3 c k hc)⟩
          obtain ⟨b1, b2⟩ := zlk_b w (s := s + 1) (W := 2 ^ ww) he (zps P) (Nat.le_refl _)
          have tl := zto_le w he
          have md := Nat.mod_le (zlk P e (s + 1) (2 ^ ww) (zps P)).1 (2 ^ ww)
          have hne : ¬ nI ((zlk P e (s + 1) (2 ^ ww) (zps P)).2.1 + (zlk P e (s + 1) (2 ^ ww) (zps P)).1 % 2 ^ ww) = nI (zto P e) := fun q => hno ((lk_iff w (by omega)).mp ((nI_eq (by omega) (by omega)).mp q))
          rw [zlet_eq, if_neg h0, q1, zb2_s, if_neg hne, zlet_eq, dec]
          exact g1
theorem pp_seldom (a b : Int32) : zGood (J_X10_seldom a b) (J_X11_seldom a b) := by
  intro σ h kb
  obtain ⟨P, p, hp, hr, hz, w, c, m⟩ := zopen h
  unfold J_X10_seldom J_X11_seldom
  rcases ct_ h a b with ⟨k, j, e, M, ww, k2, hj, rfl, he, rfl, m1, w1, w2, w84, w126, e1, e2⟩ | ⟨e1, e2⟩
  · obtain ⟨r, r1, r2⟩ := lwl_ (j := j) w (by omega) he w1 w2 999 (by omega)
    obtain ⟨σ1, a1, a2, a3⟩ := r1 p 4294967296 σ 0 hp (by omega) c (by omega) (Or.inl rfl)
    have z1 : zsim σ σ1 := ⟨fun c k hc _ => a3 c k (by simp only [zscr] at hc; omega), a2⟩
    obtain ⟨σ2, b1, b2, b3⟩ := r2 4294967296 σ1 (by omega) (zsim_m z1 m) (by rw [a3 _ _ (by omega)]; exact w126)
    have z2 : zsim σ1 σ2 := ⟨fun c k hc _ => b3 c k (by simp only [zscr] at hc; omega), b2⟩
    have hg := grt_ (σ := σ) (show j < 4 by omega) w1 w2 w84
    have T2 := tot11 (σ := σ1) (zsim_m z1 m) w he
    have e2' : J_X11_canCount (nI j) (nI e) σ1 = some 1 := by
      rw [canCount_c (σ := σ) (a3 _ _ (by omega)) (fun j => a3 _ _ (by omega))]
      exact e2
    refine ⟨r, σ1, σ2, ?_, ?_, zRel_s (zsim_t z1 z2) h, rBank_c (fun c k hc => by rw [b3 _ _ (by omega), a3 _ _ (by omega)]) kb⟩
    · have a1' : J_X2_longestWithoutLoss p (nI e) (nI (2 ^ ww - 1)) σ = some (r, σ1) := a1
      simp only [zlet_eq, zg_t, zb_s, zb2_s, z10_eq, eq_self, ↓reduceIte, e1, hr, hz, hg, a1']
    · have b1' : L_X11_seldom_22 (nI j) (nI e) (nI (zto P e)) 4294967296 999 σ1 = some (r, σ2) := b1
      simp only [zlet_eq, zg_t, zb_s, zb2_s, z10_eq, eq_self, ↓reduceIte, e2', T2, b1']
  · exact ⟨-1, σ, σ, by simp only [zlet_eq, zg_t, zb_s, zb2_s, z10_eq, eq_self, ↓reduceIte, e1], by simp only [zlet_eq, zg_t, zb_s, zb2_s, z10_eq, eq_self, ↓reduceIte, e2], h, kb⟩
