set_option maxRecDepth 8000
/-! ===== keep ===== -/
def zkp (P : zM) (l e : Nat) : Nat := if l < zpn P then zf P e l else 0
theorem zkp_le {P : zM} (w : wPr P) {l e : Nat} (he : e < 8) : zkp P l e ≤ 594000 := by
  unfold zkp
  split
  · exact zf_le w he ‹_›
  · omega
theorem kt_ {p : Nat} {P : zM} (hp : p = 3 ∨ p = 33) (w : wPr P) {l : Nat} (hl : l < 16) (k : zS → Option zS) : ∀ m e n σ, e + m = 8 → m < n → cPr σ.1 p P → ∃ σ', L_X1_take_10 p (nI l) k n (nI e) σ = k σ' ∧ σ'.2.2 = σ.2.2 ∧ (∀ c i, ¬ (c = 65 + 1 + l ∧ e ≤ i ∧ i < 8) → σ'.1 c i = σ.1 c i) ∧ ∀ i, e ≤ i → i < 8 → σ'.1 (65 + 1 + l) i = nI (zkp P l i) := by
  intro m
  induction m with
  | zero =>
    intro e n σ h hn c
    cases n with
    | zero => omega
    | succ n =>
      rw [L_X1_take_10]
      obtain rfl : e = 8 := by omega
      exact ⟨σ, by simp (disch := omega) only [zlet_eq, zg_t, zb_s, zb2_s, zl_0, zl_1, zl_2, zl_3, zl_4, zl_5, zl_6, zl_7, zl_8, zl_9, zl_10, zl_12, zl_16, zl_19, zl_20, zl_24, zl_31, zl_36, zl_39, zl_40, zl_48, zl_57, zl_63, zl_80, zl_97, zl_99, zl_100, zl_122, zl_128, zl_160, zl_199, zl_200, zl_255, zl_256, zl_320, zl_999, zl_6000, zl_6001, zl_9999, zl_999999, zq_0, zq_1, zq_2, zq_3, zq_4, zq_5, zq_7, zq_9, zq_10, zq_16, zq_17, zq_20, zq_48, zq_57, zq_97, zq_100, zq_122, zq_255, zq_999, zq_6000, zq_9999, zq_999999, nI_add, pk_mul, z_le_t, z_le_f, z_lt_t, z_lt_f, z_eq_t, z_eq_f, zcla, zi_nI, ↓reduceIte, z_ng, z_ngb, z_ngl, z_ngt, zI_y, zI_n, zI_2, zL_1, zL_2, nI_l, inN_t, inN_f, z_or0, lc_le_t, lc_le_f, lc_lt_t, lc_lt_f, lc_ge_t, lc_ge_f, lc_gt_t, lc_gt_f, lc_eq_t, lc_eq_f, z_ngle, lN_i, lN_add, lN_mul], rfl, fun _ _ _ => rfl, fun i h1 h2 => absurd h1 (by omega)⟩
  | succ m ih =>
    intro e n σ h hn c
    cases n with
    | zero => omega
    | succ n =>
      rw [L_X1_take_10]
      have e0 := made3 (σ := σ) c w.1 hl (show e < 8 from by omega)
      obtain ⟨σ', e1, e2, e3, e4⟩ := ih (e + 1) n (zsI σ (65 + 1 + l) e (nI (zkp P l e))) (by omega) (by omega) (cPr_c (I := σ.1) (fun c i hc => zI_n (by omega)) w c)
      refine ⟨σ', by simp (disch := omega) only [zlet_eq, zg_t, zb_s, zb2_s, zl_0, zl_1, zl_2, zl_3, zl_4, zl_5, zl_6, zl_7, zl_8, zl_9, zl_10, zl_12, zl_16, zl_19, zl_20, zl_24, zl_31, zl_36, zl_39, zl_40, zl_48, zl_57, zl_63, zl_80, zl_97, zl_99, zl_100, zl_122, zl_128, zl_160, zl_199, zl_200, zl_255, zl_256, zl_320, zl_999, zl_6000, zl_6001, zl_9999, zl_999999, zq_0, zq_1, zq_2, zq_3, zq_4, zq_5, zq_7, zq_9, zq_10, zq_16, zq_17, zq_20, zq_48, zq_57, zq_97, zq_100, zq_122, zq_255, zq_999, zq_6000, zq_9999, zq_999999, nI_add, pk_mul, z_le_t, z_le_f, z_lt_t, z_lt_f, z_eq_t, z_eq_f, zcla, zi_nI, ↓reduceIte, z_ng, z_ngb, z_ngl, z_ngt, zI_y, zI_n, zI_2, zL_1, zL_2, nI_l, inN_t, inN_f, z_or0, lc_le_t, lc_le_f, lc_lt_t, lc_lt_f, lc_ge_t, lc_ge_f, lc_gt_t, lc_gt_f, lc_eq_t, lc_eq_f, z_ngle, lN_i, lN_add, lN_mul, e0]; exact e1, e2, ?_, ?_⟩
      · intro c i hc
        rw [e3 c i (by omega), zI_n (by omega)]
      · intro i i1 i2
        by_cases hi : i = e
        · subst hi
          rw [e3 _ _ (by omega), zI_y]
        · exact e4 i (by omega) i2
theorem kt2_ {p : Nat} {P : zM} (hp : p = 3 ∨ p = 33) (w : wPr P) : ∀ m l n σ, l + m = 16 → m < n → cPr σ.1 p P → ∃ σ', L_X1_take_2 p n (nI l) σ = some σ' ∧ σ'.2.2 = σ.2.2 ∧ (∀ c i, ¬ (65 + 1 + l ≤ c ∧ c < 82) → σ'.1 c i = σ.1 c i) ∧ ∀ j i, l ≤ j → j < 16 → i < 8 → σ'.1 (65 + 1 + j) i = nI (zkp P j i) := by
  intro m
  induction m with
  | zero =>
    intro l n σ h hn c
    cases n with
    | zero => omega
    | succ n =>
      rw [L_X1_take_2]
      obtain rfl : l = 16 := by omega
      exact ⟨σ, by simp (disch := omega) only [zlet_eq, zg_t, zb_s, zb2_s, zl_0, zl_1, zl_2, zl_3, zl_4, zl_5, zl_6, zl_7, zl_8, zl_9, zl_10, zl_12, zl_16, zl_19, zl_20, zl_24, zl_31, zl_36, zl_39, zl_40, zl_48, zl_57, zl_63, zl_80, zl_97, zl_99, zl_100, zl_122, zl_128, zl_160, zl_199, zl_200, zl_255, zl_256, zl_320, zl_999, zl_6000, zl_6001, zl_9999, zl_999999, zq_0, zq_1, zq_2, zq_3, zq_4, zq_5, zq_7, zq_9, zq_10, zq_16, zq_17, zq_20, zq_48, zq_57, zq_97, zq_100, zq_122, zq_255, zq_999, zq_6000, zq_9999, zq_999999, nI_add, pk_mul, z_le_t, z_le_f, z_lt_t, z_lt_f, z_eq_t, z_eq_f, zcla, zi_nI, ↓reduceIte, z_ng, z_ngb, z_ngl, z_ngt, zI_y, zI_n, zI_2, zL_1, zL_2, nI_l, inN_t, inN_f, z_or0, lc_le_t, lc_le_f, lc_lt_t, lc_lt_f, lc_ge_t, lc_ge_f, lc_gt_t, lc_gt_f, lc_eq_t, lc_eq_f, z_ngle, lN_i, lN_add, lN_mul], rfl, fun _ _ _ => rfl, fun j i h1 h2 => absurd h1 (by omega)⟩
  | succ m ih =>
    intro l n σ h hn c
    cases n with
    | zero => omega
    | succ n =>
      rw [L_X1_take_2]
      obtain ⟨σ1, a1, a2, a3, a4⟩ := kt_ hp w (show l < 16 from by omega) (D_X1_take_36 (L_X1_take_2 p n) (nI l)) 8 0 4294967296 σ (by omega) (by omega) c
      obtain ⟨σ', e1, e2, e3, e4⟩ := ih (l + 1) n σ1 (by omega) (by omega) (cPr_c (I := σ.1) (fun c i hc => a3 c i (by omega)) w c)
      refine ⟨σ', ?_, e2.trans a2, ?_, ?_⟩
      · simp (disch := omega) only [zlet_eq, zg_t, zb_s, zb2_s, zl_0, zl_1, zl_2, zl_3, zl_4, zl_5, zl_6, zl_7, zl_8, zl_9, zl_10, zl_12, zl_16, zl_19, zl_20, zl_24, zl_31, zl_36, zl_39, zl_40, zl_48, zl_57, zl_63, zl_80, zl_97, zl_99, zl_100, zl_122, zl_128, zl_160, zl_199, zl_200, zl_255, zl_256, zl_320, zl_999, zl_6000, zl_6001, zl_9999, zl_999999, zq_0, zq_1, zq_2, zq_3, zq_4, zq_5, zq_7, zq_9, zq_10, zq_16, zq_17, zq_20, zq_48, zq_57, zq_97, zq_100, zq_122, zq_255, zq_999, zq_6000, zq_9999, zq_999999, nI_add, pk_mul, z_le_t, z_le_f, z_lt_t, z_lt_f, z_eq_t, z_eq_f, zcla, zi_nI, ↓reduceIte, z_ng, z_ngb, z_ngl, z_ngt, zI_y, zI_n, zI_2, zL_1, zL_2, nI_l, inN_t, inN_f, z_or0, lc_le_t, lc_le_f, lc_lt_t, lc_lt_f, lc_ge_t, lc_ge_f, lc_gt_t, lc_gt_f, lc_eq_t, lc_eq_f, z_ngle, lN_i, lN_add, lN_mul, a1, D_X1_take_36]
        exact e1
      · intro c i hc
        rw [e3 c i (by omega), a3 _ _ (by omega)]
      · intro j i i1 i2 i3
        by_cases hi : j = l
        · subst hi
          rw [e3 _ _ (by omega), a4 i (by omega) i3]
        · exact e4 j i (by omega) i2 i3
theorem kk_ {P : zM} (w : wPr P) {l : Nat} (hl : l < 16) (k : zS → Option (Int32 × zS)) : ∀ m e n σ, e + m = 8 → m < n → mPr σ.1 P → ∃ σ', L_X11_keep_18 (nI l) k n (nI e) σ = k σ' ∧ σ'.2.2 = σ.2.2 ∧ (∀ c i, ¬ (c = 124 ∧ 8 * l + e ≤ i ∧ i < 8 * l + 8) → σ'.1 c i = σ.1 c i) ∧ ∀ i, e ≤ i → i < 8 → σ'.1 124 (8 * l + i) = nI (zkp P l i) := by
  intro m
  have w1 := w.1
  induction m with
  | zero =>
    intro e n σ h hn c
    cases n with
    | zero => omega
    | succ n =>
      rw [L_X11_keep_18]
      obtain rfl : e = 8 := by omega
      exact ⟨σ, by simp (disch := omega) only [zlet_eq, zg_t, zb_s, zb2_s, zl_0, zl_1, zl_2, zl_3, zl_4, zl_5, zl_6, zl_7, zl_8, zl_9, zl_10, zl_12, zl_16, zl_19, zl_20, zl_24, zl_31, zl_36, zl_39, zl_40, zl_48, zl_57, zl_63, zl_80, zl_97, zl_99, zl_100, zl_122, zl_128, zl_160, zl_199, zl_200, zl_255, zl_256, zl_320, zl_999, zl_6000, zl_6001, zl_9999, zl_999999, zq_0, zq_1, zq_2, zq_3, zq_4, zq_5, zq_7, zq_9, zq_10, zq_16, zq_17, zq_20, zq_48, zq_57, zq_97, zq_100, zq_122, zq_255, zq_999, zq_6000, zq_9999, zq_999999, nI_add, pk_mul, z_le_t, z_le_f, z_lt_t, z_lt_f, z_eq_t, z_eq_f, zcla, zi_nI, ↓reduceIte, z_ng, z_ngb, z_ngl, z_ngt, zI_y, zI_n, zI_2, zL_1, zL_2, nI_l, inN_t, inN_f, z_or0, lc_le_t, lc_le_f, lc_lt_t, lc_lt_f, lc_ge_t, lc_ge_f, lc_gt_t, lc_gt_f, lc_eq_t, lc_eq_f, z_ngle, lN_i, lN_add, lN_mul], rfl, fun _ _ _ => rfl, fun i h1 h2 => absurd h1 (by omega)⟩
  | succ m ih =>
    intro e n σ h hn c
    cases n with
    | zero => omega
    | succ n =>
      rw [L_X11_keep_18]
      obtain ⟨σ', e1, e2, e3, e4⟩ := ih (e + 1) n (zsI σ 124 (8 * l + e) (nI (zkp P l e))) (by omega) (by omega) (mPr_c (I := σ.1) (fun c i hc => zI_n (by omega)) c)
      refine ⟨σ', ?_, e2, ?_, ?_⟩
      · by_cases hlp : l < zpn P
        · have e0 := made11 (σ := σ) c w.1 hlp (show e < 8 from by omega)
          rw [show zkp P l e = zptm P l * zpev P l e from if_pos hlp] at e1
          obtain ⟨c1, c2, c3, c4, c5, c6, c7⟩ := c
          simp (disch := omega) only [zlet_eq, zg_t, zb_s, zb2_s, zl_0, zl_1, zl_2, zl_3, zl_4, zl_5, zl_6, zl_7, zl_8, zl_9, zl_10, zl_12, zl_16, zl_19, zl_20, zl_24, zl_31, zl_36, zl_39, zl_40, zl_48, zl_57, zl_63, zl_80, zl_97, zl_99, zl_100, zl_122, zl_128, zl_160, zl_199, zl_200, zl_255, zl_256, zl_320, zl_999, zl_6000, zl_6001, zl_9999, zl_999999, zq_0, zq_1, zq_2, zq_3, zq_4, zq_5, zq_7, zq_9, zq_10, zq_16, zq_17, zq_20, zq_48, zq_57, zq_97, zq_100, zq_122, zq_255, zq_999, zq_6000, zq_9999, zq_999999, nI_add, pk_mul, z_le_t, z_le_f, z_lt_t, z_lt_f, z_eq_t, z_eq_f, zcla, zi_nI, ↓reduceIte, z_ng, z_ngb, z_ngl, z_ngt, zI_y, zI_n, zI_2, zL_1, zL_2, nI_l, inN_t, inN_f, z_or0, lc_le_t, lc_le_f, lc_lt_t, lc_lt_f, lc_ge_t, lc_ge_f, lc_gt_t, lc_gt_f, lc_eq_t, lc_eq_f, z_ngle, lN_i, lN_add, lN_mul, c1, c5, e0]
          exact e1
        · rw [show zkp P l e = 0 from if_neg hlp] at e1
          obtain ⟨c1, c2, c3, c4, c5, c6, c7⟩ := c
          simp (disch := omega) only [zlet_eq, zg_t, zb_s, zb2_s, zl_0, zl_1, zl_2, zl_3, zl_4, zl_5, zl_6, zl_7, zl_8, zl_9, zl_10, zl_12, zl_16, zl_19, zl_20, zl_24, zl_31, zl_36, zl_39, zl_40, zl_48, zl_57, zl_63, zl_80, zl_97, zl_99, zl_100, zl_122, zl_128, zl_160, zl_199, zl_200, zl_255, zl_256, zl_320, zl_999, zl_6000, zl_6001, zl_9999, zl_999999, zq_0, zq_1, zq_2, zq_3, zq_4, zq_5, zq_7, zq_9, zq_10, zq_16, zq_17, zq_20, zq_48, zq_57, zq_97, zq_100, zq_122, zq_255, zq_999, zq_6000, zq_9999, zq_999999, nI_add, pk_mul, z_le_t, z_le_f, z_lt_t, z_lt_f, z_eq_t, z_eq_f, zcla, zi_nI, ↓reduceIte, z_ng, z_ngb, z_ngl, z_ngt, zI_y, zI_n, zI_2, zL_1, zL_2, nI_l, inN_t, inN_f, z_or0, lc_le_t, lc_le_f, lc_lt_t, lc_lt_f, lc_ge_t, lc_ge_f, lc_gt_t, lc_gt_f, lc_eq_t, lc_eq_f, z_ngle, lN_i, lN_add, lN_mul, c1]
          exact e1
      · intro c i hc
        rw [e3 c i (by omega), zI_n (by omega)]
      · intro i i1 i2
        by_cases hi : i = e
        · subst hi
          rw [e3 _ _ (by omega), zI_y]
        · exact e4 i (by omega) i2
theorem kk2_ {P : zM} (w : wPr P) : ∀ m l n σ, l + m = 16 → m < n → mPr σ.1 P → ∃ σ', L_X11_keep_10 n (nI l) σ = some (σ.1 105 34, σ') ∧ σ'.2.2 = σ.2.2 ∧ (∀ c i, ¬ (c = 124 ∧ 8 * l ≤ i) → σ'.1 c i = σ.1 c i) ∧ ∀ j i, l ≤ j → j < 16 → i < 8 → σ'.1 124 (8 * j + i) = nI (zkp P j i) := by
  intro m
  induction m with
  | zero =>
    intro l n σ h hn c
    cases n with
    | zero => omega
    | succ n =>
      rw [L_X11_keep_10]
      obtain rfl : l = 16 := by omega
      exact ⟨σ, by simp (disch := omega) only [zlet_eq, zg_t, zb_s, zb2_s, zl_0, zl_1, zl_2, zl_3, zl_4, zl_5, zl_6, zl_7, zl_8, zl_9, zl_10, zl_12, zl_16, zl_19, zl_20, zl_24, zl_31, zl_36, zl_39, zl_40, zl_48, zl_57, zl_63, zl_80, zl_97, zl_99, zl_100, zl_122, zl_128, zl_160, zl_199, zl_200, zl_255, zl_256, zl_320, zl_999, zl_6000, zl_6001, zl_9999, zl_999999, zq_0, zq_1, zq_2, zq_3, zq_4, zq_5, zq_7, zq_9, zq_10, zq_16, zq_17, zq_20, zq_48, zq_57, zq_97, zq_100, zq_122, zq_255, zq_999, zq_6000, zq_9999, zq_999999, nI_add, pk_mul, z_le_t, z_le_f, z_lt_t, z_lt_f, z_eq_t, z_eq_f, zcla, zi_nI, ↓reduceIte, z_ng, z_ngb, z_ngl, z_ngt, zI_y, zI_n, zI_2, zL_1, zL_2, nI_l, inN_t, inN_f, z_or0, lc_le_t, lc_le_f, lc_lt_t, lc_lt_f, lc_ge_t, lc_ge_f, lc_gt_t, lc_gt_f, lc_eq_t, lc_eq_f, z_ngle, lN_i, lN_add, lN_mul], rfl, fun _ _ _ => rfl, fun j i h1 h2 => absurd h1 (by omega)⟩
  | succ m ih =>
    intro l n σ h hn c
    cases n with
    | zero => omega
    | succ n =>
      rw [L_X11_keep_10]
      obtain ⟨σ1, a1, a2, a3, a4⟩ := kk_ w (show l < 16 from by omega) (D_X11_keep_66 (L_X11_keep_10 n) (nI l)) 8 0 4294967296 σ (by omega) (by omega) c
      obtain ⟨σ', e1, e2, e3, e4⟩ := ih (l + 1) n σ1 (by omega) (by omega) (mPr_c (I := σ.1) (fun c i hc => a3 c i (by omega)) c)
      refine ⟨σ', ?_, e2.trans a2, ?_, ?_⟩
      · simp (disch := omega) only [zlet_eq, zg_t, zb_s, zb2_s, zl_0, zl_1, zl_2, zl_3, zl_4, zl_5, zl_6, zl_7, zl_8, zl_9, zl_10, zl_12, zl_16, zl_19, zl_20, zl_24, zl_31, zl_36, zl_39, zl_40, zl_48, zl_57, zl_63, zl_80, zl_97, zl_99, zl_100, zl_122, zl_128, zl_160, zl_199, zl_200, zl_255, zl_256, zl_320, zl_999, zl_6000, zl_6001, zl_9999, zl_999999, zq_0, zq_1, zq_2, zq_3, zq_4, zq_5, zq_7, zq_9, zq_10, zq_16, zq_17, zq_20, zq_48, zq_57, zq_97, zq_100, zq_122, zq_255, zq_999, zq_6000, zq_9999, zq_999999, nI_add, pk_mul, z_le_t, z_le_f, z_lt_t, z_lt_f, z_eq_t, z_eq_f, zcla, zi_nI, ↓reduceIte, z_ng, z_ngb, z_ngl, z_ngt, zI_y, zI_n, zI_2, zL_1, zL_2, nI_l, inN_t, inN_f, z_or0, lc_le_t, lc_le_f, lc_lt_t, lc_lt_f, lc_ge_t, lc_ge_f, lc_gt_t, lc_gt_f, lc_eq_t, lc_eq_f, z_ngle, lN_i, lN_add, lN_mul, a1, D_X11_keep_66]
        rw [e1, a3 _ _ (by omega)]
      · intro c i hc
        rw [e3 c i (by omega), a3 _ _ (by omega)]
      · intro j i i1 i2 i3
        by_cases hi : j = l
        · subst hi
          rw [e3 _ _ (by omega), a4 i (by omega) i3]
        · exact e4 j i (by omega) i2 i3
theorem pp_keep : zGood J_X10_keep J_X11_keep := by
  intro σ h kb
  obtain ⟨P, p, hp, hr, hz, w, c, m⟩ := zopen h
  have h' := h
  obtain ⟨g1, g2, g3, g4, g5, g6, g7, g8⟩ := h
  obtain ⟨σ1, a1, a2, a3, a4⟩ := kt2_ hp w 16 0 4294967296 σ (by omega) (by omega) c
  have m1 : mPr (zsI σ1 105 34 (σ1.1 105 0)).1 P := mPr_c (I := σ.1) (fun c i hc => by rw [zI_n (by omega), a3 _ _ (by omega)]) m
  obtain ⟨σ2, b1, b2, b3, b4⟩ := kk2_ w 16 0 4294967296 _ (by omega) (by omega) m1
  have f : ∀ c i, ¬ (66 ≤ c ∧ c < 82) → ¬ (c = 105 ∧ i = 34) → ¬ (c = 124) → σ2.1 c i = σ.1 c i := by
    intro c i h1 h2 h3
    rw [b3 _ _ (by omega), zI_n (by omega), a3 _ _ (by omega)]
  refine ⟨nI (zpn P), σ1, σ2, ?_, ?_, ?_, rBank_c (fun c k hc => f _ _ (by omega) (by omega) (by omega)) kb⟩
  · unfold J_X10_keep J_X1_take
    have e2 : σ1.1 p 0 = nI (zpn P) := by rw [a3 _ _ (by omega), c.1]
    rw [← zl_0] at a1
    rw [zlet_eq, hr, hz, zg_t, a1, zb_s, zlet_eq, a2, hr, hz, zg_t, e2]
  · unfold J_X11_keep
    rw [zlet_eq]
    refine b1.trans ?_
    rw [zI_y, a3 _ _ (by omega), m.1]
  · refine zRel_g h' (fun c k hc => f _ _ (by omega) (by omega) (by omega)) ?_ (rTape_c (fun c k hc => f _ _ (by omega) (by omega) (by omega)) g1) ?_ (rCnt_c (fun c k hc => f _ _ (by omega) (by omega) (by omega)) g6) (rRuns_c (fun c k hc => f _ _ (by omega) (by omega) (by omega)) g7) (rSheet_c (fun c k hc => f _ _ (by omega) (by omega) (by omega)) g8)
    · rw [b2, zI_2, a2]
    · intro l e hl he
      refine ⟨zkp P l e, zkp_le w he, ?_, b4 l e (by omega) hl he⟩
      rw [b3 _ _ (by omega), zI_n (by omega), a4 l e (by omega) hl he]
