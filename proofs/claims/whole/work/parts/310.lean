/-! ===== counts over the lines ===== -/
def zf (P : zM) (e l : Nat) : Nat := zptm P l * zpev P l e
abbrev zto (P : zM) (e : Nat) : Nat := zsm (zf P e) (zpn P)
theorem tm_sum {P : zM} (w : wPr P) : zsm (zptm P) (zpn P) ≤ 6000 := by
  obtain ⟨w1, w2, w3, w4, w5, w6, w7, w8, w9⟩ := w
  have h := w9 (fun _ => 1)
  have e1 : ∀ n, zsm (fun _ => 1) n = n := by
    intro n
    induction n with
    | zero => rfl
    | succ n ih => rw [zsm_s, ih]
  rw [e1] at h
  have h2 : zsm (fun l => zptm P l * 1) (zpn P) = zsm (zptm P) (zpn P) := zsm_congr fun i _ => Nat.mul_one _
  rw [h2] at h
  omega
theorem tm_le {P : zM} (w : wPr P) {l : Nat} (hl : l < zpn P) : zptm P l ≤ 6000 := Nat.le_trans (zsm_at hl) (tm_sum w)
theorem zto_le {P : zM} (w : wPr P) {e : Nat} (he : e < 8) : zto P e ≤ 594000 := by
  have h1 : zto P e ≤ zsm (fun l => zptm P l * 99) (zpn P) := zsm_le fun l hl => by
    obtain ⟨_, _, _, w4, _⟩ := w
    exact Nat.mul_le_mul (Nat.le_refl _) ((w4 l hl).2.2.2.2.1 e he)
  rw [zsm_mul] at h1
  have := tm_sum w
  omega
theorem zf_le {P : zM} (w : wPr P) {e l : Nat} (he : e < 8) (hl : l < zpn P) : zf P e l ≤ 594000 := Nat.le_trans (zsm_at hl) (zto_le w he)
theorem tb_ {p : Nat} {P : zM} {σ : zS} {e a b : Nat} (c : cPr σ.1 p P) (hb : b ≤ zpn P) (w : zpn P ≤ 16) (he : e < 8) : ∀ k i n, i + k = b → k < n → a ≤ i → L_X3_totalBetween_6 p (nI b) (nI e) σ n (nI (zsm (zf P e) i - zsm (zf P e) a)) (nI i) = some (nI (zsm (zf P e) b - zsm (zf P e) a)) := by
  intro k
  obtain ⟨c1, c2, c3, c4, c5, c6, c7⟩ := c
  induction k with
  | zero =>
    intro i n h hn ha
    cases n with
    | zero => omega
    | succ n =>
      obtain rfl : i = b := by omega
      rw [L_X3_totalBetween_6]
      simp (disch := omega) only [zlet_eq, zg_t, zb_s, zb2_s, zl_0, zl_1, zl_2, zl_3, zl_4, zl_5, zl_6, zl_7, zl_8, zl_9, zl_10, zl_12, zl_16, zl_19, zl_20, zl_24, zl_31, zl_36, zl_39, zl_40, zl_48, zl_57, zl_63, zl_80, zl_97, zl_99, zl_100, zl_122, zl_128, zl_160, zl_199, zl_200, zl_255, zl_256, zl_320, zl_999, zl_6000, zl_6001, zl_9999, zl_999999, zq_0, zq_1, zq_2, zq_3, zq_4, zq_5, zq_7, zq_9, zq_10, zq_16, zq_17, zq_20, zq_48, zq_57, zq_97, zq_100, zq_122, zq_255, zq_999, zq_6000, zq_9999, zq_999999, nI_add, pk_mul, z_le_t, z_le_f, z_lt_t, z_lt_f, z_eq_t, z_eq_f, zcla, zi_nI, ↓reduceIte, z_ng, z_ngb, z_ngl, z_ngt, zI_y, zI_n, zI_2, zL_1, zL_2, nI_l, inN_t, inN_f, z_or0, lc_le_t, lc_le_f, lc_lt_t, lc_lt_f, lc_ge_t, lc_ge_f, lc_gt_t, lc_gt_f, lc_eq_t, lc_eq_f, z_ngle, lN_i, lN_add, lN_mul]
  | succ k ih =>
    intro i n h hn ha
    cases n with
    | zero => omega
    | succ n =>
      have q := ih (i + 1) n (by omega) (by omega) (by omega)
      rw [L_X3_totalBetween_6]
      simp (disch := omega) only [zlet_eq, zg_t, zb_s, zb2_s, zl_0, zl_1, zl_2, zl_3, zl_4, zl_5, zl_6, zl_7, zl_8, zl_9, zl_10, zl_12, zl_16, zl_19, zl_20, zl_24, zl_31, zl_36, zl_39, zl_40, zl_48, zl_57, zl_63, zl_80, zl_97, zl_99, zl_100, zl_122, zl_128, zl_160, zl_199, zl_200, zl_255, zl_256, zl_320, zl_999, zl_6000, zl_6001, zl_9999, zl_999999, zq_0, zq_1, zq_2, zq_3, zq_4, zq_5, zq_7, zq_9, zq_10, zq_16, zq_17, zq_20, zq_48, zq_57, zq_97, zq_100, zq_122, zq_255, zq_999, zq_6000, zq_9999, zq_999999, nI_add, pk_mul, z_le_t, z_le_f, z_lt_t, z_lt_f, z_eq_t, z_eq_f, zcla, zi_nI, ↓reduceIte, z_ng, z_ngb, z_ngl, z_ngt, zI_y, zI_n, zI_2, zL_1, zL_2, nI_l, inN_t, inN_f, z_or0, lc_le_t, lc_le_f, lc_lt_t, lc_lt_f, lc_ge_t, lc_ge_f, lc_gt_t, lc_gt_f, lc_eq_t, lc_eq_f, z_ngle, lN_i, lN_add, lN_mul, c4]
      rw [show zsm (zf P e) i - zsm (zf P e) a + zptm P i * zpev P i e = zsm (zf P e) (i + 1) - zsm (zf P e) a from by
        have := zsm_mono (f := zf P e) ha
        rw [zsm_s]
        show _ = zsm (zf P e) i + zptm P i * zpev P i e - _
        omega]
      exact q
theorem tot3 {p : Nat} {P : zM} {σ : zS} {e : Nat} (c : cPr σ.1 p P) (w : wPr P) (he : e < 8) : J_X3_total p (nI e) σ = some (nI (zto P e)) := by
  have h := tb_ (a := 0) c (Nat.le_refl _) w.1 he (zpn P) 0 4294967296 (by omega) (by have := w.1; omega) (by omega)
  unfold J_X3_total J_X3_totalBetween
  rw [c.1]
  rw [show (nI (zsm (zf P e) 0 - zsm (zf P e) 0)) = 0 from rfl, show nI 0 = (0 : Int32) from rfl] at h
  rw [h]
  rfl
theorem made11 {P : zM} {σ : zS} {i e : Nat} (m : mPr σ.1 P) (w : zpn P ≤ 16) (hi : i < zpn P) (he : e < 8) : J_X11_made (nI i) (nI e) σ = some (nI (zpev P i e)) := by
  obtain ⟨m1, m2, m3, m4, m5, m6, m7⟩ := m
  unfold J_X11_made
  simp (disch := omega) only [zlet_eq, zg_t, zb_s, zb2_s, zl_0, zl_1, zl_2, zl_3, zl_4, zl_5, zl_6, zl_7, zl_8, zl_9, zl_10, zl_12, zl_16, zl_19, zl_20, zl_24, zl_31, zl_36, zl_39, zl_40, zl_48, zl_57, zl_63, zl_80, zl_97, zl_99, zl_100, zl_122, zl_128, zl_160, zl_199, zl_200, zl_255, zl_256, zl_320, zl_999, zl_6000, zl_6001, zl_9999, zl_999999, zq_0, zq_1, zq_2, zq_3, zq_4, zq_5, zq_7, zq_9, zq_10, zq_16, zq_17, zq_20, zq_48, zq_57, zq_97, zq_100, zq_122, zq_255, zq_999, zq_6000, zq_9999, zq_999999, nI_add, pk_mul, z_le_t, z_le_f, z_lt_t, z_lt_f, z_eq_t, z_eq_f, zcla, zi_nI, ↓reduceIte, z_ng, z_ngb, z_ngl, z_ngt, zI_y, zI_n, zI_2, zL_1, zL_2, nI_l, inN_t, inN_f, z_or0, lc_le_t, lc_le_f, lc_lt_t, lc_lt_f, lc_ge_t, lc_ge_f, lc_gt_t, lc_gt_f, lc_eq_t, lc_eq_f, z_ngle, lN_i, lN_add, lN_mul, m5]
theorem tt_ {P : zM} {σ : zS} {e : Nat} (m : mPr σ.1 P) (w : zpn P ≤ 16) (he : e < 8) : ∀ k i n, i + k = zpn P → k < n → L_X11_total_4 (nI e) σ n (nI (zsm (zf P e) i)) (nI i) = some (nI (zto P e)) := by
  intro k
  have m' := m
  obtain ⟨m1, m2, m3, m4, m5, m6, m7⟩ := m
  induction k with
  | zero =>
    intro i n h hn
    cases n with
    | zero => omega
    | succ n =>
      obtain rfl : i = zpn P := by omega
      rw [L_X11_total_4]
      simp (disch := omega) only [zlet_eq, zg_t, zb_s, zb2_s, zl_0, zl_1, zl_2, zl_3, zl_4, zl_5, zl_6, zl_7, zl_8, zl_9, zl_10, zl_12, zl_16, zl_19, zl_20, zl_24, zl_31, zl_36, zl_39, zl_40, zl_48, zl_57, zl_63, zl_80, zl_97, zl_99, zl_100, zl_122, zl_128, zl_160, zl_199, zl_200, zl_255, zl_256, zl_320, zl_999, zl_6000, zl_6001, zl_9999, zl_999999, zq_0, zq_1, zq_2, zq_3, zq_4, zq_5, zq_7, zq_9, zq_10, zq_16, zq_17, zq_20, zq_48, zq_57, zq_97, zq_100, zq_122, zq_255, zq_999, zq_6000, zq_9999, zq_999999, nI_add, pk_mul, z_le_t, z_le_f, z_lt_t, z_lt_f, z_eq_t, z_eq_f, zcla, zi_nI, ↓reduceIte, z_ng, z_ngb, z_ngl, z_ngt, zI_y, zI_n, zI_2, zL_1, zL_2, nI_l, inN_t, inN_f, z_or0, lc_le_t, lc_le_f, lc_lt_t, lc_lt_f, lc_ge_t, lc_ge_f, lc_gt_t, lc_gt_f, lc_eq_t, lc_eq_f, z_ngle, lN_i, lN_add, lN_mul, m1]
  | succ k ih =>
    intro i n h hn
    cases n with
    | zero => omega
    | succ n =>
      have q := ih (i + 1) n (by omega) (by omega)
      rw [L_X11_total_4]
      simp (disch := omega) only [zlet_eq, zg_t, zb_s, zb2_s, zl_0, zl_1, zl_2, zl_3, zl_4, zl_5, zl_6, zl_7, zl_8, zl_9, zl_10, zl_12, zl_16, zl_19, zl_20, zl_24, zl_31, zl_36, zl_39, zl_40, zl_48, zl_57, zl_63, zl_80, zl_97, zl_99, zl_100, zl_122, zl_128, zl_160, zl_199, zl_200, zl_255, zl_256, zl_320, zl_999, zl_6000, zl_6001, zl_9999, zl_999999, zq_0, zq_1, zq_2, zq_3, zq_4, zq_5, zq_7, zq_9, zq_10, zq_16, zq_17, zq_20, zq_48, zq_57, zq_97, zq_100, zq_122, zq_255, zq_999, zq_6000, zq_9999, zq_999999, nI_add, pk_mul, z_le_t, z_le_f, z_lt_t, z_lt_f, z_eq_t, z_eq_f, zcla, zi_nI, ↓reduceIte, z_ng, z_ngb, z_ngl, z_ngt, zI_y, zI_n, zI_2, zL_1, zL_2, nI_l, inN_t, inN_f, z_or0, lc_le_t, lc_le_f, lc_lt_t, lc_lt_f, lc_ge_t, lc_ge_f, lc_gt_t, lc_gt_f, lc_eq_t, lc_eq_f, z_ngle, lN_i, lN_add, lN_mul, m1, m5, made11 m' w]
      exact q
theorem tot11 {P : zM} {σ : zS} {e : Nat} (m : mPr σ.1 P) (w : wPr P) (he : e < 8) : J_X11_total (nI e) σ = some (nI (zto P e)) :=
  tt_ m w.1 he (zpn P) 0 4294967296 (by omega) (by have := w.1; omega)
theorem made3 {p : Nat} {P : zM} {σ : zS} {i e : Nat} (c : cPr σ.1 p P) (w : zpn P ≤ 16) (hi : i < 16) (he : e < 8) : J_X3_made p (nI i) (nI e) σ = some (nI (if i < zpn P then zf P e i else 0)) := by
  obtain ⟨c1, c2, c3, c4, c5, c6, c7⟩ := c
  unfold J_X3_made
  by_cases h : i < zpn P
  · simp (disch := omega) only [zlet_eq, zg_t, zb_s, zb2_s, zl_0, zl_1, zl_2, zl_3, zl_4, zl_5, zl_6, zl_7, zl_8, zl_9, zl_10, zl_12, zl_16, zl_19, zl_20, zl_24, zl_31, zl_36, zl_39, zl_40, zl_48, zl_57, zl_63, zl_80, zl_97, zl_99, zl_100, zl_122, zl_128, zl_160, zl_199, zl_200, zl_255, zl_256, zl_320, zl_999, zl_6000, zl_6001, zl_9999, zl_999999, zq_0, zq_1, zq_2, zq_3, zq_4, zq_5, zq_7, zq_9, zq_10, zq_16, zq_17, zq_20, zq_48, zq_57, zq_97, zq_100, zq_122, zq_255, zq_999, zq_6000, zq_9999, zq_999999, nI_add, pk_mul, z_le_t, z_le_f, z_lt_t, z_lt_f, z_eq_t, z_eq_f, zcla, zi_nI, ↓reduceIte, z_ng, z_ngb, z_ngl, z_ngt, zI_y, zI_n, zI_2, zL_1, zL_2, nI_l, inN_t, inN_f, z_or0, lc_le_t, lc_le_f, lc_lt_t, lc_lt_f, lc_ge_t, lc_ge_f, lc_gt_t, lc_gt_f, lc_eq_t, lc_eq_f, z_ngle, lN_i, lN_add, lN_mul, c1, c4, h]
    rfl
  · simp (disch := omega) only [zlet_eq, zg_t, zb_s, zb2_s, zl_0, zl_1, zl_2, zl_3, zl_4, zl_5, zl_6, zl_7, zl_8, zl_9, zl_10, zl_12, zl_16, zl_19, zl_20, zl_24, zl_31, zl_36, zl_39, zl_40, zl_48, zl_57, zl_63, zl_80, zl_97, zl_99, zl_100, zl_122, zl_128, zl_160, zl_199, zl_200, zl_255, zl_256, zl_320, zl_999, zl_6000, zl_6001, zl_9999, zl_999999, zq_0, zq_1, zq_2, zq_3, zq_4, zq_5, zq_7, zq_9, zq_10, zq_16, zq_17, zq_20, zq_48, zq_57, zq_97, zq_100, zq_122, zq_255, zq_999, zq_6000, zq_9999, zq_999999, nI_add, pk_mul, z_le_t, z_le_f, z_lt_t, z_lt_f, z_eq_t, z_eq_f, zcla, zi_nI, ↓reduceIte, z_ng, z_ngb, z_ngl, z_ngt, zI_y, zI_n, zI_2, zL_1, zL_2, nI_l, inN_t, inN_f, z_or0, lc_le_t, lc_le_f, lc_lt_t, lc_lt_f, lc_ge_t, lc_ge_f, lc_gt_t, lc_gt_f, lc_eq_t, lc_eq_f, z_ngle, lN_i, lN_add, lN_mul, c1, h]
