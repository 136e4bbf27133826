set_option maxRecDepth 8000
/-! ===== went ===== -/
theorem wi_dvd {ou te : Nat → Nat} {q : Nat} : ∀ f k, zwi ou q f k = true → te q ∣ zpr ou te f k := by
  intro f
  induction f with
  | zero => intro k h; cases h
  | succ f ih =>
    intro k h
    by_cases h0 : k = 0
    · subst h0
      cases h
    · have e1 : zwi ou q (f + 1) k = (k == q + 1 || zwi ou q f (ou (k - 1))) := if_neg h0
      have e3 : zpr ou te (f + 1) k = te (k - 1) * zpr ou te f (ou (k - 1)) := if_neg h0
      rw [e3]
      rw [e1, Bool.or_eq_true] at h
      rcases h with h | h
      · have : k = q + 1 := by simpa using h
        subst this
        exact Nat.dvd_mul_right _ _
      · exact Nat.dvd_trans (ih _ h) (Nat.dvd_mul_left _ _)
def zqi (P : zM) (q e : Nat) : Nat → Nat := zsm (fun j => if ivl (zpfi P q) (zpbe P q) j = true then zf P e j else 0)
def zqo (P : zM) (q e : Nat) : Nat → Nat := zsm (fun j => if ivl (zpfi P q) (zpbe P q) j = true then 0 else zf P e j)
theorem zqio (P : zM) (q e n : Nat) : zqi P q e n + zqo P q e n = zsm (zf P e) n := by
  unfold zqi zqo
  rw [← zsm_add]
  apply zsm_congr
  intro i _
  by_cases hi : ivl (zpfi P q) (zpbe P q) i = true
  · rw [if_pos hi, if_pos hi]; rfl
  · rw [if_neg hi, if_neg hi]; omega
def zqd (P : zM) (q e : Nat) : Nat → Nat := zsm (fun j => if ivl (zpfi P q) (zpbe P q) j = true then (zptm P j / zpte P q) * zpev P j e else 0)
theorem tm_dvd {P : zM} (w : wPr P) {q l : Nat} (hq : q < zpq P) (hl : l < zpn P) (hi : ivl (zpfi P q) (zpbe P q) l = true) : zpte P q ∣ zptm P l := by
  have w4 := w.2.2.2.1 l hl
  have e2 : zwi (zpou P) q 41 (zpar P l) = true := (w4.2.2.2.2.2.2.2 q hq).mpr (by simpa [ivl] using hi)
  have := wi_dvd (te := zpte P) 41 _ e2
  rw [← w4.2.2.2.2.2.2.1] at this
  exact this
theorem zqd_eq {P : zM} (w : wPr P) {q e : Nat} (hq : q < zpq P) : ∀ n, n ≤ zpn P → zqd P q e n * zpte P q = zqi P q e n := by
  intro n
  induction n with
  | zero => intro _; exact Nat.zero_mul _
  | succ n ih =>
    intro h
    have i1 := ih (by omega)
    unfold zqd zqi at i1 ⊢
    rw [zsm_s, zsm_s, Nat.add_mul, i1]
    congr 1
    by_cases hi : ivl (zpfi P q) (zpbe P q) n = true
    · rw [if_pos hi, if_pos hi]
      have d := tm_dvd w hq (show n < zpn P by omega) hi
      rw [Nat.mul_right_comm, Nat.div_mul_cancel d]
      rfl
    · rw [if_neg hi, if_neg hi, Nat.zero_mul]
theorem we_ {P : zM} {σ : zS} (m : mPr σ.1 P) (w : wPr P) {q e : Nat} (hq : q < zpq P) (he : e < 8) (K : Int32 → Int32 → Option Int32) : ∀ k l n, l + k = zpn P → k < n → L_X11_went_53 (nI q) (nI e) σ (bO (ivl (zpfi P q) (zpbe P q)) (zpn P)) K n (nI (zqo P q e l)) (nI (zqd P q e l)) (nI l) = K (nI (zqo P q e (zpn P))) (nI (zqd P q e (zpn P))) := by
  intro k
  have m' := m
  have w' := w
  obtain ⟨m1, m2, m3, m4, m5, m6, m7⟩ := m
  obtain ⟨w1, w2, w3, w4, w5, w6⟩ := w
  obtain ⟨v1, v2, v3, v4, v5, v6⟩ := w5 q hq
  induction k with
  | zero =>
    intro l n h hn
    cases n with
    | zero => omega
    | succ n =>
      obtain rfl : l = zpn P := by omega
      rw [L_X11_went_53]
      simp (disch := omega) only [zlet_eq, zg_t, zb_s, zb2_s, zl_0, zl_1, zl_2, zl_3, zl_4, zl_5, zl_6, zl_7, zl_8, zl_9, zl_10, zl_12, zl_16, zl_19, zl_20, zl_24, zl_31, zl_36, zl_39, zl_40, zl_48, zl_57, zl_63, zl_80, zl_97, zl_99, zl_100, zl_122, zl_128, zl_160, zl_199, zl_200, zl_255, zl_256, zl_320, zl_999, zl_6000, zl_6001, zl_9999, zl_999999, zq_0, zq_1, zq_2, zq_3, zq_4, zq_5, zq_7, zq_9, zq_10, zq_16, zq_17, zq_20, zq_48, zq_57, zq_97, zq_100, zq_122, zq_255, zq_999, zq_6000, zq_9999, zq_999999, nI_add, pk_mul, z_le_t, z_le_f, z_lt_t, z_lt_f, z_eq_t, z_eq_f, zcla, zi_nI, ↓reduceIte, z_ng, z_ngb, z_ngl, z_ngt, zI_y, zI_n, zI_2, zL_1, zL_2, nI_l, inN_t, inN_f, z_or0, lc_le_t, lc_le_f, lc_lt_t, lc_lt_f, lc_ge_t, lc_ge_f, lc_gt_t, lc_gt_f, lc_eq_t, lc_eq_f, z_ngle, lN_i, lN_add, lN_mul, m1]
  | succ k ih =>
    intro l n h hn
    cases n with
    | zero => omega
    | succ n =>
      have q1 := ih (l + 1) n (by omega) (by omega)
      have s1 : zqo P q e (l + 1) = zqo P q e l + (if ivl (zpfi P q) (zpbe P q) l = true then 0 else zf P e l) := rfl
      have s2 : zqd P q e (l + 1) = zqd P q e l + (if ivl (zpfi P q) (zpbe P q) l = true then (zptm P l / zpte P q) * zpev P l e else 0) := rfl
      rw [s1, s2] at q1
      have b1 := mask_bit (l := l) v4 v5 w1 (by omega)
      have b2 : ((bO (ivl (zpfi P q) (zpbe P q)) (zpn P) >>> (nI l &&& nI 31)) &&& nI 1 : Int32) = nI (if ivl (zpfi P q) (zpbe P q) l = true then 1 else 0) := b1
      have e0 := made11 (σ := σ) m' w1 (show l < zpn P by omega) he
      have tl := tm_le w' (show l < zpn P by omega)
      rw [L_X11_went_53]
      by_cases hi : ivl (zpfi P q) (zpbe P q) l = true
      · rw [if_pos hi, if_pos hi] at q1
        rw [if_pos hi] at b2
        have dv := pk_div (a := zptm P l) (d := zpte P q) (by omega) (by omega) (by omega)
        simp (disch := omega) only [zlet_eq, zg_t, zb_s, zb2_s, zl_0, zl_1, zl_2, zl_3, zl_4, zl_5, zl_6, zl_7, zl_8, zl_9, zl_10, zl_12, zl_16, zl_19, zl_20, zl_24, zl_31, zl_36, zl_39, zl_40, zl_48, zl_57, zl_63, zl_80, zl_97, zl_99, zl_100, zl_122, zl_128, zl_160, zl_199, zl_200, zl_255, zl_256, zl_320, zl_999, zl_6000, zl_6001, zl_9999, zl_999999, zq_0, zq_1, zq_2, zq_3, zq_4, zq_5, zq_7, zq_9, zq_10, zq_16, zq_17, zq_20, zq_48, zq_57, zq_97, zq_100, zq_122, zq_255, zq_999, zq_6000, zq_9999, zq_999999, nI_add, pk_mul, z_le_t, z_le_f, z_lt_t, z_lt_f, z_eq_t, z_eq_f, zcla, zi_nI, ↓reduceIte, z_ng, z_ngb, z_ngl, z_ngt, zI_y, zI_n, zI_2, zL_1, zL_2, nI_l, inN_t, inN_f, z_or0, lc_le_t, lc_le_f, lc_lt_t, lc_lt_f, lc_ge_t, lc_ge_f, lc_gt_t, lc_gt_f, lc_eq_t, lc_eq_f, z_ngle, lN_i, lN_add, lN_mul, m1, b2, D_X11_went_106, m6, m5, zn_nI, e0, dv]
        exact q1
      · rw [if_neg hi, if_neg hi] at q1
        rw [if_neg hi] at b2
        simp (disch := omega) only [zlet_eq, zg_t, zb_s, zb2_s, zl_0, zl_1, zl_2, zl_3, zl_4, zl_5, zl_6, zl_7, zl_8, zl_9, zl_10, zl_12, zl_16, zl_19, zl_20, zl_24, zl_31, zl_36, zl_39, zl_40, zl_48, zl_57, zl_63, zl_80, zl_97, zl_99, zl_100, zl_122, zl_128, zl_160, zl_199, zl_200, zl_255, zl_256, zl_320, zl_999, zl_6000, zl_6001, zl_9999, zl_999999, zq_0, zq_1, zq_2, zq_3, zq_4, zq_5, zq_7, zq_9, zq_10, zq_16, zq_17, zq_20, zq_48, zq_57, zq_97, zq_100, zq_122, zq_255, zq_999, zq_6000, zq_9999, zq_999999, nI_add, pk_mul, z_le_t, z_le_f, z_lt_t, z_lt_f, z_eq_t, z_eq_f, zcla, zi_nI, ↓reduceIte, z_ng, z_ngb, z_ngl, z_ngt, zI_y, zI_n, zI_2, zL_1, zL_2, nI_l, inN_t, inN_f, z_or0, lc_le_t, lc_le_f, lc_lt_t, lc_lt_f, lc_ge_t, lc_ge_f, lc_gt_t, lc_gt_f, lc_eq_t, lc_eq_f, z_ngle, lN_i, lN_add, lN_mul, m1, b2, D_X11_went_106, m5, e0]
        exact q1
theorem we_end {x d o : Nat} (hd : d ≤ 999999) (ho : o ≤ 594000) (hx : x ≤ 594000) : ∃ r, D_X10_went_82 (nI d - nI o) (nI x) = some r ∧ D_X11_went_151 (nI d) (nI o) (nI x) = some r := by
  unfold D_X10_went_82 D_X11_went_151 D_X10_went_131
  by_cases h : o ≤ d
  · rw [pk_sub h]
    generalize hv : d - o = v
    have hvb : v ≤ 999999 := by omega
    by_cases hx0 : x = 0
    · by_cases hv0 : v = 0
      · refine ⟨0, ?_, ?_⟩
        · simp (disch := omega) only [zlet_eq, zg_t, zb_s, zb2_s, zl_0, zl_1, zl_2, zl_3, zl_4, zl_5, zl_6, zl_7, zl_8, zl_9, zl_10, zl_12, zl_16, zl_19, zl_20, zl_24, zl_31, zl_36, zl_39, zl_40, zl_48, zl_57, zl_63, zl_80, zl_97, zl_99, zl_100, zl_122, zl_128, zl_160, zl_199, zl_200, zl_255, zl_256, zl_320, zl_999, zl_6000, zl_6001, zl_9999, zl_999999, zq_0, zq_1, zq_2, zq_3, zq_4, zq_5, zq_7, zq_9, zq_10, zq_16, zq_17, zq_20, zq_48, zq_57, zq_97, zq_100, zq_122, zq_255, zq_999, zq_6000, zq_9999, zq_999999, nI_add, pk_mul, z_le_t, z_le_f, z_lt_t, z_lt_f, z_eq_t, z_eq_f, zcla, zi_nI, ↓reduceIte, z_ng, z_ngb, z_ngl, z_ngt, zI_y, zI_n, zI_2, zL_1, zL_2, nI_l, inN_t, inN_f, z_or0, lc_le_t, lc_le_f, lc_lt_t, lc_lt_f, lc_ge_t, lc_ge_f, lc_gt_t, lc_gt_f, lc_eq_t, lc_eq_f, z_ngle, lN_i, lN_add, lN_mul]
        · simp (disch := omega) only [zlet_eq, zg_t, zb_s, zb2_s, zl_0, zl_1, zl_2, zl_3, zl_4, zl_5, zl_6, zl_7, zl_8, zl_9, zl_10, zl_12, zl_16, zl_19, zl_20, zl_24, zl_31, zl_36, zl_39, zl_40, zl_48, zl_57, zl_63, zl_80, zl_97, zl_99, zl_100, zl_122, zl_128, zl_160, zl_199, zl_200, zl_255, zl_256, zl_320, zl_999, zl_6000, zl_6001, zl_9999, zl_999999, zq_0, zq_1, zq_2, zq_3, zq_4, zq_5, zq_7, zq_9, zq_10, zq_16, zq_17, zq_20, zq_48, zq_57, zq_97, zq_100, zq_122, zq_255, zq_999, zq_6000, zq_9999, zq_999999, nI_add, pk_mul, z_le_t, z_le_f, z_lt_t, z_lt_f, z_eq_t, z_eq_f, zcla, zi_nI, ↓reduceIte, z_ng, z_ngb, z_ngl, z_ngt, zI_y, zI_n, zI_2, zL_1, zL_2, nI_l, inN_t, inN_f, z_or0, lc_le_t, lc_le_f, lc_lt_t, lc_lt_f, lc_ge_t, lc_ge_f, lc_gt_t, lc_gt_f, lc_eq_t, lc_eq_f, z_ngle, lN_i, lN_add, lN_mul]
      · refine ⟨-4, ?_, ?_⟩
        · simp (disch := omega) only [zlet_eq, zg_t, zb_s, zb2_s, zl_0, zl_1, zl_2, zl_3, zl_4, zl_5, zl_6, zl_7, zl_8, zl_9, zl_10, zl_12, zl_16, zl_19, zl_20, zl_24, zl_31, zl_36, zl_39, zl_40, zl_48, zl_57, zl_63, zl_80, zl_97, zl_99, zl_100, zl_122, zl_128, zl_160, zl_199, zl_200, zl_255, zl_256, zl_320, zl_999, zl_6000, zl_6001, zl_9999, zl_999999, zq_0, zq_1, zq_2, zq_3, zq_4, zq_5, zq_7, zq_9, zq_10, zq_16, zq_17, zq_20, zq_48, zq_57, zq_97, zq_100, zq_122, zq_255, zq_999, zq_6000, zq_9999, zq_999999, nI_add, pk_mul, z_le_t, z_le_f, z_lt_t, z_lt_f, z_eq_t, z_eq_f, zcla, zi_nI, ↓reduceIte, z_ng, z_ngb, z_ngl, z_ngt, zI_y, zI_n, zI_2, zL_1, zL_2, nI_l, inN_t, inN_f, z_or0, lc_le_t, lc_le_f, lc_lt_t, lc_lt_f, lc_ge_t, lc_ge_f, lc_gt_t, lc_gt_f, lc_eq_t, lc_eq_f, z_ngle, lN_i, lN_add, lN_mul]
        · simp (disch := omega) only [zlet_eq, zg_t, zb_s, zb2_s, zl_0, zl_1, zl_2, zl_3, zl_4, zl_5, zl_6, zl_7, zl_8, zl_9, zl_10, zl_12, zl_16, zl_19, zl_20, zl_24, zl_31, zl_36, zl_39, zl_40, zl_48, zl_57, zl_63, zl_80, zl_97, zl_99, zl_100, zl_122, zl_128, zl_160, zl_199, zl_200, zl_255, zl_256, zl_320, zl_999, zl_6000, zl_6001, zl_9999, zl_999999, zq_0, zq_1, zq_2, zq_3, zq_4, zq_5, zq_7, zq_9, zq_10, zq_16, zq_17, zq_20, zq_48, zq_57, zq_97, zq_100, zq_122, zq_255, zq_999, zq_6000, zq_9999, zq_999999, nI_add, pk_mul, z_le_t, z_le_f, z_lt_t, z_lt_f, z_eq_t, z_eq_f, zcla, zi_nI, ↓reduceIte, z_ng, z_ngb, z_ngl, z_ngt, zI_y, zI_n, zI_2, zL_1, zL_2, nI_l, inN_t, inN_f, z_or0, lc_le_t, lc_le_f, lc_lt_t, lc_lt_f, lc_ge_t, lc_ge_f, lc_gt_t, lc_gt_f, lc_eq_t, lc_eq_f, z_ngle, lN_i, lN_add, lN_mul]
    · have e1 := pk_rem (a := v) (d := x) (by omega) (by omega) (by omega)
      have e2 := pk_div (a := v) (d := x) (by omega) (by omega) (by omega)
      have e1' : nI v - nI (v / x * x) = nI (v % x) := by
        rw [← pk_mul, ← e2]
        exact e1
      have e3 : v / x ≤ v := Nat.div_le_self _ _
      have e4 : v % x < x := Nat.mod_lt _ (by omega)
      by_cases hm : v % x = 0
      · by_cases hq : 9999 < v / x
        · refine ⟨-4, ?_, ?_⟩
          · simp (disch := omega) only [zlet_eq, zg_t, zb_s, zb2_s, zl_0, zl_1, zl_2, zl_3, zl_4, zl_5, zl_6, zl_7, zl_8, zl_9, zl_10, zl_12, zl_16, zl_19, zl_20, zl_24, zl_31, zl_36, zl_39, zl_40, zl_48, zl_57, zl_63, zl_80, zl_97, zl_99, zl_100, zl_122, zl_128, zl_160, zl_199, zl_200, zl_255, zl_256, zl_320, zl_999, zl_6000, zl_6001, zl_9999, zl_999999, zq_0, zq_1, zq_2, zq_3, zq_4, zq_5, zq_7, zq_9, zq_10, zq_16, zq_17, zq_20, zq_48, zq_57, zq_97, zq_100, zq_122, zq_255, zq_999, zq_6000, zq_9999, zq_999999, nI_add, pk_mul, z_le_t, z_le_f, z_lt_t, z_lt_f, z_eq_t, z_eq_f, zcla, zi_nI, ↓reduceIte, z_ng, z_ngb, z_ngl, z_ngt, zI_y, zI_n, zI_2, zL_1, zL_2, nI_l, inN_t, inN_f, z_or0, lc_le_t, lc_le_f, lc_lt_t, lc_lt_f, lc_ge_t, lc_ge_f, lc_gt_t, lc_gt_f, lc_eq_t, lc_eq_f, z_ngle, lN_i, lN_add, lN_mul, zn_nI, e1', e2]
          · simp (disch := omega) only [zlet_eq, zg_t, zb_s, zb2_s, zl_0, zl_1, zl_2, zl_3, zl_4, zl_5, zl_6, zl_7, zl_8, zl_9, zl_10, zl_12, zl_16, zl_19, zl_20, zl_24, zl_31, zl_36, zl_39, zl_40, zl_48, zl_57, zl_63, zl_80, zl_97, zl_99, zl_100, zl_122, zl_128, zl_160, zl_199, zl_200, zl_255, zl_256, zl_320, zl_999, zl_6000, zl_6001, zl_9999, zl_999999, zq_0, zq_1, zq_2, zq_3, zq_4, zq_5, zq_7, zq_9, zq_10, zq_16, zq_17, zq_20, zq_48, zq_57, zq_97, zq_100, zq_122, zq_255, zq_999, zq_6000, zq_9999, zq_999999, nI_add, pk_mul, z_le_t, z_le_f, z_lt_t, z_lt_f, z_eq_t, z_eq_f, zcla, zi_nI, ↓reduceIte, z_ng, z_ngb, z_ngl, z_ngt, zI_y, zI_n, zI_2, zL_1, zL_2, nI_l, inN_t, inN_f, z_or0, lc_le_t, lc_le_f, lc_lt_t, lc_lt_f, lc_ge_t, lc_ge_f, lc_gt_t, lc_gt_f, lc_eq_t, lc_eq_f, z_ngle, lN_i, lN_add, lN_mul, zn_nI, e1', e2]
        · refine ⟨nI (v / x), ?_, ?_⟩
          · simp (disch := omega) only [zlet_eq, zg_t, zb_s, zb2_s, zl_0, zl_1, zl_2, zl_3, zl_4, zl_5, zl_6, zl_7, zl_8, zl_9, zl_10, zl_12, zl_16, zl_19, zl_20, zl_24, zl_31, zl_36, zl_39, zl_40, zl_48, zl_57, zl_63, zl_80, zl_97, zl_99, zl_100, zl_122, zl_128, zl_160, zl_199, zl_200, zl_255, zl_256, zl_320, zl_999, zl_6000, zl_6001, zl_9999, zl_999999, zq_0, zq_1, zq_2, zq_3, zq_4, zq_5, zq_7, zq_9, zq_10, zq_16, zq_17, zq_20, zq_48, zq_57, zq_97, zq_100, zq_122, zq_255, zq_999, zq_6000, zq_9999, zq_999999, nI_add, pk_mul, z_le_t, z_le_f, z_lt_t, z_lt_f, z_eq_t, z_eq_f, zcla, zi_nI, ↓reduceIte, z_ng, z_ngb, z_ngl, z_ngt, zI_y, zI_n, zI_2, zL_1, zL_2, nI_l, inN_t, inN_f, z_or0, lc_le_t, lc_le_f, lc_lt_t, lc_lt_f, lc_ge_t, lc_ge_f, lc_gt_t, lc_gt_f, lc_eq_t, lc_eq_f, z_ngle, lN_i, lN_add, lN_mul, zn_nI, e1', e2]
          · simp (disch := omega) only [zlet_eq, zg_t, zb_s, zb2_s, zl_0, zl_1, zl_2, zl_3, zl_4, zl_5, zl_6, zl_7, zl_8, zl_9, zl_10, zl_12, zl_16, zl_19, zl_20, zl_24, zl_31, zl_36, zl_39, zl_40, zl_48, zl_57, zl_63, zl_80, zl_97, zl_99, zl_100, zl_122, zl_128, zl_160, zl_199, zl_200, zl_255, zl_256, zl_320, zl_999, zl_6000, zl_6001, zl_9999, zl_999999, zq_0, zq_1, zq_2, zq_3, zq_4, zq_5, zq_7, zq_9, zq_10, zq_16, zq_17, zq_20, zq_48, zq_57, zq_97, zq_100, zq_122, zq_255, zq_999, zq_6000, zq_9999, zq_999999, nI_add, pk_mul, z_le_t, z_le_f, z_lt_t, z_lt_f, z_eq_t, z_eq_f, zcla, zi_nI, ↓reduceIte, z_ng, z_ngb, z_ngl, z_ngt, zI_y, zI_n, zI_2, zL_1, zL_2, nI_l, inN_t, inN_f, z_or0, lc_le_t, lc_le_f, lc_lt_t, lc_lt_f, lc_ge_t, lc_ge_f, lc_gt_t, lc_gt_f, lc_eq_t, lc_eq_f, z_ngle, lN_i, lN_add, lN_mul, zn_nI, e1', e2]
      · refine ⟨-4, ?_, ?_⟩
        · simp (disch := omega) only [zlet_eq, zg_t, zb_s, zb2_s, zl_0, zl_1, zl_2, zl_3, zl_4, zl_5, zl_6, zl_7, zl_8, zl_9, zl_10, zl_12, zl_16, zl_19, zl_20, zl_24, zl_31, zl_36, zl_39, zl_40, zl_48, zl_57, zl_63, zl_80, zl_97, zl_99, zl_100, zl_122, zl_128, zl_160, zl_199, zl_200, zl_255, zl_256, zl_320, zl_999, zl_6000, zl_6001, zl_9999, zl_999999, zq_0, zq_1, zq_2, zq_3, zq_4, zq_5, zq_7, zq_9, zq_10, zq_16, zq_17, zq_20, zq_48, zq_57, zq_97, zq_100, zq_122, zq_255, zq_999, zq_6000, zq_9999, zq_999999, nI_add, pk_mul, z_le_t, z_le_f, z_lt_t, z_lt_f, z_eq_t, z_eq_f, zcla, zi_nI, ↓reduceIte, z_ng, z_ngb, z_ngl, z_ngt, zI_y, zI_n, zI_2, zL_1, zL_2, nI_l, inN_t, inN_f, z_or0, lc_le_t, lc_le_f, lc_lt_t, lc_lt_f, lc_ge_t, lc_ge_f, lc_gt_t, lc_gt_f, lc_eq_t, lc_eq_f, z_ngle, lN_i, lN_add, lN_mul, zn_nI, e1', e2]
        · simp (disch := omega) only [zlet_eq, zg_t, zb_s, zb2_s, zl_0, zl_1, zl_2, zl_3, zl_4, zl_5, zl_6, zl_7, zl_8, zl_9, zl_10, zl_12, zl_16, zl_19, zl_20, zl_24, zl_31, zl_36, zl_39, zl_40, zl_48, zl_57, zl_63, zl_80, zl_97, zl_99, zl_100, zl_122, zl_128, zl_160, zl_199, zl_200, zl_255, zl_256, zl_320, zl_999, zl_6000, zl_6001, zl_9999, zl_999999, zq_0, zq_1, zq_2, zq_3, zq_4, zq_5, zq_7, zq_9, zq_10, zq_16, zq_17, zq_20, zq_48, zq_57, zq_97, zq_100, zq_122, zq_255, zq_999, zq_6000, zq_9999, zq_999999, nI_add, pk_mul, z_le_t, z_le_f, z_lt_t, z_lt_f, z_eq_t, z_eq_f, zcla, zi_nI, ↓reduceIte, z_ng, z_ngb, z_ngl, z_ngt, zI_y, zI_n, zI_2, zL_1, zL_2, nI_l, inN_t, inN_f, z_or0, lc_le_t, lc_le_f, lc_lt_t, lc_lt_f, lc_ge_t, lc_ge_f, lc_gt_t, lc_gt_f, lc_eq_t, lc_eq_f, z_ngle, lN_i, lN_add, lN_mul, zn_nI, e1', e2]
  · have e0 : nI d - nI o = -nI (o - d) := by
      rw [← pk_sub (by omega), Int32.neg_sub]
    rw [e0]
    have e5 : (-nI (o - d) < nI 0) = True := z_ngt (by omega) (by omega) (by omega)
    have e6 : (-nI (o - d) = nI 0) = False := eq_false fun q => of_eq_false (z_ng (a := 0) (b := o - d) (by omega) (by omega) (by omega)) q.symm
    by_cases hx0 : x = 0
    · refine ⟨-4, ?_, ?_⟩
      · simp (disch := omega) only [zlet_eq, zg_t, zb_s, zb2_s, zl_0, zl_1, zl_2, zl_3, zl_4, zl_5, zl_6, zl_7, zl_8, zl_9, zl_10, zl_12, zl_16, zl_19, zl_20, zl_24, zl_31, zl_36, zl_39, zl_40, zl_48, zl_57, zl_63, zl_80, zl_97, zl_99, zl_100, zl_122, zl_128, zl_160, zl_199, zl_200, zl_255, zl_256, zl_320, zl_999, zl_6000, zl_6001, zl_9999, zl_999999, zq_0, zq_1, zq_2, zq_3, zq_4, zq_5, zq_7, zq_9, zq_10, zq_16, zq_17, zq_20, zq_48, zq_57, zq_97, zq_100, zq_122, zq_255, zq_999, zq_6000, zq_9999, zq_999999, nI_add, pk_mul, z_le_t, z_le_f, z_lt_t, z_lt_f, z_eq_t, z_eq_f, zcla, zi_nI, ↓reduceIte, z_ng, z_ngb, z_ngl, z_ngt, zI_y, zI_n, zI_2, zL_1, zL_2, nI_l, inN_t, inN_f, z_or0, lc_le_t, lc_le_f, lc_lt_t, lc_lt_f, lc_ge_t, lc_ge_f, lc_gt_t, lc_gt_f, lc_eq_t, lc_eq_f, z_ngle, lN_i, lN_add, lN_mul, e6]
      · simp (disch := omega) only [zlet_eq, zg_t, zb_s, zb2_s, zl_0, zl_1, zl_2, zl_3, zl_4, zl_5, zl_6, zl_7, zl_8, zl_9, zl_10, zl_12, zl_16, zl_19, zl_20, zl_24, zl_31, zl_36, zl_39, zl_40, zl_48, zl_57, zl_63, zl_80, zl_97, zl_99, zl_100, zl_122, zl_128, zl_160, zl_199, zl_200, zl_255, zl_256, zl_320, zl_999, zl_6000, zl_6001, zl_9999, zl_999999, zq_0, zq_1, zq_2, zq_3, zq_4, zq_5, zq_7, zq_9, zq_10, zq_16, zq_17, zq_20, zq_48, zq_57, zq_97, zq_100, zq_122, zq_255, zq_999, zq_6000, zq_9999, zq_999999, nI_add, pk_mul, z_le_t, z_le_f, z_lt_t, z_lt_f, z_eq_t, z_eq_f, zcla, zi_nI, ↓reduceIte, z_ng, z_ngb, z_ngl, z_ngt, zI_y, zI_n, zI_2, zL_1, zL_2, nI_l, inN_t, inN_f, z_or0, lc_le_t, lc_le_f, lc_lt_t, lc_lt_f, lc_ge_t, lc_ge_f, lc_gt_t, lc_gt_f, lc_eq_t, lc_eq_f, z_ngle, lN_i, lN_add, lN_mul, e0, e6]
    · refine ⟨-4, ?_, ?_⟩
      · simp (disch := omega) only [zlet_eq, zg_t, zb_s, zb2_s, zl_0, zl_1, zl_2, zl_3, zl_4, zl_5, zl_6, zl_7, zl_8, zl_9, zl_10, zl_12, zl_16, zl_19, zl_20, zl_24, zl_31, zl_36, zl_39, zl_40, zl_48, zl_57, zl_63, zl_80, zl_97, zl_99, zl_100, zl_122, zl_128, zl_160, zl_199, zl_200, zl_255, zl_256, zl_320, zl_999, zl_6000, zl_6001, zl_9999, zl_999999, zq_0, zq_1, zq_2, zq_3, zq_4, zq_5, zq_7, zq_9, zq_10, zq_16, zq_17, zq_20, zq_48, zq_57, zq_97, zq_100, zq_122, zq_255, zq_999, zq_6000, zq_9999, zq_999999, nI_add, pk_mul, z_le_t, z_le_f, z_lt_t, z_lt_f, z_eq_t, z_eq_f, zcla, zi_nI, ↓reduceIte, z_ng, z_ngb, z_ngl, z_ngt, zI_y, zI_n, zI_2, zL_1, zL_2, nI_l, inN_t, inN_f, z_or0, lc_le_t, lc_le_f, lc_lt_t, lc_lt_f, lc_ge_t, lc_ge_f, lc_gt_t, lc_gt_f, lc_eq_t, lc_eq_f, z_ngle, lN_i, lN_add, lN_mul, zn_nI, e5]
      · simp (disch := omega) only [zlet_eq, zg_t, zb_s, zb2_s, zl_0, zl_1, zl_2, zl_3, zl_4, zl_5, zl_6, zl_7, zl_8, zl_9, zl_10, zl_12, zl_16, zl_19, zl_20, zl_24, zl_31, zl_36, zl_39, zl_40, zl_48, zl_57, zl_63, zl_80, zl_97, zl_99, zl_100, zl_122, zl_128, zl_160, zl_199, zl_200, zl_255, zl_256, zl_320, zl_999, zl_6000, zl_6001, zl_9999, zl_999999, zq_0, zq_1, zq_2, zq_3, zq_4, zq_5, zq_7, zq_9, zq_10, zq_16, zq_17, zq_20, zq_48, zq_57, zq_97, zq_100, zq_122, zq_255, zq_999, zq_6000, zq_9999, zq_999999, nI_add, pk_mul, z_le_t, z_le_f, z_lt_t, z_lt_f, z_eq_t, z_eq_f, zcla, zi_nI, ↓reduceIte, z_ng, z_ngb, z_ngl, z_ngt, zI_y, zI_n, zI_2, zL_1, zL_2, nI_l, inN_t, inN_f, z_or0, lc_le_t, lc_le_f, lc_lt_t, lc_lt_f, lc_ge_t, lc_ge_f, lc_gt_t, lc_gt_f, lc_eq_t, lc_eq_f, z_ngle, lN_i, lN_add, lN_mul, e0, e5]
theorem pp_went {σ : zS} (h : zRel σ) (a b d : Int32) : ∃ r, J_X10_went a b d σ = some r ∧ J_X11_went a b d σ = some r := by
  obtain ⟨P, p, hp, hr, hz, w, c, m⟩ := zopen h
  have w1 := w.1
  have w2 := w.2.1
  unfold J_X10_went J_X11_went
  by_cases ha : zL a (zpq P)
  · have e1 := hasLoop_y (σ := σ) c.2.1 ha (by omega)
    have e2 := zinm_y (σ := σ) ha (by omega)
    rw [m.2.1]
    obtain ⟨q, hq, rfl⟩ := ha
    obtain ⟨v1, v2, v3, v4, v5, v6, v7, v8⟩ := w.2.2.2.2.1 q hq
    have c5 := c.2.2.2.2.1
    by_cases hb : zL b 8
    · have b1 := isEvent_y (σ := σ) hb
      have b2 := isEventM_y (σ := σ) hb
      obtain ⟨e, he, rfl⟩ := hb
      by_cases hd : zR d 0 999999
      · have d1 := zin_y (σ := σ) (y := 0) (z := 999999) hd rfl rfl (by omega) (by omega)
        obtain ⟨x, -, hx, rfl⟩ := hd
        have t1 : zi (nI q) 40 = true := zi_nI (by omega) (by omega)
        have t2 : (nI q).toNatClampNeg = q := zcla (by omega)
        have T1 : J_X3_totalIn p (nI q) (nI e) σ = some (nI (zqi P q e (zpn P))) := by
          unfold J_X3_totalIn J_X3_totalBetween
          simp only [zlet_eq, zg_t, zb_s, zb2_s, z10_eq, eq_self, ↓reduceIte, t1, t2, (c5 q hq).2.2.2.1, (c5 q hq).2.2.2.2]
          have := tb_ (σ := σ) (a := zpfi P q) c v5 w1 he (zpbe P q - zpfi P q) (zpfi P q) 4294967296 (by omega) (by omega) (Nat.le_refl _)
          rw [Nat.sub_self] at this
          rw [show (0 : Int32) = nI 0 from rfl, this, zb_s]
          unfold zqi
          rw [zsm_iv v4 v5]
        have T2 := tot3 (σ := σ) c w he
        have tl := zto_le w he
        have io : zqi P q e (zpn P) + zqo P q e (zpn P) = zto P e := zqio P q e (zpn P)
        have idq := zqd_eq (e := e) w hq (zpn P) (Nat.le_refl _)
        have dvd : zqi P q e (zpn P) / zpte P q = zqd P q e (zpn P) := by
          rw [← idq, Nat.mul_div_cancel _ (by omega)]
        have idl : zqd P q e (zpn P) ≤ zqi P q e (zpn P) := by
          rw [← dvd]
          exact Nat.div_le_self _ _
        obtain ⟨r, r1, r2⟩ := we_end (x := zqd P q e (zpn P)) (d := x) (o := zqo P q e (zpn P)) hx (by omega) (by omega)
        refine ⟨r, ?_, ?_⟩
        · have s1 : nI (zto P e) - nI (zqi P q e (zpn P)) = nI (zqo P q e (zpn P)) := by
            rw [pk_sub (by omega)]
            congr 1
            omega
          have s2 := pk_div (a := zqi P q e (zpn P)) (d := zpte P q) (by omega) (by omega) (by omega)
          rw [dvd] at s2
          simp (disch := omega) only [zlet_eq, zg_t, zb_s, zb2_s, zl_0, zl_1, zl_2, zl_3, zl_4, zl_5, zl_6, zl_7, zl_8, zl_9, zl_10, zl_12, zl_16, zl_19, zl_20, zl_24, zl_31, zl_36, zl_39, zl_40, zl_48, zl_57, zl_63, zl_80, zl_97, zl_99, zl_100, zl_122, zl_128, zl_160, zl_199, zl_200, zl_255, zl_256, zl_320, zl_999, zl_6000, zl_6001, zl_9999, zl_999999, zq_0, zq_1, zq_2, zq_3, zq_4, zq_5, zq_7, zq_9, zq_10, zq_16, zq_17, zq_20, zq_48, zq_57, zq_97, zq_100, zq_122, zq_255, zq_999, zq_6000, zq_9999, zq_999999, nI_add, pk_mul, z_le_t, z_le_f, z_lt_t, z_lt_f, z_eq_t, z_eq_f, zcla, zi_nI, ↓reduceIte, z_ng, z_ngb, z_ngl, z_ngt, zI_y, zI_n, zI_2, zL_1, zL_2, nI_l, inN_t, inN_f, z_or0, lc_le_t, lc_le_f, lc_lt_t, lc_lt_f, lc_ge_t, lc_ge_f, lc_gt_t, lc_gt_f, lc_eq_t, lc_eq_f, z_ngle, lN_i, lN_add, lN_mul, e1, hr, hz, b1, T1, T2, s1, c5, zn_nI, s2]
          exact r1
        · simp only [zlet_eq, zg_t, zb_s, zb2_s, z10_eq, eq_self, ↓reduceIte, e2, b2, d1, li11 m w hq]
          exact (we_ m w hq he _ (zpn P) 0 4294967296 (by omega) (by omega)).trans r2
      · have d1 := zin_n (σ := σ) (y := 0) (z := 999999) hd rfl rfl (by omega) (by omega)
        refine ⟨-1, ?_, ?_⟩
        · simp only [zlet_eq, zg_t, zb_s, zb2_s, z10_eq, eq_self, ↓reduceIte, e1, hr, hz, b1]
          exact zcase hd (by omega) (by omega)
        · simp only [zlet_eq, zg_t, zb_s, zb2_s, z10_eq, eq_self, ↓reduceIte, e2, b2, d1]
    · have b1 := isEvent_n (σ := σ) hb
      have b2 := isEventM_n (σ := σ) hb
      exact ⟨-1, by simp only [zlet_eq, zg_t, zb_s, zb2_s, z10_eq, eq_self, ↓reduceIte, e1, hr, hz, b1], by simp only [zlet_eq, zg_t, zb_s, zb2_s, z10_eq, eq_self, ↓reduceIte, e2, b2]⟩
  · have e1 := hasLoop_n (σ := σ) c.2.1 ha (by omega)
    have e2 := zinm_n (σ := σ) ha (by omega)
    refine ⟨-1, ?_, ?_⟩
    · simp only [zlet_eq, zg_t, zb_s, zb2_s, z10_eq, eq_self, ↓reduceIte, hr, hz, e1]
    · rw [m.2.1]
      simp only [zlet_eq, zg_t, zb_s, zb2_s, z10_eq, eq_self, ↓reduceIte, e2]
