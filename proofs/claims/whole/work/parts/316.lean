set_option maxRecDepth 8000
/-! ===== lowest terms ===== -/
theorem half_ {b r : Nat} (h : r < b) (h0 : 0 < r) : 2 * (b % r) < b := by
  have e1 := Nat.mod_lt b h0
  have e2 := Nat.div_add_mod b r
  have e3 : 1 ≤ b / r := (Nat.le_div_iff_mul_le h0).mpr (by omega)
  have e4 : r * 1 ≤ r * (b / r) := Nat.mul_le_mul_left r e3
  omega
theorem gcd_s {a b : Nat} : Nat.gcd b (a % b) = Nat.gcd a b := by
  rw [Nat.gcd_comm a b, Nat.gcd_rec b a, Nat.gcd_comm]
theorem cd_ : ∀ k i n a b, b < 2 ^ k → k ≤ 63 → a < 9223372036854775808 → i + 2 * k ≤ 200 → 2 * k < n → L_X10_commonDivisor_9 n (lN a) (lN b) (nI i) = some (lN (Nat.gcd a b)) := by
  intro k
  induction k with
  | zero =>
    intro i n a b h hk ha hi hn
    cases n with
    | zero => omega
    | succ n =>
      obtain rfl : b = 0 := by omega
      rw [L_X10_commonDivisor_9, Nat.gcd_zero_right]
      by_cases h2 : 200 ≤ i
      · simp (disch := omega) only [zlet_eq, zg_t, zb_s, zb2_s, zl_0, zl_1, zl_2, zl_3, zl_4, zl_5, zl_6, zl_7, zl_8, zl_9, zl_10, zl_12, zl_16, zl_19, zl_20, zl_24, zl_31, zl_36, zl_39, zl_40, zl_48, zl_57, zl_63, zl_80, zl_97, zl_99, zl_100, zl_122, zl_128, zl_160, zl_199, zl_200, zl_255, zl_256, zl_320, zl_999, zl_6000, zl_6001, zl_9999, zl_999999, zq_0, zq_1, zq_2, zq_3, zq_4, zq_5, zq_7, zq_9, zq_10, zq_16, zq_17, zq_20, zq_48, zq_57, zq_97, zq_100, zq_122, zq_255, zq_999, zq_6000, zq_9999, zq_999999, nI_add, pk_mul, z_le_t, z_le_f, z_lt_t, z_lt_f, z_eq_t, z_eq_f, zcla, zi_nI, ↓reduceIte, z_ng, z_ngb, z_ngl, z_ngt, zI_y, zI_n, zI_2, zL_1, zL_2, nI_l, inN_t, inN_f, z_or0, lc_le_t, lc_le_f, lc_lt_t, lc_lt_f, lc_ge_t, lc_ge_f, lc_gt_t, lc_gt_f, lc_eq_t, lc_eq_f, z_ngle, lN_i, lN_add, lN_mul]
      · simp (disch := omega) only [zlet_eq, zg_t, zb_s, zb2_s, zl_0, zl_1, zl_2, zl_3, zl_4, zl_5, zl_6, zl_7, zl_8, zl_9, zl_10, zl_12, zl_16, zl_19, zl_20, zl_24, zl_31, zl_36, zl_39, zl_40, zl_48, zl_57, zl_63, zl_80, zl_97, zl_99, zl_100, zl_122, zl_128, zl_160, zl_199, zl_200, zl_255, zl_256, zl_320, zl_999, zl_6000, zl_6001, zl_9999, zl_999999, zq_0, zq_1, zq_2, zq_3, zq_4, zq_5, zq_7, zq_9, zq_10, zq_16, zq_17, zq_20, zq_48, zq_57, zq_97, zq_100, zq_122, zq_255, zq_999, zq_6000, zq_9999, zq_999999, nI_add, pk_mul, z_le_t, z_le_f, z_lt_t, z_lt_f, z_eq_t, z_eq_f, zcla, zi_nI, ↓reduceIte, z_ng, z_ngb, z_ngl, z_ngt, zI_y, zI_n, zI_2, zL_1, zL_2, nI_l, inN_t, inN_f, z_or0, lc_le_t, lc_le_f, lc_lt_t, lc_lt_f, lc_ge_t, lc_ge_f, lc_gt_t, lc_gt_f, lc_eq_t, lc_eq_f, z_ngle, lN_i, lN_add, lN_mul]
  | succ k ih =>
    intro i n a b h hk ha hi hn
    have hp : 2 ^ (k + 1) ≤ 2 ^ 63 := Nat.pow_le_pow_right (by omega) hk
    have hb : b < 9223372036854775808 := by omega
    cases n with
    | zero => omega
    | succ n =>
      rw [L_X10_commonDivisor_9]
      by_cases h0 : b = 0
      · subst h0
        rw [Nat.gcd_zero_right]
        simp (disch := omega) only [zlet_eq, zg_t, zb_s, zb2_s, zl_0, zl_1, zl_2, zl_3, zl_4, zl_5, zl_6, zl_7, zl_8, zl_9, zl_10, zl_12, zl_16, zl_19, zl_20, zl_24, zl_31, zl_36, zl_39, zl_40, zl_48, zl_57, zl_63, zl_80, zl_97, zl_99, zl_100, zl_122, zl_128, zl_160, zl_199, zl_200, zl_255, zl_256, zl_320, zl_999, zl_6000, zl_6001, zl_9999, zl_999999, zq_0, zq_1, zq_2, zq_3, zq_4, zq_5, zq_7, zq_9, zq_10, zq_16, zq_17, zq_20, zq_48, zq_57, zq_97, zq_100, zq_122, zq_255, zq_999, zq_6000, zq_9999, zq_999999, nI_add, pk_mul, z_le_t, z_le_f, z_lt_t, z_lt_f, z_eq_t, z_eq_f, zcla, zi_nI, ↓reduceIte, z_ng, z_ngb, z_ngl, z_ngt, zI_y, zI_n, zI_2, zL_1, zL_2, nI_l, inN_t, inN_f, z_or0, lc_le_t, lc_le_f, lc_lt_t, lc_lt_f, lc_ge_t, lc_ge_f, lc_gt_t, lc_gt_f, lc_eq_t, lc_eq_f, z_ngle, lN_i, lN_add, lN_mul]
      · have hr : a % b < b := Nat.mod_lt _ (by omega)
        have e1 := pk_lRem ha (show 0 < b by omega) hb
        simp (disch := omega) only [zlet_eq, zg_t, zb_s, zb2_s, zl_0, zl_1, zl_2, zl_3, zl_4, zl_5, zl_6, zl_7, zl_8, zl_9, zl_10, zl_12, zl_16, zl_19, zl_20, zl_24, zl_31, zl_36, zl_39, zl_40, zl_48, zl_57, zl_63, zl_80, zl_97, zl_99, zl_100, zl_122, zl_128, zl_160, zl_199, zl_200, zl_255, zl_256, zl_320, zl_999, zl_6000, zl_6001, zl_9999, zl_999999, zq_0, zq_1, zq_2, zq_3, zq_4, zq_5, zq_7, zq_9, zq_10, zq_16, zq_17, zq_20, zq_48, zq_57, zq_97, zq_100, zq_122, zq_255, zq_999, zq_6000, zq_9999, zq_999999, nI_add, pk_mul, z_le_t, z_le_f, z_lt_t, z_lt_f, z_eq_t, z_eq_f, zcla, zi_nI, ↓reduceIte, z_ng, z_ngb, z_ngl, z_ngt, zI_y, zI_n, zI_2, zL_1, zL_2, nI_l, inN_t, inN_f, z_or0, lc_le_t, lc_le_f, lc_lt_t, lc_lt_f, lc_ge_t, lc_ge_f, lc_gt_t, lc_gt_f, lc_eq_t, lc_eq_f, z_ngle, lN_i, lN_add, lN_mul, znl_lN, e1]
        rw [← gcd_s]
        generalize hrr : a % b = r at hr ⊢
        cases n with
        | zero => omega
        | succ n =>
          rw [L_X10_commonDivisor_9]
          by_cases h1 : r = 0
          · subst h1
            rw [Nat.gcd_zero_right]
            simp (disch := omega) only [zlet_eq, zg_t, zb_s, zb2_s, zl_0, zl_1, zl_2, zl_3, zl_4, zl_5, zl_6, zl_7, zl_8, zl_9, zl_10, zl_12, zl_16, zl_19, zl_20, zl_24, zl_31, zl_36, zl_39, zl_40, zl_48, zl_57, zl_63, zl_80, zl_97, zl_99, zl_100, zl_122, zl_128, zl_160, zl_199, zl_200, zl_255, zl_256, zl_320, zl_999, zl_6000, zl_6001, zl_9999, zl_999999, zq_0, zq_1, zq_2, zq_3, zq_4, zq_5, zq_7, zq_9, zq_10, zq_16, zq_17, zq_20, zq_48, zq_57, zq_97, zq_100, zq_122, zq_255, zq_999, zq_6000, zq_9999, zq_999999, nI_add, pk_mul, z_le_t, z_le_f, z_lt_t, z_lt_f, z_eq_t, z_eq_f, zcla, zi_nI, ↓reduceIte, z_ng, z_ngb, z_ngl, z_ngt, zI_y, zI_n, zI_2, zL_1, zL_2, nI_l, inN_t, inN_f, z_or0, lc_le_t, lc_le_f, lc_lt_t, lc_lt_f, lc_ge_t, lc_ge_f, lc_gt_t, lc_gt_f, lc_eq_t, lc_eq_f, z_ngle, lN_i, lN_add, lN_mul]
          · have hr2 := half_ hr (by omega)
            have e2 := pk_lRem hb (show 0 < r by omega) (by omega)
            simp (disch := omega) only [zlet_eq, zg_t, zb_s, zb2_s, zl_0, zl_1, zl_2, zl_3, zl_4, zl_5, zl_6, zl_7, zl_8, zl_9, zl_10, zl_12, zl_16, zl_19, zl_20, zl_24, zl_31, zl_36, zl_39, zl_40, zl_48, zl_57, zl_63, zl_80, zl_97, zl_99, zl_100, zl_122, zl_128, zl_160, zl_199, zl_200, zl_255, zl_256, zl_320, zl_999, zl_6000, zl_6001, zl_9999, zl_999999, zq_0, zq_1, zq_2, zq_3, zq_4, zq_5, zq_7, zq_9, zq_10, zq_16, zq_17, zq_20, zq_48, zq_57, zq_97, zq_100, zq_122, zq_255, zq_999, zq_6000, zq_9999, zq_999999, nI_add, pk_mul, z_le_t, z_le_f, z_lt_t, z_lt_f, z_eq_t, z_eq_f, zcla, zi_nI, ↓reduceIte, z_ng, z_ngb, z_ngl, z_ngt, zI_y, zI_n, zI_2, zL_1, zL_2, nI_l, inN_t, inN_f, z_or0, lc_le_t, lc_le_f, lc_lt_t, lc_lt_f, lc_ge_t, lc_ge_f, lc_gt_t, lc_gt_f, lc_eq_t, lc_eq_f, z_ngle, lN_i, lN_add, lN_mul, znl_lN, e2]
            rw [← gcd_s]
            exact ih (i + 1 + 1) n r (b % r) (by rw [Nat.pow_succ] at h; omega) (by omega) (by omega) (by omega) (by omega)
theorem cm_ (K : Int64 → Option Int64) : ∀ k n a b, b < 2 ^ k → k ≤ 63 → a < 9223372036854775808 → 2 * k < n → L_X11_common_6 K n (lN a) (lN b) = K (lN (Nat.gcd a b)) := by
  intro k
  induction k with
  | zero =>
    intro n a b h hk ha hn
    cases n with
    | zero => omega
    | succ n =>
      obtain rfl : b = 0 := by omega
      rw [L_X11_common_6, Nat.gcd_zero_right]
      simp (disch := omega) only [zlet_eq, zg_t, zb_s, zb2_s, zl_0, zl_1, zl_2, zl_3, zl_4, zl_5, zl_6, zl_7, zl_8, zl_9, zl_10, zl_12, zl_16, zl_19, zl_20, zl_24, zl_31, zl_36, zl_39, zl_40, zl_48, zl_57, zl_63, zl_80, zl_97, zl_99, zl_100, zl_122, zl_128, zl_160, zl_199, zl_200, zl_255, zl_256, zl_320, zl_999, zl_6000, zl_6001, zl_9999, zl_999999, zq_0, zq_1, zq_2, zq_3, zq_4, zq_5, zq_7, zq_9, zq_10, zq_16, zq_17, zq_20, zq_48, zq_57, zq_97, zq_100, zq_122, zq_255, zq_999, zq_6000, zq_9999, zq_999999, nI_add, pk_mul, z_le_t, z_le_f, z_lt_t, z_lt_f, z_eq_t, z_eq_f, zcla, zi_nI, ↓reduceIte, z_ng, z_ngb, z_ngl, z_ngt, zI_y, zI_n, zI_2, zL_1, zL_2, nI_l, inN_t, inN_f, z_or0, lc_le_t, lc_le_f, lc_lt_t, lc_lt_f, lc_ge_t, lc_ge_f, lc_gt_t, lc_gt_f, lc_eq_t, lc_eq_f, z_ngle, lN_i, lN_add, lN_mul]
  | succ k ih =>
    intro n a b h hk ha hn
    have hp : 2 ^ (k + 1) ≤ 2 ^ 63 := Nat.pow_le_pow_right (by omega) hk
    have hb : b < 9223372036854775808 := by omega
    cases n with
    | zero => omega
    | succ n =>
      rw [L_X11_common_6]
      by_cases h0 : b = 0
      · subst h0
        rw [Nat.gcd_zero_right]
        simp (disch := omega) only [zlet_eq, zg_t, zb_s, zb2_s, zl_0, zl_1, zl_2, zl_3, zl_4, zl_5, zl_6, zl_7, zl_8, zl_9, zl_10, zl_12, zl_16, zl_19, zl_20, zl_24, zl_31, zl_36, zl_39, zl_40, zl_48, zl_57, zl_63, zl_80, zl_97, zl_99, zl_100, zl_122, zl_128, zl_160, zl_199, zl_200, zl_255, zl_256, zl_320, zl_999, zl_6000, zl_6001, zl_9999, zl_999999, zq_0, zq_1, zq_2, zq_3, zq_4, zq_5, zq_7, zq_9, zq_10, zq_16, zq_17, zq_20, zq_48, zq_57, zq_97, zq_100, zq_122, zq_255, zq_999, zq_6000, zq_9999, zq_999999, nI_add, pk_mul, z_le_t, z_le_f, z_lt_t, z_lt_f, z_eq_t, z_eq_f, zcla, zi_nI, ↓reduceIte, z_ng, z_ngb, z_ngl, z_ngt, zI_y, zI_n, zI_2, zL_1, zL_2, nI_l, inN_t, inN_f, z_or0, lc_le_t, lc_le_f, lc_lt_t, lc_lt_f, lc_ge_t, lc_ge_f, lc_gt_t, lc_gt_f, lc_eq_t, lc_eq_f, z_ngle, lN_i, lN_add, lN_mul]
      · have hr : a % b < b := Nat.mod_lt _ (by omega)
        have e1 := pk_lRem ha (show 0 < b by omega) hb
        simp (disch := omega) only [zlet_eq, zg_t, zb_s, zb2_s, zl_0, zl_1, zl_2, zl_3, zl_4, zl_5, zl_6, zl_7, zl_8, zl_9, zl_10, zl_12, zl_16, zl_19, zl_20, zl_24, zl_31, zl_36, zl_39, zl_40, zl_48, zl_57, zl_63, zl_80, zl_97, zl_99, zl_100, zl_122, zl_128, zl_160, zl_199, zl_200, zl_255, zl_256, zl_320, zl_999, zl_6000, zl_6001, zl_9999, zl_999999, zq_0, zq_1, zq_2, zq_3, zq_4, zq_5, zq_7, zq_9, zq_10, zq_16, zq_17, zq_20, zq_48, zq_57, zq_97, zq_100, zq_122, zq_255, zq_999, zq_6000, zq_9999, zq_999999, nI_add, pk_mul, z_le_t, z_le_f, z_lt_t, z_lt_f, z_eq_t, z_eq_f, zcla, zi_nI, ↓reduceIte, z_ng, z_ngb, z_ngl, z_ngt, zI_y, zI_n, zI_2, zL_1, zL_2, nI_l, inN_t, inN_f, z_or0, lc_le_t, lc_le_f, lc_lt_t, lc_lt_f, lc_ge_t, lc_ge_f, lc_gt_t, lc_gt_f, lc_eq_t, lc_eq_f, z_ngle, lN_i, lN_add, lN_mul, znl_lN, e1]
        rw [← gcd_s]
        generalize hrr : a % b = r at hr ⊢
        cases n with
        | zero => omega
        | succ n =>
          rw [L_X11_common_6]
          by_cases h1 : r = 0
          · subst h1
            rw [Nat.gcd_zero_right]
            simp (disch := omega) only [zlet_eq, zg_t, zb_s, zb2_s, zl_0, zl_1, zl_2, zl_3, zl_4, zl_5, zl_6, zl_7, zl_8, zl_9, zl_10, zl_12, zl_16, zl_19, zl_20, zl_24, zl_31, zl_36, zl_39, zl_40, zl_48, zl_57, zl_63, zl_80, zl_97, zl_99, zl_100, zl_122, zl_128, zl_160, zl_199, zl_200, zl_255, zl_256, zl_320, zl_999, zl_6000, zl_6001, zl_9999, zl_999999, zq_0, zq_1, zq_2, zq_3, zq_4, zq_5, zq_7, zq_9, zq_10, zq_16, zq_17, zq_20, zq_48, zq_57, zq_97, zq_100, zq_122, zq_255, zq_999, zq_6000, zq_9999, zq_999999, nI_add, pk_mul, z_le_t, z_le_f, z_lt_t, z_lt_f, z_eq_t, z_eq_f, zcla, zi_nI, ↓reduceIte, z_ng, z_ngb, z_ngl, z_ngt, zI_y, zI_n, zI_2, zL_1, zL_2, nI_l, inN_t, inN_f, z_or0, lc_le_t, lc_le_f, lc_lt_t, lc_lt_f, lc_ge_t, lc_ge_f, lc_gt_t, lc_gt_f, lc_eq_t, lc_eq_f, z_ngle, lN_i, lN_add, lN_mul]
          · have hr2 := half_ hr (by omega)
            have e2 := pk_lRem hb (show 0 < r by omega) (by omega)
            simp (disch := omega) only [zlet_eq, zg_t, zb_s, zb2_s, zl_0, zl_1, zl_2, zl_3, zl_4, zl_5, zl_6, zl_7, zl_8, zl_9, zl_10, zl_12, zl_16, zl_19, zl_20, zl_24, zl_31, zl_36, zl_39, zl_40, zl_48, zl_57, zl_63, zl_80, zl_97, zl_99, zl_100, zl_122, zl_128, zl_160, zl_199, zl_200, zl_255, zl_256, zl_320, zl_999, zl_6000, zl_6001, zl_9999, zl_999999, zq_0, zq_1, zq_2, zq_3, zq_4, zq_5, zq_7, zq_9, zq_10, zq_16, zq_17, zq_20, zq_48, zq_57, zq_97, zq_100, zq_122, zq_255, zq_999, zq_6000, zq_9999, zq_999999, nI_add, pk_mul, z_le_t, z_le_f, z_lt_t, z_lt_f, z_eq_t, z_eq_f, zcla, zi_nI, ↓reduceIte, z_ng, z_ngb, z_ngl, z_ngt, zI_y, zI_n, zI_2, zL_1, zL_2, nI_l, inN_t, inN_f, z_or0, lc_le_t, lc_le_f, lc_lt_t, lc_lt_f, lc_ge_t, lc_ge_f, lc_gt_t, lc_gt_f, lc_eq_t, lc_eq_f, z_ngle, lN_i, lN_add, lN_mul, znl_lN, e2]
            rw [← gcd_s]
            exact ih n r (b % r) (by rw [Nat.pow_succ] at h; omega) (by omega) (by omega) (by omega)
/-- a number and its size -/
def zab (x : Int64) (a : Nat) : Prop := x = lN a ∨ x = -lN a
theorem lneg_toInt {a : Nat} (ha : a < 9223372036854775808) : (-lN a).toInt = -(a : Int) := by
  rw [Int64.toInt_neg, pk_lT ha, Int.bmod_eq_of_le (by omega) (by omega)]
theorem size11 {x : Int64} {a : Nat} {σ : zS} (h : zab x a) (ha : a < 9223372036854775808) : J_X11_size x σ = some (lN a) := by
  unfold J_X11_size
  simp only [lg_cmp_ge]
  rcases h with rfl | rfl
  · rw [if_pos]
    rw [Int64.le_iff_toInt_le, pk_lT ha]
    show (0 : Int) ≤ _
    omega
  · by_cases h0 : a = 0
    · subst h0
      rfl
    · rw [if_neg, Int64.neg_neg]
      rw [Int64.le_iff_toInt_le, lneg_toInt ha]
      show ¬ (0 : Int) ≤ _
      omega
theorem abs10 {x : Int64} {a : Nat} (h : zab x a) (ha : a < 9223372036854775808) : (if 0 < x then x else -x) = lN a := by
  rcases h with rfl | rfl
  · by_cases h0 : a = 0
    · subst h0
      rfl
    · rw [if_pos]
      rw [Int64.lt_iff_toInt_lt, pk_lT ha]
      show (0 : Int) < _
      omega
  · rw [if_neg, Int64.neg_neg]
    rw [Int64.lt_iff_toInt_lt, lneg_toInt ha]
    show ¬ (0 : Int) < _
    omega
theorem com10 {a b : Nat} {σ : zS} (ha : a < 9223372036854775808) (hb : b < 9223372036854775808) : J_X10_commonDivisor (lN a) (lN b) σ = some (lN (Nat.gcd a b)) :=
  cd_ 63 0 4294967296 a b hb (by omega) ha (by omega) (by omega)
theorem com11 {a b : Nat} {σ : zS} (ha : a < 9223372036854775808) (hb : b < 9223372036854775808) (h : 0 < a) : J_X11_common (lN a) (lN b) σ = some (lN (Nat.gcd a b)) := by
  unfold J_X11_common
  rw [zlet_eq, cm_ _ 63 4294967296 a b hb (by omega) ha (by omega)]
  unfold D_X11_common_31
  have : Nat.gcd a b ≤ a := Nat.gcd_le_left _ h
  rw [size11 (Or.inl rfl) (by omega)]
  rfl
theorem told11 {x : Int64} {a b : Nat} {w : Int32} {σ : zS} (h : zab x a) (ha : a < 9223372036854775808) (hb : b < 9223372036854775808) (h0 : 0 < b) : J_X11_told x (lN b) w σ = some (if w = nI 0 then x / lN (Nat.gcd a b) else lN b / lN (Nat.gcd a b)) := by
  have g0 : 0 < Nat.gcd a b := Nat.gcd_pos_of_pos_right _ h0
  have g1 : Nat.gcd a b ≤ b := Nat.gcd_le_right _ h0
  unfold J_X11_told
  rw [size11 h ha, zb_s, com11 hb ha h0, zb_s, Nat.gcd_comm b a, znl_lN g0 (by omega), znl_lN g0 (by omega)]
  by_cases hw : w = 0
  · rw [if_pos hw, if_pos (show w = nI 0 from hw)]
  · rw [if_neg hw, if_neg (show ¬ w = nI 0 from hw)]
theorem low10 {x : Int64} {a b : Nat} {w : Int32} {σ : zS} (h : zab x a) (ha : a < 9223372036854775808) (hb : b < 9223372036854775808) (h0 : 0 < b) : J_X10_inLowestTerms x (lN b) w σ = some (if w = nI 0 then lN b / lN (Nat.gcd a b) else x / lN (Nat.gcd a b)) := by
  have g0 : 0 < Nat.gcd a b := Nat.gcd_pos_of_pos_right _ h0
  have g1 : Nat.gcd a b ≤ b := Nat.gcd_le_right _ h0
  unfold J_X10_inLowestTerms
  rw [abs10 h ha, zlet_eq, com10 ha hb, zb_s, znl_lN g0 (by omega), znl_lN g0 (by omega)]
  have : (0 : Int32) ≤ lg_cmp (lN (Nat.gcd a b)) 1 := of_eq_true (lc_ge_t (b := 1) (by omega) (by omega))
  rw [if_pos this]
  by_cases hw : w = 0
  · rw [if_pos hw, if_pos (show w = nI 0 from hw)]
  · rw [if_neg hw, if_neg (show ¬ w = nI 0 from hw)]
/-- either, beside one that counts from nought to one -/
theorem ei_y {a : Int32} {σ : zS} (h : zL a 2) : J_X10_isEither a σ = some 1 := by
  obtain ⟨j, hj, rfl⟩ := h
  unfold J_X10_isEither
  by_cases h0 : j = 0
  · simp (disch := omega) only [zlet_eq, zg_t, zb_s, zb2_s, zl_0, zl_1, zl_2, zl_3, zl_4, zl_5, zl_6, zl_7, zl_8, zl_9, zl_10, zl_12, zl_16, zl_19, zl_20, zl_24, zl_31, zl_36, zl_39, zl_40, zl_48, zl_57, zl_63, zl_80, zl_97, zl_99, zl_100, zl_122, zl_128, zl_160, zl_199, zl_200, zl_255, zl_256, zl_320, zl_999, zl_6000, zl_6001, zl_9999, zl_999999, zq_0, zq_1, zq_2, zq_3, zq_4, zq_5, zq_7, zq_9, zq_10, zq_16, zq_17, zq_20, zq_48, zq_57, zq_97, zq_100, zq_122, zq_255, zq_999, zq_6000, zq_9999, zq_999999, nI_add, pk_mul, z_le_t, z_le_f, z_lt_t, z_lt_f, z_eq_t, z_eq_f, zcla, zi_nI, ↓reduceIte, z_ng, z_ngb, z_ngl, z_ngt, zI_y, zI_n, zI_2, zL_1, zL_2, nI_l, inN_t, inN_f, z_or0, lc_le_t, lc_le_f, lc_lt_t, lc_lt_f, lc_ge_t, lc_ge_f, lc_gt_t, lc_gt_f, lc_eq_t, lc_eq_f, z_ngle, lN_i, lN_add, lN_mul]
  · simp (disch := omega) only [zlet_eq, zg_t, zb_s, zb2_s, zl_0, zl_1, zl_2, zl_3, zl_4, zl_5, zl_6, zl_7, zl_8, zl_9, zl_10, zl_12, zl_16, zl_19, zl_20, zl_24, zl_31, zl_36, zl_39, zl_40, zl_48, zl_57, zl_63, zl_80, zl_97, zl_99, zl_100, zl_122, zl_128, zl_160, zl_199, zl_200, zl_255, zl_256, zl_320, zl_999, zl_6000, zl_6001, zl_9999, zl_999999, zq_0, zq_1, zq_2, zq_3, zq_4, zq_5, zq_7, zq_9, zq_10, zq_16, zq_17, zq_20, zq_48, zq_57, zq_97, zq_100, zq_122, zq_255, zq_999, zq_6000, zq_9999, zq_999999, nI_add, pk_mul, z_le_t, z_le_f, z_lt_t, z_lt_f, z_eq_t, z_eq_f, zcla, zi_nI, ↓reduceIte, z_ng, z_ngb, z_ngl, z_ngt, zI_y, zI_n, zI_2, zL_1, zL_2, nI_l, inN_t, inN_f, z_or0, lc_le_t, lc_le_f, lc_lt_t, lc_lt_f, lc_ge_t, lc_ge_f, lc_gt_t, lc_gt_f, lc_eq_t, lc_eq_f, z_ngle, lN_i, lN_add, lN_mul]
theorem ei_n {a : Int32} {σ : zS} (h : ¬ zL a 2) : J_X10_isEither a σ = some 0 := by
  unfold J_X10_isEither
  rw [if_neg, if_neg]
  · rintro rfl
    exact h ⟨1, by omega, rfl⟩
  · rintro rfl
    exact h ⟨0, by omega, rfl⟩
theorem in01_y {a : Int32} {σ : zS} (h : zL a 2) : J_X11_in a.toInt64 0 1 σ = some 1 := in4_y 2 h (by decide)
theorem in01_n {a : Int32} {σ : zS} (h : ¬ zL a 2) : J_X11_in a.toInt64 0 1 σ = some 0 := in4_n 2 h (by decide) (by decide)
