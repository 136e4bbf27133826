set_option maxRecDepth 8000
/-! ===== bits ===== -/
theorem one_bit : ∀ l : Fin 16, ∀ j : Fin 32, (nI 1 <<< (nI l.val &&& nI 31) : Int32).toBitVec.getLsbD j.val = decide (j.val = l.val) := by decide +kernel
theorem ones_bit : ∀ j : Fin 32, (-nI 1 : Int32).toBitVec.getLsbD j.val = true := by decide +kernel
theorem zero_bit : ∀ j : Fin 32, (nI 0 : Int32).toBitVec.getLsbD j.val = false := by decide +kernel
theorem i32_ext {x y : Int32} (h : ∀ j, j < 32 → x.toBitVec.getLsbD j = y.toBitVec.getLsbD j) : x = y :=
  Int32.toBitVec_inj.mp (BitVec.eq_of_getLsbD_eq h)
theorem or_bit {x y : Int32} (j : Nat) : (x ||| y).toBitVec.getLsbD j = (x.toBitVec.getLsbD j || y.toBitVec.getLsbD j) := by
  rw [Int32.toBitVec_or, BitVec.getLsbD_or]
theorem and_bit {x y : Int32} (j : Nat) : (x &&& y).toBitVec.getLsbD j = (x.toBitVec.getLsbD j && y.toBitVec.getLsbD j) := by
  rw [Int32.toBitVec_and, BitVec.getLsbD_and]
theorem xor_bit {x y : Int32} (j : Nat) : (x ^^^ y).toBitVec.getLsbD j = (x.toBitVec.getLsbD j ^^ y.toBitVec.getLsbD j) := by
  rw [Int32.toBitVec_xor, BitVec.getLsbD_xor]
theorem bO_bit {q : Nat → Bool} : ∀ n, n ≤ 16 → ∀ j, j < 32 → (bO q n).toBitVec.getLsbD j = (decide (j < n) && q j) := by
  intro n
  induction n with
  | zero =>
    intro _ j hj
    rw [bO, zero_bit ⟨j, hj⟩]
    simp
  | succ n ih =>
    intro hn j hj
    rw [bO]
    by_cases hq : q n = true
    · rw [if_pos hq, or_bit, ih (by omega) j hj, one_bit ⟨n, by omega⟩ ⟨j, hj⟩]
      by_cases hjn : j = n
      · subst hjn
        simp [hq]
      · have : (j < n + 1) = (j < n) := propext ⟨fun h => by omega, fun h => by omega⟩
        simp [hjn, this]
    · rw [if_neg hq, ih (by omega) j hj]
      by_cases hjn : j = n
      · subst hjn
        simp [hq]
      · have : (j < n + 1) = (j < n) := propext ⟨fun h => by omega, fun h => by omega⟩
        simp [this]
theorem bO_ext {q r : Nat → Bool} {n m : Nat} (hn : n ≤ 16) (hm : m ≤ 16) (h : ∀ j, j < 16 → (decide (j < n) && q j) = (decide (j < m) && r j)) : bO q n = bO r m := by
  apply i32_ext
  intro j hj
  rw [bO_bit n hn j hj, bO_bit m hm j hj]
  by_cases hj2 : j < 16
  · exact h j hj2
  · have e1 : ¬ j < n := by omega
    have e2 : ¬ j < m := by omega
    simp [e1, e2]
theorem bO_not {q r : Nat → Bool} {n m : Nat} (hn : n ≤ 16) (hm : m ≤ 16) : bO q n &&& (bO r m ^^^ -nI 1) = bO (fun j => q j && !(decide (j < m) && r j)) n := by
  apply i32_ext
  intro j hj
  rw [and_bit, xor_bit, bO_bit n hn j hj, bO_bit m hm j hj, bO_bit n hn j hj, ones_bit ⟨j, hj⟩]
  simp only [Bool.xor_true, Bool.and_assoc]
theorem bO_or {q : Nat → Bool} {l : Nat} (hl : l < 16) : bO q 16 ||| (nI 1 <<< (nI l &&& nI 31)) = bO (fun j => q j || decide (j = l)) 16 := by
  apply i32_ext
  intro j hj
  rw [or_bit, bO_bit 16 (by omega) j hj, bO_bit 16 (by omega) j hj, one_bit ⟨l, hl⟩ ⟨j, hj⟩]
  by_cases h : j = l
  · subst h
    simp [hl]
  · simp [h]
/-! ===== which lines ===== -/
theorem lm_ {p : Nat} {P : zM} {σ : zS} {e : Nat} (c : cPr σ.1 p P) (w : wPr P) (he : e < 8) : ∀ k l n, l + k = zpn P → k < n → L_X3_linesThatMake_4 p (nI e) σ n (bO (fun l => decide (0 < zpev P l e)) l) (nI l) = some (bO (fun l => decide (0 < zpev P l e)) (zpn P)) := by
  intro k
  have w1 := w.1
  have w4 := w.2.2.2.1
  obtain ⟨c1, c2, c3, c4, c5, c6, c7⟩ := c
  induction k with
  | zero =>
    intro l n h hn
    cases n with
    | zero => omega
    | succ n =>
      obtain rfl : l = zpn P := by omega
      rw [L_X3_linesThatMake_4]
      simp (disch := omega) only [zlet_eq, zg_t, zb_s, zb2_s, zl_0, zl_1, zl_2, zl_3, zl_4, zl_5, zl_6, zl_7, zl_8, zl_9, zl_10, zl_12, zl_16, zl_19, zl_20, zl_24, zl_31, zl_36, zl_39, zl_40, zl_48, zl_57, zl_63, zl_80, zl_97, zl_99, zl_100, zl_122, zl_128, zl_160, zl_199, zl_200, zl_255, zl_256, zl_320, zl_999, zl_6000, zl_6001, zl_9999, zl_999999, zq_0, zq_1, zq_2, zq_3, zq_4, zq_5, zq_7, zq_9, zq_10, zq_16, zq_17, zq_20, zq_48, zq_57, zq_97, zq_100, zq_122, zq_255, zq_999, zq_6000, zq_9999, zq_999999, nI_add, pk_mul, z_le_t, z_le_f, z_lt_t, z_lt_f, z_eq_t, z_eq_f, zcla, zi_nI, ↓reduceIte, z_ng, z_ngb, z_ngl, z_ngt, zI_y, zI_n, zI_2, zL_1, zL_2, nI_l, inN_t, inN_f, z_or0, lc_le_t, lc_le_f, lc_lt_t, lc_lt_f, lc_ge_t, lc_ge_f, lc_gt_t, lc_gt_f, lc_eq_t, lc_eq_f, z_ngle, lN_i, lN_add, lN_mul, c1]
  | succ k ih =>
    intro l n h hn
    cases n with
    | zero => omega
    | succ n =>
      have q := ih (l + 1) n (by omega) (by omega)
      have v := (w4 l (by omega)).2.2.2.2.1 e he
      rw [bO] at q
      rw [L_X3_linesThatMake_4]
      by_cases hv : 0 < zpev P l e
      · rw [if_pos (decide_eq_true hv)] at q
        simp (disch := omega) only [zlet_eq, zg_t, zb_s, zb2_s, zl_0, zl_1, zl_2, zl_3, zl_4, zl_5, zl_6, zl_7, zl_8, zl_9, zl_10, zl_12, zl_16, zl_19, zl_20, zl_24, zl_31, zl_36, zl_39, zl_40, zl_48, zl_57, zl_63, zl_80, zl_97, zl_99, zl_100, zl_122, zl_128, zl_160, zl_199, zl_200, zl_255, zl_256, zl_320, zl_999, zl_6000, zl_6001, zl_9999, zl_999999, zq_0, zq_1, zq_2, zq_3, zq_4, zq_5, zq_7, zq_9, zq_10, zq_16, zq_17, zq_20, zq_48, zq_57, zq_97, zq_100, zq_122, zq_255, zq_999, zq_6000, zq_9999, zq_999999, nI_add, pk_mul, z_le_t, z_le_f, z_lt_t, z_lt_f, z_eq_t, z_eq_f, zcla, zi_nI, ↓reduceIte, z_ng, z_ngb, z_ngl, z_ngt, zI_y, zI_n, zI_2, zL_1, zL_2, nI_l, inN_t, inN_f, z_or0, lc_le_t, lc_le_f, lc_lt_t, lc_lt_f, lc_ge_t, lc_ge_f, lc_gt_t, lc_gt_f, lc_eq_t, lc_eq_f, z_ngle, lN_i, lN_add, lN_mul, c1, c4]
        exact q
      · rw [if_neg (by simpa using hv)] at q
        simp (disch := omega) only [zlet_eq, zg_t, zb_s, zb2_s, zl_0, zl_1, zl_2, zl_3, zl_4, zl_5, zl_6, zl_7, zl_8, zl_9, zl_10, zl_12, zl_16, zl_19, zl_20, zl_24, zl_31, zl_36, zl_39, zl_40, zl_48, zl_57, zl_63, zl_80, zl_97, zl_99, zl_100, zl_122, zl_128, zl_160, zl_199, zl_200, zl_255, zl_256, zl_320, zl_999, zl_6000, zl_6001, zl_9999, zl_999999, zq_0, zq_1, zq_2, zq_3, zq_4, zq_5, zq_7, zq_9, zq_10, zq_16, zq_17, zq_20, zq_48, zq_57, zq_97, zq_100, zq_122, zq_255, zq_999, zq_6000, zq_9999, zq_999999, nI_add, pk_mul, z_le_t, z_le_f, z_lt_t, z_lt_f, z_eq_t, z_eq_f, zcla, zi_nI, ↓reduceIte, z_ng, z_ngb, z_ngl, z_ngt, zI_y, zI_n, zI_2, zL_1, zL_2, nI_l, inN_t, inN_f, z_or0, lc_le_t, lc_le_f, lc_lt_t, lc_lt_f, lc_ge_t, lc_ge_f, lc_gt_t, lc_gt_f, lc_eq_t, lc_eq_f, z_ngle, lN_i, lN_add, lN_mul, c1, c4]
        exact q
theorem lm3 {p : Nat} {P : zM} {σ : zS} {e : Nat} (c : cPr σ.1 p P) (w : wPr P) (he : e < 8) : J_X3_linesThatMake p (nI e) σ = some (bO (fun l => decide (0 < zpev P l e)) (zpn P)) :=
  lm_ c w he (zpn P) 0 4294967296 (by omega) (by have := w.1; omega)
theorem ls_ {σ : zS} {v : Nat → Nat} (hv : ∀ l, l < 16 → σ.1 90 l = nI (v l)) (hb : ∀ l, v l < 2147483648) : ∀ k l n, l + k = 16 → k < n → L_X6_linesShown_4 σ n (bO (fun l => decide (0 < v l)) l) (nI l) = some (bO (fun l => decide (0 < v l)) 16) := by
  intro k
  induction k with
  | zero =>
    intro l n h hn
    cases n with
    | zero => omega
    | succ n =>
      obtain rfl : l = 16 := by omega
      rw [L_X6_linesShown_4]
      simp (disch := omega) only [zlet_eq, zg_t, zb_s, zb2_s, zl_0, zl_1, zl_2, zl_3, zl_4, zl_5, zl_6, zl_7, zl_8, zl_9, zl_10, zl_12, zl_16, zl_19, zl_20, zl_24, zl_31, zl_36, zl_39, zl_40, zl_48, zl_57, zl_63, zl_80, zl_97, zl_99, zl_100, zl_122, zl_128, zl_160, zl_199, zl_200, zl_255, zl_256, zl_320, zl_999, zl_6000, zl_6001, zl_9999, zl_999999, zq_0, zq_1, zq_2, zq_3, zq_4, zq_5, zq_7, zq_9, zq_10, zq_16, zq_17, zq_20, zq_48, zq_57, zq_97, zq_100, zq_122, zq_255, zq_999, zq_6000, zq_9999, zq_999999, nI_add, pk_mul, z_le_t, z_le_f, z_lt_t, z_lt_f, z_eq_t, z_eq_f, zcla, zi_nI, ↓reduceIte, z_ng, z_ngb, z_ngl, z_ngt, zI_y, zI_n, zI_2, zL_1, zL_2, nI_l, inN_t, inN_f, z_or0, lc_le_t, lc_le_f, lc_lt_t, lc_lt_f, lc_ge_t, lc_ge_f, lc_gt_t, lc_gt_f, lc_eq_t, lc_eq_f, z_ngle, lN_i, lN_add, lN_mul]
  | succ k ih =>
    intro l n h hn
    cases n with
    | zero => omega
    | succ n =>
      have q := ih (l + 1) n (by omega) (by omega)
      have b := hb l
      rw [bO] at q
      rw [L_X6_linesShown_4]
      by_cases hv0 : 0 < v l
      · rw [if_pos (decide_eq_true hv0)] at q
        simp (disch := omega) only [zlet_eq, zg_t, zb_s, zb2_s, zl_0, zl_1, zl_2, zl_3, zl_4, zl_5, zl_6, zl_7, zl_8, zl_9, zl_10, zl_12, zl_16, zl_19, zl_20, zl_24, zl_31, zl_36, zl_39, zl_40, zl_48, zl_57, zl_63, zl_80, zl_97, zl_99, zl_100, zl_122, zl_128, zl_160, zl_199, zl_200, zl_255, zl_256, zl_320, zl_999, zl_6000, zl_6001, zl_9999, zl_999999, zq_0, zq_1, zq_2, zq_3, zq_4, zq_5, zq_7, zq_9, zq_10, zq_16, zq_17, zq_20, zq_48, zq_57, zq_97, zq_100, zq_122, zq_255, zq_999, zq_6000, zq_9999, zq_999999, nI_add, pk_mul, z_le_t, z_le_f, z_lt_t, z_lt_f, z_eq_t, z_eq_f, zcla, zi_nI, ↓reduceIte, z_ng, z_ngb, z_ngl, z_ngt, zI_y, zI_n, zI_2, zL_1, zL_2, nI_l, inN_t, inN_f, z_or0, lc_le_t, lc_le_f, lc_lt_t, lc_lt_f, lc_ge_t, lc_ge_f, lc_gt_t, lc_gt_f, lc_eq_t, lc_eq_f, z_ngle, lN_i, lN_add, lN_mul, hv]
        exact q
      · rw [if_neg (by simpa using hv0)] at q
        simp (disch := omega) only [zlet_eq, zg_t, zb_s, zb2_s, zl_0, zl_1, zl_2, zl_3, zl_4, zl_5, zl_6, zl_7, zl_8, zl_9, zl_10, zl_12, zl_16, zl_19, zl_20, zl_24, zl_31, zl_36, zl_39, zl_40, zl_48, zl_57, zl_63, zl_80, zl_97, zl_99, zl_100, zl_122, zl_128, zl_160, zl_199, zl_200, zl_255, zl_256, zl_320, zl_999, zl_6000, zl_6001, zl_9999, zl_999999, zq_0, zq_1, zq_2, zq_3, zq_4, zq_5, zq_7, zq_9, zq_10, zq_16, zq_17, zq_20, zq_48, zq_57, zq_97, zq_100, zq_122, zq_255, zq_999, zq_6000, zq_9999, zq_999999, nI_add, pk_mul, z_le_t, z_le_f, z_lt_t, z_lt_f, z_eq_t, z_eq_f, zcla, zi_nI, ↓reduceIte, z_ng, z_ngb, z_ngl, z_ngt, zI_y, zI_n, zI_2, zL_1, zL_2, nI_l, inN_t, inN_f, z_or0, lc_le_t, lc_le_f, lc_lt_t, lc_lt_f, lc_ge_t, lc_ge_f, lc_gt_t, lc_gt_f, lc_eq_t, lc_eq_f, z_ngle, lN_i, lN_add, lN_mul, hv]
        exact q
theorem ls6 {σ : zS} {v : Nat → Nat} (hv : ∀ l, l < 16 → σ.1 90 l = nI (v l)) (hb : ∀ l, v l < 2147483648) : J_X6_linesShown σ = some (bO (fun l => decide (0 < v l)) 16) :=
  ls_ hv hb 16 0 4294967296 (by omega) (by omega)
theorem lsm_ {σ : zS} {v : Nat → Nat} (hv : ∀ l, l < 16 → σ.1 90 l = nI (v l)) (hb : ∀ l, v l < 1000000) : ∀ k l n, l + k = 16 → k < n → L_X6_lineShownMost_7 σ n (bF v l).1 (nI (bF v l).2) (nI l) = some (bF v 16).1 := by
  intro k
  induction k with
  | zero =>
    intro l n h hn
    cases n with
    | zero => omega
    | succ n =>
      obtain rfl : l = 16 := by omega
      rw [L_X6_lineShownMost_7]
      simp (disch := omega) only [zlet_eq, zg_t, zb_s, zb2_s, zl_0, zl_1, zl_2, zl_3, zl_4, zl_5, zl_6, zl_7, zl_8, zl_9, zl_10, zl_12, zl_16, zl_19, zl_20, zl_24, zl_31, zl_36, zl_39, zl_40, zl_48, zl_57, zl_63, zl_80, zl_97, zl_99, zl_100, zl_122, zl_128, zl_160, zl_199, zl_200, zl_255, zl_256, zl_320, zl_999, zl_6000, zl_6001, zl_9999, zl_999999, zq_0, zq_1, zq_2, zq_3, zq_4, zq_5, zq_7, zq_9, zq_10, zq_16, zq_17, zq_20, zq_48, zq_57, zq_97, zq_100, zq_122, zq_255, zq_999, zq_6000, zq_9999, zq_999999, nI_add, pk_mul, z_le_t, z_le_f, z_lt_t, z_lt_f, z_eq_t, z_eq_f, zcla, zi_nI, ↓reduceIte, z_ng, z_ngb, z_ngl, z_ngt, zI_y, zI_n, zI_2, zL_1, zL_2, nI_l, inN_t, inN_f, z_or0, lc_le_t, lc_le_f, lc_lt_t, lc_lt_f, lc_ge_t, lc_ge_f, lc_gt_t, lc_gt_f, lc_eq_t, lc_eq_f, z_ngle, lN_i, lN_add, lN_mul]
  | succ k ih =>
    intro l n h hn
    cases n with
    | zero => omega
    | succ n =>
      have q := ih (l + 1) n (by omega) (by omega)
      have b := hb l
      have b2 := bF_b (v := v) (B := 999999) (fun l => by have := hb l; omega) l
      rw [bF] at q
      rw [L_X6_lineShownMost_7]
      by_cases hv0 : v l ≤ (bF v l).2
      · rw [if_pos hv0] at q
        simp (disch := omega) only [zlet_eq, zg_t, zb_s, zb2_s, zl_0, zl_1, zl_2, zl_3, zl_4, zl_5, zl_6, zl_7, zl_8, zl_9, zl_10, zl_12, zl_16, zl_19, zl_20, zl_24, zl_31, zl_36, zl_39, zl_40, zl_48, zl_57, zl_63, zl_80, zl_97, zl_99, zl_100, zl_122, zl_128, zl_160, zl_199, zl_200, zl_255, zl_256, zl_320, zl_999, zl_6000, zl_6001, zl_9999, zl_999999, zq_0, zq_1, zq_2, zq_3, zq_4, zq_5, zq_7, zq_9, zq_10, zq_16, zq_17, zq_20, zq_48, zq_57, zq_97, zq_100, zq_122, zq_255, zq_999, zq_6000, zq_9999, zq_999999, nI_add, pk_mul, z_le_t, z_le_f, z_lt_t, z_lt_f, z_eq_t, z_eq_f, zcla, zi_nI, ↓reduceIte, z_ng, z_ngb, z_ngl, z_ngt, zI_y, zI_n, zI_2, zL_1, zL_2, nI_l, inN_t, inN_f, z_or0, lc_le_t, lc_le_f, lc_lt_t, lc_lt_f, lc_ge_t, lc_ge_f, lc_gt_t, lc_gt_f, lc_eq_t, lc_eq_f, z_ngle, lN_i, lN_add, lN_mul, hv]
        exact q
      · rw [if_neg hv0] at q
        simp (disch := omega) only [zlet_eq, zg_t, zb_s, zb2_s, zl_0, zl_1, zl_2, zl_3, zl_4, zl_5, zl_6, zl_7, zl_8, zl_9, zl_10, zl_12, zl_16, zl_19, zl_20, zl_24, zl_31, zl_36, zl_39, zl_40, zl_48, zl_57, zl_63, zl_80, zl_97, zl_99, zl_100, zl_122, zl_128, zl_160, zl_199, zl_200, zl_255, zl_256, zl_320, zl_999, zl_6000, zl_6001, zl_9999, zl_999999, zq_0, zq_1, zq_2, zq_3, zq_4, zq_5, zq_7, zq_9, zq_10, zq_16, zq_17, zq_20, zq_48, zq_57, zq_97, zq_100, zq_122, zq_255, zq_999, zq_6000, zq_9999, zq_999999, nI_add, pk_mul, z_le_t, z_le_f, z_lt_t, z_lt_f, z_eq_t, z_eq_f, zcla, zi_nI, ↓reduceIte, z_ng, z_ngb, z_ngl, z_ngt, zI_y, zI_n, zI_2, zL_1, zL_2, nI_l, inN_t, inN_f, z_or0, lc_le_t, lc_le_f, lc_lt_t, lc_lt_f, lc_ge_t, lc_ge_f, lc_gt_t, lc_gt_f, lc_eq_t, lc_eq_f, z_ngle, lN_i, lN_add, lN_mul, hv]
        exact q
theorem lsm6 {σ : zS} {v : Nat → Nat} (hv : ∀ l, l < 16 → σ.1 90 l = nI (v l)) (hb : ∀ l, v l < 1000000) : J_X6_lineShownMost σ = some (bF v 16).1 :=
  lsm_ hv hb 16 0 4294967296 (by omega) (by omega)
/-- where the most lies -/
theorem bF_w (v : Nat → Nat) : ∀ n, ((bF v n).1 = -nI 4 ∧ (bF v n).2 = 0) ∨ ∃ l, l < n ∧ (bF v n).1 = nI l ∧ (bF v n).2 = v l ∧ 0 < v l := by
  intro n
  induction n with
  | zero => exact Or.inl ⟨rfl, rfl⟩
  | succ n ih =>
    rw [bF]
    split
    · rcases ih with h | ⟨l, h1, h2⟩
      · exact Or.inl h
      · exact Or.inr ⟨l, by omega, h2⟩
    · exact Or.inr ⟨n, by omega, rfl, rfl, by show 0 < v n; omega⟩
theorem bF_k {v : Nat → Nat} {n : Nat} (h : ∀ l, n ≤ l → v l = 0) : ∀ k, bF v (n + k) = bF v n := by
  intro k
  induction k with
  | zero => rfl
  | succ k ih =>
    show bF v (n + k + 1) = _
    rw [bF, if_pos (by rw [h _ (by omega)]; omega), ih]
theorem sm11 {P : zM} {σ : zS} {e : Nat} {v : Nat → Nat} (m : mPr σ.1 P) (w : wPr P) (he : e < 8) (hv : ∀ l, l < 16 → σ.1 130 l = nI (v l)) (hb : ∀ l, v l < 1000000) (K : Int32 → Int32 → Int32 → Int32 → Option (Int32 × zS)) : ∀ k l n, l + k = zpn P → k < n → L_X11_samples_51 (nI e) σ K n (bO (fun l => decide (0 < v l)) l) (bO (fun l => decide (v l = 0) && decide (0 < zpev P l e)) l) (bO (fun l => decide (0 < v l) && decide (zpev P l e = 0)) l) (bF v l).1 (nI l) = K (bO (fun l => decide (0 < v l)) (zpn P)) (bO (fun l => decide (v l = 0) && decide (0 < zpev P l e)) (zpn P)) (bO (fun l => decide (0 < v l) && decide (zpev P l e = 0)) (zpn P)) (bF v (zpn P)).1 := by
  intro k
  have w1 := w.1
  have w4 := w.2.2.2.1
  have m' := m
  obtain ⟨c1, c2, c3, c4, c5, c6, c7⟩ := m
  induction k with
  | zero =>
    intro l n h hn
    cases n with
    | zero => omega
    | succ n =>
      obtain rfl : l = zpn P := by omega
      rw [L_X11_samples_51]
      simp (disch := omega) only [zlet_eq, zg_t, zb_s, zb2_s, zl_0, zl_1, zl_2, zl_3, zl_4, zl_5, zl_6, zl_7, zl_8, zl_9, zl_10, zl_12, zl_16, zl_19, zl_20, zl_24, zl_31, zl_36, zl_39, zl_40, zl_48, zl_57, zl_63, zl_80, zl_97, zl_99, zl_100, zl_122, zl_128, zl_160, zl_199, zl_200, zl_255, zl_256, zl_320, zl_999, zl_6000, zl_6001, zl_9999, zl_999999, zq_0, zq_1, zq_2, zq_3, zq_4, zq_5, zq_7, zq_9, zq_10, zq_16, zq_17, zq_20, zq_48, zq_57, zq_97, zq_100, zq_122, zq_255, zq_999, zq_6000, zq_9999, zq_999999, nI_add, pk_mul, z_le_t, z_le_f, z_lt_t, z_lt_f, z_eq_t, z_eq_f, zcla, zi_nI, ↓reduceIte, z_ng, z_ngb, z_ngl, z_ngt, zI_y, zI_n, zI_2, zL_1, zL_2, nI_l, inN_t, inN_f, z_or0, lc_le_t, lc_le_f, lc_lt_t, lc_lt_f, lc_ge_t, lc_ge_f, lc_gt_t, lc_gt_f, lc_eq_t, lc_eq_f, z_ngle, lN_i, lN_add, lN_mul, c1]
  | succ k ih =>
    intro l n h hn
    cases n with
    | zero => omega
    | succ n =>
      have q := ih (l + 1) n (by omega) (by omega)
      have b := hb l
      have g := (w4 l (by omega)).2.2.2.2.1 e he
      have e0 := made11 (σ := σ) m' w1 (show l < zpn P by omega) he
      rw [bO, bO, bO, bF] at q
      rw [L_X11_samples_51]
      by_cases hv0 : v l = 0
      · rw [if_neg (show ¬ decide (0 < v l) = true by simp [hv0]), if_neg (show ¬ (decide (0 < v l) && decide (zpev P l e = 0)) = true by simp [hv0]), if_pos (show v l ≤ (bF v l).2 by omega)] at q
        by_cases hm : 0 < zpev P l e
        · rw [if_pos (show (decide (v l = 0) && decide (0 < zpev P l e)) = true by simp [hv0, hm])] at q
          simp (disch := omega) only [zlet_eq, zg_t, zb_s, zb2_s, zl_0, zl_1, zl_2, zl_3, zl_4, zl_5, zl_6, zl_7, zl_8, zl_9, zl_10, zl_12, zl_16, zl_19, zl_20, zl_24, zl_31, zl_36, zl_39, zl_40, zl_48, zl_57, zl_63, zl_80, zl_97, zl_99, zl_100, zl_122, zl_128, zl_160, zl_199, zl_200, zl_255, zl_256, zl_320, zl_999, zl_6000, zl_6001, zl_9999, zl_999999, zq_0, zq_1, zq_2, zq_3, zq_4, zq_5, zq_7, zq_9, zq_10, zq_16, zq_17, zq_20, zq_48, zq_57, zq_97, zq_100, zq_122, zq_255, zq_999, zq_6000, zq_9999, zq_999999, nI_add, pk_mul, z_le_t, z_le_f, z_lt_t, z_lt_f, z_eq_t, z_eq_f, zcla, zi_nI, ↓reduceIte, z_ng, z_ngb, z_ngl, z_ngt, zI_y, zI_n, zI_2, zL_1, zL_2, nI_l, inN_t, inN_f, z_or0, lc_le_t, lc_le_f, lc_lt_t, lc_lt_f, lc_ge_t, lc_ge_f, lc_gt_t, lc_gt_f, lc_eq_t, lc_eq_f, z_ngle, lN_i, lN_add, lN_mul, c1, hv, D_X11_samples_113, D_X11_samples_146, e0]
          exact q
        · rw [if_neg (show ¬ (decide (v l = 0) && decide (0 < zpev P l e)) = true by simp [hm])] at q
          simp (disch := omega) only [zlet_eq, zg_t, zb_s, zb2_s, zl_0, zl_1, zl_2, zl_3, zl_4, zl_5, zl_6, zl_7, zl_8, zl_9, zl_10, zl_12, zl_16, zl_19, zl_20, zl_24, zl_31, zl_36, zl_39, zl_40, zl_48, zl_57, zl_63, zl_80, zl_97, zl_99, zl_100, zl_122, zl_128, zl_160, zl_199, zl_200, zl_255, zl_256, zl_320, zl_999, zl_6000, zl_6001, zl_9999, zl_999999, zq_0, zq_1, zq_2, zq_3, zq_4, zq_5, zq_7, zq_9, zq_10, zq_16, zq_17, zq_20, zq_48, zq_57, zq_97, zq_100, zq_122, zq_255, zq_999, zq_6000, zq_9999, zq_999999, nI_add, pk_mul, z_le_t, z_le_f, z_lt_t, z_lt_f, z_eq_t, z_eq_f, zcla, zi_nI, ↓reduceIte, z_ng, z_ngb, z_ngl, z_ngt, zI_y, zI_n, zI_2, zL_1, zL_2, nI_l, inN_t, inN_f, z_or0, lc_le_t, lc_le_f, lc_lt_t, lc_lt_f, lc_ge_t, lc_ge_f, lc_gt_t, lc_gt_f, lc_eq_t, lc_eq_f, z_ngle, lN_i, lN_add, lN_mul, c1, hv, D_X11_samples_113, D_X11_samples_146, e0]
          exact q
      · rw [if_pos (show decide (0 < v l) = true by simp; omega), if_neg (show ¬ (decide (v l = 0) && decide (0 < zpev P l e)) = true by simp [hv0])] at q
        have fin : ∀ x8, L_X11_samples_51 (nI e) σ K n (bO (fun l => decide (0 < v l)) l ||| nI 1 <<< (nI l &&& nI 31)) (bO (fun l => decide (v l = 0) && decide (0 < zpev P l e)) l) (bO (fun l => decide (0 < v l) && decide (zpev P l e = 0)) l ||| x8) (if v l ≤ (bF v l).2 then bF v l else (nI l, v l)).1 (nI (l + 1)) = K (bO (fun l => decide (0 < v l)) (zpn P)) (bO (fun l => decide (v l = 0) && decide (0 < zpev P l e)) (zpn P)) (bO (fun l => decide (0 < v l) && decide (zpev P l e = 0)) (zpn P)) (bF v (zpn P)).1 → D_X11_samples_146 σ (L_X11_samples_51 (nI e) σ K n) (bO (fun l => decide (0 < v l) && decide (zpev P l e = 0)) l) (bF v l).1 (nI l) (bO (fun l => decide (0 < v l)) l ||| nI 1 <<< (nI l &&& nI 31)) (bO (fun l => decide (v l = 0) && decide (0 < zpev P l e)) l) x8 = K (bO (fun l => decide (0 < v l)) (zpn P)) (bO (fun l => decide (v l = 0) && decide (0 < zpev P l e)) (zpn P)) (bO (fun l => decide (0 < v l) && decide (zpev P l e = 0)) (zpn P)) (bF v (zpn P)).1 := by
          intro x8 hx
          unfold D_X11_samples_146
          rcases bF_w v l with ⟨z1, z2⟩ | ⟨l', z1, z2, z3, z4⟩
          · rw [z2, if_neg (by omega)] at hx
            simp (disch := omega) only [zlet_eq, zg_t, zb_s, zb2_s, zl_0, zl_1, zl_2, zl_3, zl_4, zl_5, zl_6, zl_7, zl_8, zl_9, zl_10, zl_12, zl_16, zl_19, zl_20, zl_24, zl_31, zl_36, zl_39, zl_40, zl_48, zl_57, zl_63, zl_80, zl_97, zl_99, zl_100, zl_122, zl_128, zl_160, zl_199, zl_200, zl_255, zl_256, zl_320, zl_999, zl_6000, zl_6001, zl_9999, zl_999999, zq_0, zq_1, zq_2, zq_3, zq_4, zq_5, zq_7, zq_9, zq_10, zq_16, zq_17, zq_20, zq_48, zq_57, zq_97, zq_100, zq_122, zq_255, zq_999, zq_6000, zq_9999, zq_999999, nI_add, pk_mul, z_le_t, z_le_f, z_lt_t, z_lt_f, z_eq_t, z_eq_f, zcla, zi_nI, ↓reduceIte, z_ng, z_ngb, z_ngl, z_ngt, zI_y, zI_n, zI_2, zL_1, zL_2, nI_l, inN_t, inN_f, z_or0, lc_le_t, lc_le_f, lc_lt_t, lc_lt_f, lc_ge_t, lc_ge_f, lc_gt_t, lc_gt_f, lc_eq_t, lc_eq_f, z_ngle, lN_i, lN_add, lN_mul, hv, z1, D_X11_samples_183]
            exact hx
          · have b' := hb l'
            have hv' := hv l' (by omega)
            rw [z3] at hx
            by_cases hc : v l ≤ v l'
            · rw [if_pos hc, z2] at hx
              simp (disch := omega) only [zlet_eq, zg_t, zb_s, zb2_s, zl_0, zl_1, zl_2, zl_3, zl_4, zl_5, zl_6, zl_7, zl_8, zl_9, zl_10, zl_12, zl_16, zl_19, zl_20, zl_24, zl_31, zl_36, zl_39, zl_40, zl_48, zl_57, zl_63, zl_80, zl_97, zl_99, zl_100, zl_122, zl_128, zl_160, zl_199, zl_200, zl_255, zl_256, zl_320, zl_999, zl_6000, zl_6001, zl_9999, zl_999999, zq_0, zq_1, zq_2, zq_3, zq_4, zq_5, zq_7, zq_9, zq_10, zq_16, zq_17, zq_20, zq_48, zq_57, zq_97, zq_100, zq_122, zq_255, zq_999, zq_6000, zq_9999, zq_999999, nI_add, pk_mul, z_le_t, z_le_f, z_lt_t, z_lt_f, z_eq_t, z_eq_f, zcla, zi_nI, ↓reduceIte, z_ng, z_ngb, z_ngl, z_ngt, zI_y, zI_n, zI_2, zL_1, zL_2, nI_l, inN_t, inN_f, z_or0, lc_le_t, lc_le_f, lc_lt_t, lc_lt_f, lc_ge_t, lc_ge_f, lc_gt_t, lc_gt_f, lc_eq_t, lc_eq_f, z_ngle, lN_i, lN_add, lN_mul, hv, hv', z2]
              exact hx
            · rw [if_neg hc] at hx
              simp (disch := omega) only [zlet_eq, zg_t, zb_s, zb2_s, zl_0, zl_1, zl_2, zl_3, zl_4, zl_5, zl_6, zl_7, zl_8, zl_9, zl_10, zl_12, zl_16, zl_19, zl_20, zl_24, zl_31, zl_36, zl_39, zl_40, zl_48, zl_57, zl_63, zl_80, zl_97, zl_99, zl_100, zl_122, zl_128, zl_160, zl_199, zl_200, zl_255, zl_256, zl_320, zl_999, zl_6000, zl_6001, zl_9999, zl_999999, zq_0, zq_1, zq_2, zq_3, zq_4, zq_5, zq_7, zq_9, zq_10, zq_16, zq_17, zq_20, zq_48, zq_57, zq_97, zq_100, zq_122, zq_255, zq_999, zq_6000, zq_9999, zq_999999, nI_add, pk_mul, z_le_t, z_le_f, z_lt_t, z_lt_f, z_eq_t, z_eq_f, zcla, zi_nI, ↓reduceIte, z_ng, z_ngb, z_ngl, z_ngt, zI_y, zI_n, zI_2, zL_1, zL_2, nI_l, inN_t, inN_f, z_or0, lc_le_t, lc_le_f, lc_lt_t, lc_lt_f, lc_ge_t, lc_ge_f, lc_gt_t, lc_gt_f, lc_eq_t, lc_eq_f, z_ngle, lN_i, lN_add, lN_mul, hv, hv', z2, D_X11_samples_183]
              exact hx
        by_cases hm : zpev P l e = 0
        · rw [if_pos (show (decide (0 < v l) && decide (zpev P l e = 0)) = true by simp [hm]; omega)] at q
          have q' := fin _ q
          simp (disch := omega) only [zlet_eq, zg_t, zb_s, zb2_s, zl_0, zl_1, zl_2, zl_3, zl_4, zl_5, zl_6, zl_7, zl_8, zl_9, zl_10, zl_12, zl_16, zl_19, zl_20, zl_24, zl_31, zl_36, zl_39, zl_40, zl_48, zl_57, zl_63, zl_80, zl_97, zl_99, zl_100, zl_122, zl_128, zl_160, zl_199, zl_200, zl_255, zl_256, zl_320, zl_999, zl_6000, zl_6001, zl_9999, zl_999999, zq_0, zq_1, zq_2, zq_3, zq_4, zq_5, zq_7, zq_9, zq_10, zq_16, zq_17, zq_20, zq_48, zq_57, zq_97, zq_100, zq_122, zq_255, zq_999, zq_6000, zq_9999, zq_999999, nI_add, pk_mul, z_le_t, z_le_f, z_lt_t, z_lt_f, z_eq_t, z_eq_f, zcla, zi_nI, ↓reduceIte, z_ng, z_ngb, z_ngl, z_ngt, zI_y, zI_n, zI_2, zL_1, zL_2, nI_l, inN_t, inN_f, z_or0, lc_le_t, lc_le_f, lc_lt_t, lc_lt_f, lc_ge_t, lc_ge_f, lc_gt_t, lc_gt_f, lc_eq_t, lc_eq_f, z_ngle, lN_i, lN_add, lN_mul, c1, hv, D_X11_samples_113, e0]
          exact q'
        · rw [if_neg (show ¬ (decide (0 < v l) && decide (zpev P l e = 0)) = true by simp [hm])] at q
          have q' := fin (nI 0) (by rw [z_or0]; exact q)
          simp (disch := omega) only [zlet_eq, zg_t, zb_s, zb2_s, zl_0, zl_1, zl_2, zl_3, zl_4, zl_5, zl_6, zl_7, zl_8, zl_9, zl_10, zl_12, zl_16, zl_19, zl_20, zl_24, zl_31, zl_36, zl_39, zl_40, zl_48, zl_57, zl_63, zl_80, zl_97, zl_99, zl_100, zl_122, zl_128, zl_160, zl_199, zl_200, zl_255, zl_256, zl_320, zl_999, zl_6000, zl_6001, zl_9999, zl_999999, zq_0, zq_1, zq_2, zq_3, zq_4, zq_5, zq_7, zq_9, zq_10, zq_16, zq_17, zq_20, zq_48, zq_57, zq_97, zq_100, zq_122, zq_255, zq_999, zq_6000, zq_9999, zq_999999, nI_add, pk_mul, z_le_t, z_le_f, z_lt_t, z_lt_f, z_eq_t, z_eq_f, zcla, zi_nI, ↓reduceIte, z_ng, z_ngb, z_ngl, z_ngt, zI_y, zI_n, zI_2, zL_1, zL_2, nI_l, inN_t, inN_f, z_or0, lc_le_t, lc_le_f, lc_lt_t, lc_lt_f, lc_ge_t, lc_ge_f, lc_gt_t, lc_gt_f, lc_eq_t, lc_eq_f, z_ngle, lN_i, lN_add, lN_mul, c1, hv, D_X11_samples_113, e0]
          exact q'
