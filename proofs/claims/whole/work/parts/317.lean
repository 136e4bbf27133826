set_option maxRecDepth 8000
/-! ===== ratio ===== -/
theorem ra_cd (a4 : Int32) (h4 : zL a4 2) (σ : zS) {x y : Nat} (hx : x < 2147483648) (hy : y < 2147483648) : ∃ r, D_X10_ratio_99 a4 σ (nI x) (nI y) = some r ∧ D_X11_ratio_83 a4 σ (nI x) (nI y) = some r := by
  by_cases h0 : y = 0
  · subst h0
    exact ⟨-4, by unfold D_X10_ratio_99; simp (disch := omega) only [zlet_eq, zg_t, zb_s, zb2_s, zl_0, zl_1, zl_2, zl_3, zl_4, zl_5, zl_6, zl_7, zl_8, zl_9, zl_10, zl_12, zl_16, zl_19, zl_20, zl_24, zl_31, zl_36, zl_39, zl_40, zl_48, zl_57, zl_63, zl_80, zl_97, zl_99, zl_100, zl_122, zl_128, zl_160, zl_199, zl_200, zl_255, zl_256, zl_320, zl_999, zl_6000, zl_6001, zl_9999, zl_999999, zq_0, zq_1, zq_2, zq_3, zq_4, zq_5, zq_7, zq_9, zq_10, zq_16, zq_17, zq_20, zq_48, zq_57, zq_97, zq_100, zq_122, zq_255, zq_999, zq_6000, zq_9999, zq_999999, nI_add, pk_mul, z_le_t, z_le_f, z_lt_t, z_lt_f, z_eq_t, z_eq_f, zcla, zi_nI, ↓reduceIte, z_ng, z_ngb, z_ngl, z_ngt, zI_y, zI_n, zI_2, zL_1, zL_2, nI_l, inN_t, inN_f, z_or0, lc_le_t, lc_le_f, lc_lt_t, lc_lt_f, lc_ge_t, lc_ge_f, lc_gt_t, lc_gt_f, lc_eq_t, lc_eq_f, z_ngle, lN_i, lN_add, lN_mul], by unfold D_X11_ratio_83; simp (disch := omega) only [zlet_eq, zg_t, zb_s, zb2_s, zl_0, zl_1, zl_2, zl_3, zl_4, zl_5, zl_6, zl_7, zl_8, zl_9, zl_10, zl_12, zl_16, zl_19, zl_20, zl_24, zl_31, zl_36, zl_39, zl_40, zl_48, zl_57, zl_63, zl_80, zl_97, zl_99, zl_100, zl_122, zl_128, zl_160, zl_199, zl_200, zl_255, zl_256, zl_320, zl_999, zl_6000, zl_6001, zl_9999, zl_999999, zq_0, zq_1, zq_2, zq_3, zq_4, zq_5, zq_7, zq_9, zq_10, zq_16, zq_17, zq_20, zq_48, zq_57, zq_97, zq_100, zq_122, zq_255, zq_999, zq_6000, zq_9999, zq_999999, nI_add, pk_mul, z_le_t, z_le_f, z_lt_t, z_lt_f, z_eq_t, z_eq_f, zcla, zi_nI, ↓reduceIte, z_ng, z_ngb, z_ngl, z_ngt, zI_y, zI_n, zI_2, zL_1, zL_2, nI_l, inN_t, inN_f, z_or0, lc_le_t, lc_le_f, lc_lt_t, lc_lt_f, lc_ge_t, lc_ge_f, lc_gt_t, lc_gt_f, lc_eq_t, lc_eq_f, z_ngle, lN_i, lN_add, lN_mul]⟩
  · obtain ⟨j, hj, rfl⟩ := h4
    refine ⟨if j = 0 then (lN x / lN (Nat.gcd x y)).toInt32 else (lN y / lN (Nat.gcd x y)).toInt32, ?_, ?_⟩
    · unfold D_X10_ratio_99
      have e1 := fun w => low10 (w := w) (σ := σ) (x := lN x) (a := x) (b := y) (Or.inl rfl) (by omega) (by omega) (by omega)
      by_cases hj0 : j = 0
      · subst hj0
        simp (disch := omega) only [zlet_eq, zg_t, zb_s, zb2_s, zl_0, zl_1, zl_2, zl_3, zl_4, zl_5, zl_6, zl_7, zl_8, zl_9, zl_10, zl_12, zl_16, zl_19, zl_20, zl_24, zl_31, zl_36, zl_39, zl_40, zl_48, zl_57, zl_63, zl_80, zl_97, zl_99, zl_100, zl_122, zl_128, zl_160, zl_199, zl_200, zl_255, zl_256, zl_320, zl_999, zl_6000, zl_6001, zl_9999, zl_999999, zq_0, zq_1, zq_2, zq_3, zq_4, zq_5, zq_7, zq_9, zq_10, zq_16, zq_17, zq_20, zq_48, zq_57, zq_97, zq_100, zq_122, zq_255, zq_999, zq_6000, zq_9999, zq_999999, nI_add, pk_mul, z_le_t, z_le_f, z_lt_t, z_lt_f, z_eq_t, z_eq_f, zcla, zi_nI, ↓reduceIte, z_ng, z_ngb, z_ngl, z_ngt, zI_y, zI_n, zI_2, zL_1, zL_2, nI_l, inN_t, inN_f, z_or0, lc_le_t, lc_le_f, lc_lt_t, lc_lt_f, lc_ge_t, lc_ge_f, lc_gt_t, lc_gt_f, lc_eq_t, lc_eq_f, z_ngle, lN_i, lN_add, lN_mul, e1]
      · simp (disch := omega) only [zlet_eq, zg_t, zb_s, zb2_s, zl_0, zl_1, zl_2, zl_3, zl_4, zl_5, zl_6, zl_7, zl_8, zl_9, zl_10, zl_12, zl_16, zl_19, zl_20, zl_24, zl_31, zl_36, zl_39, zl_40, zl_48, zl_57, zl_63, zl_80, zl_97, zl_99, zl_100, zl_122, zl_128, zl_160, zl_199, zl_200, zl_255, zl_256, zl_320, zl_999, zl_6000, zl_6001, zl_9999, zl_999999, zq_0, zq_1, zq_2, zq_3, zq_4, zq_5, zq_7, zq_9, zq_10, zq_16, zq_17, zq_20, zq_48, zq_57, zq_97, zq_100, zq_122, zq_255, zq_999, zq_6000, zq_9999, zq_999999, nI_add, pk_mul, z_le_t, z_le_f, z_lt_t, z_lt_f, z_eq_t, z_eq_f, zcla, zi_nI, ↓reduceIte, z_ng, z_ngb, z_ngl, z_ngt, zI_y, zI_n, zI_2, zL_1, zL_2, nI_l, inN_t, inN_f, z_or0, lc_le_t, lc_le_f, lc_lt_t, lc_lt_f, lc_ge_t, lc_ge_f, lc_gt_t, lc_gt_f, lc_eq_t, lc_eq_f, z_ngle, lN_i, lN_add, lN_mul, e1, hj0]
    · unfold D_X11_ratio_83
      have e1 := told11 (w := nI j) (σ := σ) (x := lN x) (a := x) (b := y) (Or.inl rfl) (by omega) (by omega) (by omega)
      by_cases hj0 : j = 0
      · subst hj0
        simp (disch := omega) only [zlet_eq, zg_t, zb_s, zb2_s, zl_0, zl_1, zl_2, zl_3, zl_4, zl_5, zl_6, zl_7, zl_8, zl_9, zl_10, zl_12, zl_16, zl_19, zl_20, zl_24, zl_31, zl_36, zl_39, zl_40, zl_48, zl_57, zl_63, zl_80, zl_97, zl_99, zl_100, zl_122, zl_128, zl_160, zl_199, zl_200, zl_255, zl_256, zl_320, zl_999, zl_6000, zl_6001, zl_9999, zl_999999, zq_0, zq_1, zq_2, zq_3, zq_4, zq_5, zq_7, zq_9, zq_10, zq_16, zq_17, zq_20, zq_48, zq_57, zq_97, zq_100, zq_122, zq_255, zq_999, zq_6000, zq_9999, zq_999999, nI_add, pk_mul, z_le_t, z_le_f, z_lt_t, z_lt_f, z_eq_t, z_eq_f, zcla, zi_nI, ↓reduceIte, z_ng, z_ngb, z_ngl, z_ngt, zI_y, zI_n, zI_2, zL_1, zL_2, nI_l, inN_t, inN_f, z_or0, lc_le_t, lc_le_f, lc_lt_t, lc_lt_f, lc_ge_t, lc_ge_f, lc_gt_t, lc_gt_f, lc_eq_t, lc_eq_f, z_ngle, lN_i, lN_add, lN_mul, e1]
      · simp (disch := omega) only [zlet_eq, zg_t, zb_s, zb2_s, zl_0, zl_1, zl_2, zl_3, zl_4, zl_5, zl_6, zl_7, zl_8, zl_9, zl_10, zl_12, zl_16, zl_19, zl_20, zl_24, zl_31, zl_36, zl_39, zl_40, zl_48, zl_57, zl_63, zl_80, zl_97, zl_99, zl_100, zl_122, zl_128, zl_160, zl_199, zl_200, zl_255, zl_256, zl_320, zl_999, zl_6000, zl_6001, zl_9999, zl_999999, zq_0, zq_1, zq_2, zq_3, zq_4, zq_5, zq_7, zq_9, zq_10, zq_16, zq_17, zq_20, zq_48, zq_57, zq_97, zq_100, zq_122, zq_255, zq_999, zq_6000, zq_9999, zq_999999, nI_add, pk_mul, z_le_t, z_le_f, z_lt_t, z_lt_f, z_eq_t, z_eq_f, zcla, zi_nI, ↓reduceIte, z_ng, z_ngb, z_ngl, z_ngt, zI_y, zI_n, zI_2, zL_1, zL_2, nI_l, inN_t, inN_f, z_or0, lc_le_t, lc_le_f, lc_lt_t, lc_lt_f, lc_ge_t, lc_ge_f, lc_gt_t, lc_gt_f, lc_eq_t, lc_eq_f, z_ngle, lN_i, lN_add, lN_mul, e1, hj0]
theorem ra_17 {σ : zS} (h : zRel σ) (a b d e : Int32) (ha : a = -nI 4 ∨ ∃ P, wPr P ∧ cPr σ.1 (σ.2.2 0 1) P ∧ mPr σ.1 P ∧ zL a (zpn P)) : ∃ r, D_X10_ratio_17 a b d e σ = some r ∧ D_X11_ratio_14 a b d e σ = some r := by
  unfold D_X10_ratio_17 D_X11_ratio_14
  by_cases hb : zL b 8
  · have b1 := isEvent_y (σ := σ) hb
    have b2 := isEventM_y (σ := σ) hb
    by_cases hd : zL d 8
    · have d1 := isEvent_y (σ := σ) hd
      have d2 := isEventM_y (σ := σ) hd
      by_cases he : zL e 2
      · have e1 := ei_y (σ := σ) he
        have e2 := in01_y (σ := σ) he
        simp only [zlet_eq, zg_t, zb_s, zb2_s, z10_eq, eq_self, ↓reduceIte, b1, b2, d1, d2, e1, e2]
        obtain ⟨eb, hb, rfl⟩ := hb
        obtain ⟨ed, hd, rfl⟩ := hd
        rcases ha with rfl | ⟨P, w, c, m, l, hl, rfl⟩
        · obtain ⟨P, p, hp, hr, hz, w, c, m⟩ := zopen h
          obtain ⟨r, r1, r2⟩ := ra_cd e he σ (x := zto P eb) (y := zto P ed) (by have := zto_le w hb; omega) (by have := zto_le w hd; omega)
          refine ⟨r, ?_, ?_⟩
          · have q1 : (-nI 4 : Int32) = -4 := rfl
            simp only [zlet_eq, zg_t, zb_s, zb2_s, z10_eq, eq_self, ↓reduceIte, q1, hr, hz, tot3 c w hb, D_X10_ratio_69, tot3 c w hd]
            exact r1
          · have q1 : (-nI 4 : Int32) = -4 := rfl
            simp only [zlet_eq, zg_t, zb_s, zb2_s, z10_eq, eq_self, ↓reduceIte, q1, tot11 m w hb, D_X11_ratio_61, tot11 m w hd]
            exact r2
        · have w1 := w.1
          have w5 := (w.2.2.2.1 l hl).2.2.2.2.1
          have hz : zP (σ.2.2 0 1) = true := by
            obtain ⟨_, _, g3, _⟩ := h
            rcases zpp g3 with e | e <;> rw [e] <;> rfl
          obtain ⟨r, r1, r2⟩ := ra_cd e he σ (x := zpev P l eb) (y := zpev P l ed) (by have := w5 eb hb; omega) (by have := w5 ed hd; omega)
          have hne : ¬ nI l = (-4 : Int32) := of_eq_false (z_ng (b := 4) (by omega) (by omega) (by omega))
          refine ⟨r, ?_, ?_⟩
          · have c4 := c.2.2.2.1
            simp (disch := omega) only [zlet_eq, zg_t, zb_s, zb2_s, z10_eq, eq_self, ↓reduceIte, hne, hz, zi_nI, zcla, c4, D_X10_ratio_69]
            exact r1
          · simp only [zlet_eq, zg_t, zb_s, zb2_s, z10_eq, eq_self, ↓reduceIte, hne, made11 m w1 hl hb, D_X11_ratio_61, made11 m w1 hl hd]
            exact r2
      · have e1 := ei_n (σ := σ) he
        have e2 := in01_n (σ := σ) he
        exact ⟨-1, by simp only [zlet_eq, zg_t, zb_s, zb2_s, z10_eq, eq_self, ↓reduceIte, b1, d1, e1], by simp only [zlet_eq, zg_t, zb_s, zb2_s, z10_eq, eq_self, ↓reduceIte, b2, d2, e2]⟩
    · have d1 := isEvent_n (σ := σ) hd
      have d2 := isEventM_n (σ := σ) hd
      exact ⟨-1, by simp only [zlet_eq, zg_t, zb_s, zb2_s, z10_eq, eq_self, ↓reduceIte, b1, d1], by simp only [zlet_eq, zg_t, zb_s, zb2_s, z10_eq, eq_self, ↓reduceIte, b2, d2]⟩
  · have b1 := isEvent_n (σ := σ) hb
    have b2 := isEventM_n (σ := σ) hb
    exact ⟨-1, by simp only [zlet_eq, zg_t, zb_s, zb2_s, z10_eq, eq_self, ↓reduceIte, b1], by simp only [zlet_eq, zg_t, zb_s, zb2_s, z10_eq, eq_self, ↓reduceIte, b2]⟩
theorem pp_ratio {σ : zS} (h : zRel σ) (a b d e : Int32) : ∃ r, J_X10_ratio a b d e σ = some r ∧ J_X11_ratio a b d e σ = some r := by
  unfold J_X10_ratio J_X11_ratio
  by_cases h4 : a = -4
  · simp only [zlet_eq, zg_t, zb_s, zb2_s, z10_eq, eq_self, ↓reduceIte, h4]
    exact ra_17 h (-4) b d e (Or.inl rfl)
  · obtain ⟨P, p, hp, hr, hz, w, c, m⟩ := zopen h
    have w1 := w.1
    by_cases ha : zL a (zpn P)
    · obtain ⟨r, r1, r2⟩ := ra_17 h a b d e (Or.inr ⟨P, w, by rw [hr]; exact c, m, ha⟩)
      have q1 := hasLine_y (σ := σ) c.1 ha (by omega)
      have q2 := isLine_y (σ := σ) m.1 ha (by omega)
      exact ⟨r, by simp only [zlet_eq, zg_t, zb_s, zb2_s, z10_eq, eq_self, ↓reduceIte, h4, hr, hz, q1]; exact r1, by simp only [zlet_eq, zg_t, zb_s, zb2_s, z10_eq, eq_self, ↓reduceIte, h4, q2]; exact r2⟩
    · have q1 := hasLine_n (σ := σ) c.1 ha (by omega)
      have q2 := isLine_n (σ := σ) m.1 ha (by omega)
      exact ⟨-1, by simp only [zlet_eq, zg_t, zb_s, zb2_s, z10_eq, eq_self, ↓reduceIte, h4, hr, hz, q1], by simp only [zlet_eq, zg_t, zb_s, zb2_s, z10_eq, eq_self, ↓reduceIte, h4, q2]⟩
/-! ===== counting, and counters over ===== -/
theorem tb_bit {s e : Nat} (hs : s < 256) (he : e < 8) : ((nI s >>> (nI e &&& 31)) &&& 1 : Int32) = nI (if s.testBit e then 1 else 0) := by
  have hsh : ((nI e &&& 31).toBitVec.smod 32).toNat = e := by
    have : ∀ e : Fin 8, ((nI e.val &&& 31).toBitVec.smod 32).toNat = e.val := by decide +kernel
    exact this ⟨e, he⟩
  have hd := Nat.div_le_self s (2 ^ e)
  rw [pk_shrN (by omega) _ e hsh, show (1 : Int32) = nI (2 ^ 1 - 1) from rfl, pk_andN (show s / 2 ^ e < 2 ^ 32 by omega) 1 rfl]
  congr 1
  rw [Nat.testBit, Nat.shiftRight_eq_div_pow, Nat.and_comm, Nat.and_one_is_mod]
  have : s / 2 ^ e % 2 < 2 := Nat.mod_lt _ (by omega)
  rcases Nat.lt_or_ge (s / 2 ^ e % 2) 1 with q | q
  · have q' : s / 2 ^ e % 2 = 0 := by omega
    simp [q']
  · have q' : s / 2 ^ e % 2 = 1 := by omega
    simp [q']
/-- a counter that counts an event -/
theorem ct_ {σ : zS} (h : zRel σ) (a b : Int32) : (∃ k j e M w, k ≤ 4 ∧ j < k ∧ a = nI j ∧ e < 8 ∧ b = nI e ∧ M < 256 ∧ 2 ≤ w ∧ w ≤ 16 ∧ σ.1 84 j = nI w ∧ σ.1 126 j = nI w ∧ J_X0_counts a b σ = some 1 ∧ J_X11_canCount a b σ = some 1) ∨ (J_X0_counts a b σ = some 0 ∧ J_X11_canCount a b σ = some 0) := by
  obtain ⟨g1, g2, g3, g4, g5, ⟨k, k1, k2, k3, k4, k5⟩, g7, g8⟩ := h
  unfold J_X0_counts J_X11_canCount J_X10_isOneOf
  by_cases ha : zL a k
  · have e1 := has_y (σ := σ) k3 ha (by omega)
    have e2 := isCounter_y (σ := σ) k4 ha (by omega)
    obtain ⟨j, hj, rfl⟩ := ha
    obtain ⟨⟨M, m1, m2, m3⟩, w, w1, w2, w3, w4⟩ := k5 j (by omega)
    have e5 := isSet_y (a := nI M) (σ := σ) ⟨M, m1, rfl⟩
    have t1 : zi (nI j) 4 = true := zi_nI (by omega) (by omega)
    have t2 : (nI j).toNatClampNeg = j := zcla (by omega)
    simp only [zlet_eq, zg_t, zb_s, zb2_s, z10_eq, eq_self, ↓reduceIte, e1, e2, t1, t2, m2, m3, e5]
    by_cases hb : zL b 8
    · have e3 := isEvent_y (σ := σ) hb
      have e4 := isEventM_y (σ := σ) hb
      simp only [zlet_eq, zg_t, zb_s, zb2_s, z10_eq, eq_self, ↓reduceIte, e3, e4]
      obtain ⟨e, he, rfl⟩ := hb
      rw [tb_bit m1 he]
      by_cases ht : M.testBit e = true
      · left
        refine ⟨k, j, e, M, w, k2, hj, rfl, he, rfl, m1, w1, w2, w3, w4, ?_, ?_⟩
        · rw [if_pos ht]; rfl
        · rw [if_pos ht]; rfl
      · right
        refine ⟨?_, ?_⟩
        · rw [if_neg ht]; rfl
        · rw [if_neg ht]; rfl
    · have e3 := isEvent_n (σ := σ) hb
      have e4 := isEventM_n (σ := σ) hb
      right
      rw [e3, e4]
      exact ⟨rfl, rfl⟩
  · have e1 := has_n (σ := σ) k3 ha (by omega)
    have e2 := isCounter_n (σ := σ) k4 ha (by omega)
    right
    rw [e1, e2]
    exact ⟨rfl, rfl⟩
theorem great_ {w : Nat} (h1 : 2 ≤ w) (h2 : w ≤ 16) : ((1 : Int32) <<< (nI w &&& 31)) = nI (2 ^ w) := by
  have : ∀ w : Fin 17, ((1 : Int32) <<< (nI w.val &&& 31)) = nI (2 ^ w.val) := by decide +kernel
  exact this ⟨w, by omega⟩
theorem pow_le {w : Nat} (h2 : w ≤ 16) : 1 ≤ 2 ^ w ∧ 2 ^ w ≤ 65536 := ⟨Nat.one_le_two_pow, Nat.le_trans (Nat.pow_le_pow_right (by omega) h2) (by decide)⟩
theorem pp_over {σ : zS} (h : zRel σ) (a b d e : Int32) : ∃ r, J_X10_over a b d e σ = some r ∧ J_X11_over a b d e σ = some r := by
  obtain ⟨P, p, hp, hr, hz, w, c, m⟩ := zopen h
  unfold J_X10_over J_X11_over
  rcases ct_ h a b with ⟨k, j, ev, M, ww, k2, hj, rfl, he, rfl, m1, w1, w2, w3, w4, e1, e2⟩ | ⟨e1, e2⟩
  · have t1 : zi (nI j) 4 = true := zi_nI (by omega) (by omega)
    have t2 : (nI j).toNatClampNeg = j := zcla (by omega)
    simp only [zlet_eq, zg_t, zb_s, zb2_s, z10_eq, eq_self, ↓reduceIte, e1, e2, t1, t2, w4, great_ w1 w2]
    have hg : J_X0_greatest (nI j) σ = some (nI (2 ^ ww - 1)) := by
      unfold J_X0_greatest
      rw [zi_nI (by omega) (by omega), zg_t, zcla (by omega), w3, great_ w1 w2]
      exact congrArg some (pk_sub (b := 1) (pow_le w2).1)
    have pw := pow_le w2
    by_cases hd : zL d (2 ^ ww)
    · rw [show (1 : Int32) = nI 1 from rfl, show (0 : Int64) = lN 0 from rfl]
      obtain ⟨x, hx, rfl⟩ := hd
      by_cases hE : zL e 2
      · have e3 := ei_y (σ := σ) hE
        have e4 := in01_y (σ := σ) hE
        obtain ⟨y, hy, rfl⟩ := hE
        have e4' : J_X11_in (lN y) (lN 0) (lN 1) σ = some 1 := by rw [← nI_l (by omega)]; exact e4
        have t1 := tot3 (σ := σ) c w he
        have t2 := tot11 (σ := σ) m w he
        have ps := pk_sub (a := 2 ^ ww) (b := 1) pw.1
        by_cases hy0 : y = 0
        · subst hy0
          refine ⟨nI (x + zto P ev) &&& nI (2 ^ ww - 1), ?_, ?_⟩
          · simp (disch := omega) only [zlet_eq, zg_t, zb_s, zb2_s, zl_0, zl_1, zl_2, zl_3, zl_4, zl_5, zl_6, zl_7, zl_8, zl_9, zl_10, zl_12, zl_16, zl_19, zl_20, zl_24, zl_31, zl_36, zl_39, zl_40, zl_48, zl_57, zl_63, zl_80, zl_97, zl_99, zl_100, zl_122, zl_128, zl_160, zl_199, zl_200, zl_255, zl_256, zl_320, zl_999, zl_6000, zl_6001, zl_9999, zl_999999, zq_0, zq_1, zq_2, zq_3, zq_4, zq_5, zq_7, zq_9, zq_10, zq_16, zq_17, zq_20, zq_48, zq_57, zq_97, zq_100, zq_122, zq_255, zq_999, zq_6000, zq_9999, zq_999999, nI_add, pk_mul, z_le_t, z_le_f, z_lt_t, z_lt_f, z_eq_t, z_eq_f, zcla, zi_nI, ↓reduceIte, z_ng, z_ngb, z_ngl, z_ngt, zI_y, zI_n, zI_2, zL_1, zL_2, nI_l, inN_t, inN_f, z_or0, lc_le_t, lc_le_f, lc_lt_t, lc_lt_f, lc_ge_t, lc_ge_f, lc_gt_t, lc_gt_f, lc_eq_t, lc_eq_f, z_ngle, lN_i, lN_add, lN_mul, hg, e3, hr, hz, t1]
          · simp (disch := omega) only [zlet_eq, zg_t, zb_s, zb2_s, zl_0, zl_1, zl_2, zl_3, zl_4, zl_5, zl_6, zl_7, zl_8, zl_9, zl_10, zl_12, zl_16, zl_19, zl_20, zl_24, zl_31, zl_36, zl_39, zl_40, zl_48, zl_57, zl_63, zl_80, zl_97, zl_99, zl_100, zl_122, zl_128, zl_160, zl_199, zl_200, zl_255, zl_256, zl_320, zl_999, zl_6000, zl_6001, zl_9999, zl_999999, zq_0, zq_1, zq_2, zq_3, zq_4, zq_5, zq_7, zq_9, zq_10, zq_16, zq_17, zq_20, zq_48, zq_57, zq_97, zq_100, zq_122, zq_255, zq_999, zq_6000, zq_9999, zq_999999, nI_add, pk_mul, z_le_t, z_le_f, z_lt_t, z_lt_f, z_eq_t, z_eq_f, zcla, zi_nI, ↓reduceIte, z_ng, z_ngb, z_ngl, z_ngt, zI_y, zI_n, zI_2, zL_1, zL_2, nI_l, inN_t, inN_f, z_or0, lc_le_t, lc_le_f, lc_lt_t, lc_lt_f, lc_ge_t, lc_ge_f, lc_gt_t, lc_gt_f, lc_eq_t, lc_eq_f, z_ngle, lN_i, lN_add, lN_mul, zmY, e4', t2, ps]
        · refine ⟨nI (x + zto P ev) >>> (nI ww &&& nI 31), ?_, ?_⟩
          · simp (disch := omega) only [zlet_eq, zg_t, zb_s, zb2_s, zl_0, zl_1, zl_2, zl_3, zl_4, zl_5, zl_6, zl_7, zl_8, zl_9, zl_10, zl_12, zl_16, zl_19, zl_20, zl_24, zl_31, zl_36, zl_39, zl_40, zl_48, zl_57, zl_63, zl_80, zl_97, zl_99, zl_100, zl_122, zl_128, zl_160, zl_199, zl_200, zl_255, zl_256, zl_320, zl_999, zl_6000, zl_6001, zl_9999, zl_999999, zq_0, zq_1, zq_2, zq_3, zq_4, zq_5, zq_7, zq_9, zq_10, zq_16, zq_17, zq_20, zq_48, zq_57, zq_97, zq_100, zq_122, zq_255, zq_999, zq_6000, zq_9999, zq_999999, nI_add, pk_mul, z_le_t, z_le_f, z_lt_t, z_lt_f, z_eq_t, z_eq_f, zcla, zi_nI, ↓reduceIte, z_ng, z_ngb, z_ngl, z_ngt, zI_y, zI_n, zI_2, zL_1, zL_2, nI_l, inN_t, inN_f, z_or0, lc_le_t, lc_le_f, lc_lt_t, lc_lt_f, lc_ge_t, lc_ge_f, lc_gt_t, lc_gt_f, lc_eq_t, lc_eq_f, z_ngle, lN_i, lN_add, lN_mul, hg, e3, hr, hz, t1, w3]
          · simp (disch := omega) only [zlet_eq, zg_t, zb_s, zb2_s, zl_0, zl_1, zl_2, zl_3, zl_4, zl_5, zl_6, zl_7, zl_8, zl_9, zl_10, zl_12, zl_16, zl_19, zl_20, zl_24, zl_31, zl_36, zl_39, zl_40, zl_48, zl_57, zl_63, zl_80, zl_97, zl_99, zl_100, zl_122, zl_128, zl_160, zl_199, zl_200, zl_255, zl_256, zl_320, zl_999, zl_6000, zl_6001, zl_9999, zl_999999, zq_0, zq_1, zq_2, zq_3, zq_4, zq_5, zq_7, zq_9, zq_10, zq_16, zq_17, zq_20, zq_48, zq_57, zq_97, zq_100, zq_122, zq_255, zq_999, zq_6000, zq_9999, zq_999999, nI_add, pk_mul, z_le_t, z_le_f, z_lt_t, z_lt_f, z_eq_t, z_eq_f, zcla, zi_nI, ↓reduceIte, z_ng, z_ngb, z_ngl, z_ngt, zI_y, zI_n, zI_2, zL_1, zL_2, nI_l, inN_t, inN_f, z_or0, lc_le_t, lc_le_f, lc_lt_t, lc_lt_f, lc_ge_t, lc_ge_f, lc_gt_t, lc_gt_f, lc_eq_t, lc_eq_f, z_ngle, lN_i, lN_add, lN_mul, zmY, e4', t2]
      · have e3 := ei_n (σ := σ) hE
        have e4 := in01_n (σ := σ) hE
        refine ⟨-1, ?_, ?_⟩
        · simp (disch := omega) only [zlet_eq, zg_t, zb_s, zb2_s, zl_0, zl_1, zl_2, zl_3, zl_4, zl_5, zl_6, zl_7, zl_8, zl_9, zl_10, zl_12, zl_16, zl_19, zl_20, zl_24, zl_31, zl_36, zl_39, zl_40, zl_48, zl_57, zl_63, zl_80, zl_97, zl_99, zl_100, zl_122, zl_128, zl_160, zl_199, zl_200, zl_255, zl_256, zl_320, zl_999, zl_6000, zl_6001, zl_9999, zl_999999, zq_0, zq_1, zq_2, zq_3, zq_4, zq_5, zq_7, zq_9, zq_10, zq_16, zq_17, zq_20, zq_48, zq_57, zq_97, zq_100, zq_122, zq_255, zq_999, zq_6000, zq_9999, zq_999999, nI_add, pk_mul, z_le_t, z_le_f, z_lt_t, z_lt_f, z_eq_t, z_eq_f, zcla, zi_nI, ↓reduceIte, z_ng, z_ngb, z_ngl, z_ngt, zI_y, zI_n, zI_2, zL_1, zL_2, nI_l, inN_t, inN_f, z_or0, lc_le_t, lc_le_f, lc_lt_t, lc_lt_f, lc_ge_t, lc_ge_f, lc_gt_t, lc_gt_f, lc_eq_t, lc_eq_f, z_ngle, lN_i, lN_add, lN_mul, hg, e3]
        · have e4' : J_X11_in e.toInt64 (lN 0) (lN 1) σ = some 0 := e4
          simp (disch := omega) only [zlet_eq, zg_t, zb_s, zb2_s, zl_0, zl_1, zl_2, zl_3, zl_4, zl_5, zl_6, zl_7, zl_8, zl_9, zl_10, zl_12, zl_16, zl_19, zl_20, zl_24, zl_31, zl_36, zl_39, zl_40, zl_48, zl_57, zl_63, zl_80, zl_97, zl_99, zl_100, zl_122, zl_128, zl_160, zl_199, zl_200, zl_255, zl_256, zl_320, zl_999, zl_6000, zl_6001, zl_9999, zl_999999, zq_0, zq_1, zq_2, zq_3, zq_4, zq_5, zq_7, zq_9, zq_10, zq_16, zq_17, zq_20, zq_48, zq_57, zq_97, zq_100, zq_122, zq_255, zq_999, zq_6000, zq_9999, zq_999999, nI_add, pk_mul, z_le_t, z_le_f, z_lt_t, z_lt_f, z_eq_t, z_eq_f, zcla, zi_nI, ↓reduceIte, z_ng, z_ngb, z_ngl, z_ngt, zI_y, zI_n, zI_2, zL_1, zL_2, nI_l, inN_t, inN_f, z_or0, lc_le_t, lc_le_f, lc_lt_t, lc_lt_f, lc_ge_t, lc_ge_f, lc_gt_t, lc_gt_f, lc_eq_t, lc_eq_f, z_ngle, lN_i, lN_add, lN_mul, zmY, e4']
    · refine ⟨-1, ?_, ?_⟩
      · by_cases h0 : d < nI 0
        · simp (disch := omega) only [zlet_eq, zg_t, zb_s, zb2_s, zl_0, zl_1, zl_2, zl_3, zl_4, zl_5, zl_6, zl_7, zl_8, zl_9, zl_10, zl_12, zl_16, zl_19, zl_20, zl_24, zl_31, zl_36, zl_39, zl_40, zl_48, zl_57, zl_63, zl_80, zl_97, zl_99, zl_100, zl_122, zl_128, zl_160, zl_199, zl_200, zl_255, zl_256, zl_320, zl_999, zl_6000, zl_6001, zl_9999, zl_999999, zq_0, zq_1, zq_2, zq_3, zq_4, zq_5, zq_7, zq_9, zq_10, zq_16, zq_17, zq_20, zq_48, zq_57, zq_97, zq_100, zq_122, zq_255, zq_999, zq_6000, zq_9999, zq_999999, nI_add, pk_mul, z_le_t, z_le_f, z_lt_t, z_lt_f, z_eq_t, z_eq_f, zcla, zi_nI, ↓reduceIte, z_ng, z_ngb, z_ngl, z_ngt, zI_y, zI_n, zI_2, zL_1, zL_2, nI_l, inN_t, inN_f, z_or0, lc_le_t, lc_le_f, lc_lt_t, lc_lt_f, lc_ge_t, lc_ge_f, lc_gt_t, lc_gt_f, lc_eq_t, lc_eq_f, z_ngle, lN_i, lN_add, lN_mul, h0]
        · obtain ⟨x, hx, rfl⟩ := nI_of h0
          have : ¬ x < 2 ^ ww := fun q => hd ⟨x, q, rfl⟩
          simp (disch := omega) only [zlet_eq, zg_t, zb_s, zb2_s, zl_0, zl_1, zl_2, zl_3, zl_4, zl_5, zl_6, zl_7, zl_8, zl_9, zl_10, zl_12, zl_16, zl_19, zl_20, zl_24, zl_31, zl_36, zl_39, zl_40, zl_48, zl_57, zl_63, zl_80, zl_97, zl_99, zl_100, zl_122, zl_128, zl_160, zl_199, zl_200, zl_255, zl_256, zl_320, zl_999, zl_6000, zl_6001, zl_9999, zl_999999, zq_0, zq_1, zq_2, zq_3, zq_4, zq_5, zq_7, zq_9, zq_10, zq_16, zq_17, zq_20, zq_48, zq_57, zq_97, zq_100, zq_122, zq_255, zq_999, zq_6000, zq_9999, zq_999999, nI_add, pk_mul, z_le_t, z_le_f, z_lt_t, z_lt_f, z_eq_t, z_eq_f, zcla, zi_nI, ↓reduceIte, z_ng, z_ngb, z_ngl, z_ngt, zI_y, zI_n, zI_2, zL_1, zL_2, nI_l, inN_t, inN_f, z_or0, lc_le_t, lc_le_f, lc_lt_t, lc_lt_f, lc_ge_t, lc_ge_f, lc_gt_t, lc_gt_f, lc_eq_t, lc_eq_f, z_ngle, lN_i, lN_add, lN_mul, hg]
      · simp (disch := omega) only [zlet_eq, zg_t, zb_s, zb2_s, zl_0, zl_1, zl_2, zl_3, zl_4, zl_5, zl_6, zl_7, zl_8, zl_9, zl_10, zl_12, zl_16, zl_19, zl_20, zl_24, zl_31, zl_36, zl_39, zl_40, zl_48, zl_57, zl_63, zl_80, zl_97, zl_99, zl_100, zl_122, zl_128, zl_160, zl_199, zl_200, zl_255, zl_256, zl_320, zl_999, zl_6000, zl_6001, zl_9999, zl_999999, zq_0, zq_1, zq_2, zq_3, zq_4, zq_5, zq_7, zq_9, zq_10, zq_16, zq_17, zq_20, zq_48, zq_57, zq_97, zq_100, zq_122, zq_255, zq_999, zq_6000, zq_9999, zq_999999, nI_add, pk_mul, z_le_t, z_le_f, z_lt_t, z_lt_f, z_eq_t, z_eq_f, zcla, zi_nI, ↓reduceIte, z_ng, z_ngb, z_ngl, z_ngt, zI_y, zI_n, zI_2, zL_1, zL_2, nI_l, inN_t, inN_f, z_or0, lc_le_t, lc_le_f, lc_lt_t, lc_lt_f, lc_ge_t, lc_ge_f, lc_gt_t, lc_gt_f, lc_eq_t, lc_eq_f, z_ngle, lN_i, lN_add, lN_mul, zmN hd]
  · exact ⟨-1, by simp only [zlet_eq, zg_t, zb_s, zb2_s, z10_eq, eq_self, ↓reduceIte, e1], by simp only [zlet_eq, zg_t, zb_s, zb2_s, z10_eq, eq_self, ↓reduceIte, e2]⟩
