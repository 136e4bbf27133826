set_option maxRecDepth 8000
/-! ===== feed ===== -/
theorem by_ (x : Int64) : ∃ b, b < 256 ∧ (x &&& 255).toInt32 = nI b ∧ x.toInt32.toInt8.toInt32 = (nI b).toInt8.toInt32 := by
  refine ⟨(x.toBitVec &&& 255).toNat, ?_, ?_, ?_⟩
  · have h : (x.toBitVec &&& 255).toNat = x.toBitVec.toNat % 2 ^ 8 := by
      rw [BitVec.toNat_and]
      exact Nat.and_two_pow_sub_one_eq_mod _ 8
    rw [h]
    exact Nat.mod_lt _ (by decide)
  · apply Int32.toBitVec_inj.mp
    apply BitVec.eq_of_toNat_eq
    have h : (x.toBitVec &&& 255).toNat = x.toBitVec.toNat % 2 ^ 8 := by
      rw [BitVec.toNat_and]
      exact Nat.and_two_pow_sub_one_eq_mod _ 8
    have h2 : x.toBitVec.toNat % 2 ^ 8 < 2 ^ 8 := Nat.mod_lt _ (by decide)
    show ((x.toBitVec &&& 255).signExtend 32).toNat = (BitVec.ofNat 32 _).toNat
    rw [h]
    rw [BitVec.signExtend_eq_setWidth_of_le _ (by decide), BitVec.toNat_setWidth, BitVec.toNat_ofNat, h]
  · have h : (x.toBitVec &&& 255).toNat = x.toBitVec.toNat % 2 ^ 8 := by
      rw [BitVec.toNat_and]
      exact Nat.and_two_pow_sub_one_eq_mod _ 8
    rw [h]
    congr 1
    apply Int8.toBitVec_inj.mp
    apply BitVec.eq_of_toNat_eq
    show ((x.toBitVec.signExtend 32).signExtend 8).toNat = ((BitVec.ofNat 32 (x.toBitVec.toNat % 2 ^ 8)).signExtend 8).toNat
    rw [BitVec.signExtend_eq_setWidth_of_le _ (by decide), BitVec.signExtend_eq_setWidth_of_le _ (by decide), BitVec.signExtend_eq_setWidth_of_le _ (by decide)]
    rw [BitVec.toNat_setWidth, BitVec.toNat_setWidth, BitVec.toNat_setWidth, BitVec.toNat_ofNat]
    omega
/-- how far to shift for the t-th byte from the end -/
def zwv : Nat → Int32
  | 0 => -nI 8
  | t + 1 => nI (8 * t)
theorem zwv_s (t : Nat) : zwv (t + 1) + -nI 8 = zwv t := by
  cases t with
  | zero => rfl
  | succ t =>
    show nI (8 * (t + 1)) + -nI 8 = nI (8 * t)
    rw [← Int32.sub_eq_add_neg, pk_sub (by omega)]
    congr 1
theorem zwv_neg : (zwv 0 < nI 0) = True := z_ngt (by omega) (by omega) (by omega)
theorem zwv_pos {t : Nat} (h : t < 100) : (zwv (t + 1) < nI 0) = False := z_lt_f (by omega) (by omega)
theorem fe10 (a : Int64) : ∀ t n s σ, t ≤ 8 → s + t ≤ 320 → t < n → σ.1 1 1 = nI s → ∃ σ', L_X8_addEight_18 a n (zwv t) σ = some (1, σ') ∧ σ'.2.2 = σ.2.2 ∧ σ'.1 1 1 = nI (s + t) ∧ (∀ c i, ¬ (c = 1 ∧ i = 1) → ¬ (c = 2 ∧ s ≤ i ∧ i < s + t) → σ'.1 c i = σ.1 c i) ∧ ∀ i, i < t → σ'.1 2 (s + i) = (a >>> ((zwv (t - i)).toInt64 &&& 63)).toInt32.toInt8.toInt32 := by
  intro t
  induction t with
  | zero =>
    intro n s σ h1 h2 hn hs
    cases n with
    | zero => omega
    | succ n =>
      rw [L_X8_addEight_18]
      exact ⟨σ, by simp (disch := omega) only [zlet_eq, zg_t, zb_s, zb2_s, zl_0, zl_1, zl_2, zl_3, zl_4, zl_5, zl_6, zl_7, zl_8, zl_9, zl_10, zl_12, zl_16, zl_19, zl_20, zl_24, zl_31, zl_36, zl_39, zl_40, zl_48, zl_57, zl_63, zl_80, zl_97, zl_99, zl_100, zl_122, zl_128, zl_160, zl_199, zl_200, zl_255, zl_256, zl_320, zl_999, zl_6000, zl_6001, zl_9999, zl_999999, zq_0, zq_1, zq_2, zq_3, zq_4, zq_5, zq_7, zq_9, zq_10, zq_16, zq_17, zq_20, zq_48, zq_57, zq_97, zq_100, zq_122, zq_255, zq_999, zq_6000, zq_9999, zq_999999, nI_add, pk_mul, z_le_t, z_le_f, z_lt_t, z_lt_f, z_eq_t, z_eq_f, zcla, zi_nI, ↓reduceIte, z_ng, z_ngb, z_ngl, z_ngt, zI_y, zI_n, zI_2, zL_1, zL_2, nI_l, inN_t, inN_f, z_or0, lc_le_t, lc_le_f, lc_lt_t, lc_lt_f, lc_ge_t, lc_ge_f, lc_gt_t, lc_gt_f, lc_eq_t, lc_eq_f, z_ngle, lN_i, lN_add, lN_mul, zwv_neg], rfl, hs, fun _ _ _ _ => rfl, fun i hi => absurd hi (by omega)⟩
  | succ t ih =>
    intro n s σ h1 h2 hn hs
    cases n with
    | zero => omega
    | succ n =>
      rw [L_X8_addEight_18]
      obtain ⟨σ', e1, e2, e3, e4, e5⟩ := ih n (s + 1) (zsI (zsI σ 2 s (a >>> ((zwv (t + 1)).toInt64 &&& 63)).toInt32.toInt8.toInt32) 1 1 (nI (s + 1))) (by omega) (by omega) (by omega) zI_y
      refine ⟨σ', ?_, e2, ?_, ?_, ?_⟩
      · have z := zwv_pos (t := t) (by omega)
        have z2 := zwv_s t
        have z0 : ¬ zwv (t + 1) < 0 := of_eq_false z
        have z3 : zi (σ.1 1 1) 320 = true := by rw [hs]; exact zi_nI (by omega) (by omega)
        have z4 : (σ.1 1 1).toNatClampNeg = s := by rw [hs]; exact zcla (by omega)
        rw [zlet_eq, if_neg z0, z3, zg_t, zlet_eq, zlet_eq, zlet_eq, z4, pk_vb]
        rw [show (zsI σ 2 s (a >>> ((zwv (t + 1)).toInt64 &&& 63)).toInt32.toInt8.toInt32).1 1 1 + 1 = nI (s + 1) from by rw [zI_n (by omega), hs]; exact nI_add s 1]
        rw [show zwv (t + 1) + -8 = zwv t from z2]
        exact e1
      · rw [e3]
        congr 1
        omega
      · intro c i h3 h4
        rw [e4 c i h3 (by omega), zI_n (by omega), zI_n (by omega)]
      · intro i hi
        by_cases h0 : i = 0
        · subst h0
          rw [e4 _ _ (by omega) (by omega), zI_n (by omega)]
          exact zI_y
        · have := e5 (i - 1) (by omega)
          rw [show s + 1 + (i - 1) = s + i by omega, show t - (i - 1) = t + 1 - i by omega] at this
          exact this
theorem fe11 (a : Int64) : ∀ t n s σ, t ≤ 8 → s + t ≤ 320 → t < n → σ.1 105 25 = nI s → ∃ σ', L_X11_feed_19 a n (zwv t) σ = some (nI (s + t), σ') ∧ σ'.2.2 = σ.2.2 ∧ σ'.1 105 25 = nI (s + t) ∧ (∀ c i, ¬ (c = 105 ∧ i = 25) → ¬ (c = 121 ∧ s ≤ i ∧ i < s + t) → σ'.1 c i = σ.1 c i) ∧ ∀ i, i < t → σ'.1 121 (s + i) = ((a >>> ((zwv (t - i)).toInt64 &&& 63)) &&& 255).toInt32 := by
  intro t
  induction t with
  | zero =>
    intro n s σ h1 h2 hn hs
    cases n with
    | zero => omega
    | succ n =>
      rw [L_X11_feed_19]
      exact ⟨σ, by simp (disch := omega) only [zlet_eq, zg_t, zb_s, zb2_s, zl_0, zl_1, zl_2, zl_3, zl_4, zl_5, zl_6, zl_7, zl_8, zl_9, zl_10, zl_12, zl_16, zl_19, zl_20, zl_24, zl_31, zl_36, zl_39, zl_40, zl_48, zl_57, zl_63, zl_80, zl_97, zl_99, zl_100, zl_122, zl_128, zl_160, zl_199, zl_200, zl_255, zl_256, zl_320, zl_999, zl_6000, zl_6001, zl_9999, zl_999999, zq_0, zq_1, zq_2, zq_3, zq_4, zq_5, zq_7, zq_9, zq_10, zq_16, zq_17, zq_20, zq_48, zq_57, zq_97, zq_100, zq_122, zq_255, zq_999, zq_6000, zq_9999, zq_999999, nI_add, pk_mul, z_le_t, z_le_f, z_lt_t, z_lt_f, z_eq_t, z_eq_f, zcla, zi_nI, ↓reduceIte, z_ng, z_ngb, z_ngl, z_ngt, zI_y, zI_n, zI_2, zL_1, zL_2, nI_l, inN_t, inN_f, z_or0, lc_le_t, lc_le_f, lc_lt_t, lc_lt_f, lc_ge_t, lc_ge_f, lc_gt_t, lc_gt_f, lc_eq_t, lc_eq_f, z_ngle, lN_i, lN_add, lN_mul, zwv_neg, hs]; rfl, rfl, hs, fun _ _ _ _ => rfl, fun i hi => absurd hi (by omega)⟩
  | succ t ih =>
    intro n s σ h1 h2 hn hs
    cases n with
    | zero => omega
    | succ n =>
      rw [L_X11_feed_19]
      obtain ⟨σ', e1, e2, e3, e4, e5⟩ := ih n (s + 1) (zsI (zsI σ 121 s ((a >>> ((zwv (t + 1)).toInt64 &&& 63)) &&& 255).toInt32) 105 25 (nI (s + 1))) (by omega) (by omega) (by omega) zI_y
      refine ⟨σ', ?_, e2, ?_, ?_, ?_⟩
      · have z := zwv_pos (t := t) (by omega)
        have z2 := zwv_s t
        have z0 : ¬ zwv (t + 1) < 0 := of_eq_false z
        have z3 : zi (σ.1 105 25) 320 = true := by rw [hs]; exact zi_nI (by omega) (by omega)
        have z4 : (σ.1 105 25).toNatClampNeg = s := by rw [hs]; exact zcla (by omega)
        rw [zlet_eq, if_neg z0, z3, zg_t, zlet_eq, zlet_eq, zlet_eq, z4]
        rw [show (zsI σ 121 s ((a >>> ((zwv (t + 1)).toInt64 &&& 63)) &&& 255).toInt32).1 105 25 + 1 = nI (s + 1) from by rw [zI_n (by omega), hs]; exact nI_add s 1]
        rw [show zwv (t + 1) + -8 = zwv t from z2]
        rw [show s + (t + 1) = s + 1 + t by omega]
        exact e1
      · rw [e3]
        congr 1
        omega
      · intro c i h3 h4
        rw [e4 c i h3 (by omega), zI_n (by omega), zI_n (by omega)]
      · intro i hi
        by_cases h0 : i = 0
        · subst h0
          rw [e4 _ _ (by omega) (by omega), zI_n (by omega)]
          exact zI_y
        · have := e5 (i - 1) (by omega)
          rw [show s + 1 + (i - 1) = s + i by omega, show t - (i - 1) = t + 1 - i by omega] at this
          exact this
theorem pp_feed (a : Int64) : zGood (J_X10_feed a) (J_X11_feed a) := by
  intro σ h kb
  have h' := h
  obtain ⟨⟨tn, t1, t2, t3, t4⟩, g2, g3, g4, g5, g6, g7, g8⟩ := h
  unfold J_X10_feed J_X11_feed J_X8_addEight
  by_cases ht : tn + 8 ≤ 320
  · obtain ⟨σ1, a1, a2, a3, a4, a5⟩ := fe10 a 8 4294967296 tn σ (by omega) ht (by omega) t2
    obtain ⟨σ2, b1, b2, b3, b4, b5⟩ := fe11 a 8 4294967296 tn σ1 (by omega) ht (by omega) (by rw [a4 _ _ (by omega) (by omega)]; exact t3)
    have f : ∀ c i, ¬ (c = 1 ∧ i = 1) → ¬ (c = 2) → ¬ (c = 105 ∧ i = 25) → ¬ (c = 121) → σ2.1 c i = σ.1 c i := by
      intro c i h1 h2 h3 h4
      rw [b4 _ _ h3 (by omega), a4 _ _ h1 (by omega)]
    have c1 : σ.1 1 1 + 8 ≤ 320 := by rw [t2, show (8 : Int32) = nI 8 from rfl, nI_add]; exact nI_le (b := 320) ht (by omega)
    have c2 : σ1.1 105 25 + 8 ≤ 320 := by rw [a4 _ _ (by omega) (by omega), t3, show (8 : Int32) = nI 8 from rfl, nI_add]; exact nI_le (b := 320) ht (by omega)
    refine ⟨nI (tn + 8), σ1, σ2, ?_, ?_, ?_, rBank_c (fun c k hc => f _ _ (by omega) (by omega) (by omega) (by omega)) kb⟩
    · rw [if_pos c1, show (56 : Int32) = zwv 8 from rfl, a1, zb2_s, a3]
      rfl
    · rw [if_pos c2, show (56 : Int32) = zwv 8 from rfl]
      exact b1
    · refine zRel_g h' (fun c k hc => f _ _ (by omega) (by omega) (by omega) (by omega)) (b2.trans a2) ?_ (rKept_c (fun c k hc => f _ _ (by omega) (by omega) (by omega) (by omega)) g5) (rCnt_c (fun c k hc => f _ _ (by omega) (by omega) (by omega) (by omega)) g6) (rRuns_c (fun c k hc => f _ _ (by omega) (by omega) (by omega) (by omega)) g7) (rSheet_c (fun c k hc => f _ _ (by omega) (by omega) (by omega) (by omega)) g8)
      refine ⟨tn + 8, ht, ?_, b3, ?_⟩
      · rw [b4 _ _ (by omega) (by omega)]
        exact a3
      · intro j hj
        by_cases hlt : j < tn
        · obtain ⟨b, q1, q2, q3⟩ := t4 j hlt
          refine ⟨b, q1, ?_, ?_⟩
          · rw [b4 _ _ (by omega) (by omega), a4 _ _ (by omega) (by omega)]; exact q2
          · rw [b4 _ _ (by omega) (by omega), a4 _ _ (by omega) (by omega)]; exact q3
        · have x1 := a5 (j - tn) (by omega)
          have x2 := b5 (j - tn) (by omega)
          rw [show tn + (j - tn) = j by omega] at x1 x2
          obtain ⟨b, q1, q2, q3⟩ := by_ (a >>> ((zwv (8 - (j - tn))).toInt64 &&& 63))
          refine ⟨b, q1, ?_, ?_⟩
          · rw [x2]; exact q2
          · rw [b4 _ _ (by omega) (by omega), x1]; exact q3
  · have c1 : ¬ σ.1 1 1 + 8 ≤ 320 := by rw [t2, show (8 : Int32) = nI 8 from rfl, nI_add]; exact nI_ge (a := 320) (by omega) (by omega)
    have c2 : ¬ σ.1 105 25 + 8 ≤ 320 := by rw [t3, show (8 : Int32) = nI 8 from rfl, nI_add]; exact nI_ge (a := 320) (by omega) (by omega)
    exact ⟨-3, σ, σ, by rw [if_neg c1]; rfl, by rw [if_neg c2], h', kb⟩
