set_option maxRecDepth 20000
/-! ===== the law ===== -/
theorem lg_self (r : Int64) : lg_cmp r r = 0 := (lg_cmp_eq r r).mpr rfl
set_option maxHeartbeats 4000000 in
theorem law_ {xs : Nat → Int32} {Ln : Nat} (hL : Ln ≤ 3072) : ∀ q j n σ, zRel σ → rBank σ.1 → Ln ≤ 6 * j + 6 * q → j ≤ 1000 → q < n → q + j ≤ 1000 → L_L_law_18 xs Ln n (nI (6 * j)) σ = some 1 := by
  have ex : ∀ j, j ≤ 1000 → Ln < 6 * j + 6 → (nI Ln - (6 : Int32)) < nI (6 * j) := by
    intro j hj h
    rw [Int32.lt_iff_toInt_lt, nI_toInt (by omega)]
    have := pk_sub_toInt (a := Ln) (b := 6) (by omega) (by omega)
    have e : nI Ln - (6 : Int32) = nI Ln - nI 6 := rfl
    rw [e, this]
    omega
  have go : ∀ j, j ≤ 1000 → 6 * j + 6 ≤ Ln → ¬ (nI Ln - (6 : Int32)) < nI (6 * j) := by
    intro j hj h
    rw [Int32.lt_iff_toInt_lt, nI_toInt (by omega)]
    have := pk_sub_toInt (a := Ln) (b := 6) (by omega) (by omega)
    have e : nI Ln - (6 : Int32) = nI Ln - nI 6 := rfl
    rw [e, this]
    omega
  have oL : Int32.ofNat Ln = nI Ln := rfl
  intro q
  induction q with
  | zero =>
    intro j n σ h hb hm hj hn hq
    cases n with
    | zero => omega
    | succ n =>
      rw [L_L_law_18, zlet_eq, oL, if_pos (ex j hj (by omega))]
  | succ q ih =>
    intro j n σ h hb hm hj hn hq
    cases n with
    | zero => omega
    | succ n =>
      rw [L_L_law_18, zlet_eq, oL]
      by_cases hx : Ln < 6 * j + 6
      · rw [if_pos (ex j hj hx)]
      · rw [if_neg (go j hj (by omega))]
        have I : ∀ τ, zRel τ → rBank τ.1 → L_L_law_18 xs Ln n (nI (6 * (j + 1))) τ = some 1 := fun τ h1 h2 => ih (j + 1) n τ h1 h2 (by omega) (by omega) (by omega) (by omega)
        have g0 : zi (nI (6 * j)) Ln = true := zi_nI (by omega) (by omega)
        have a1 : nI (6 * j) + (1 : Int32) = nI (6 * j + 1) := nI_add _ 1
        have a2 : nI (6 * j) + (2 : Int32) = nI (6 * j + 2) := nI_add _ 2
        have a3 : nI (6 * j) + (3 : Int32) = nI (6 * j + 3) := nI_add _ 3
        have a4 : nI (6 * j) + (4 : Int32) = nI (6 * j + 4) := nI_add _ 4
        have a5 : nI (6 * j) + (5 : Int32) = nI (6 * j + 5) := nI_add _ 5
        have a6 : nI (6 * j) + (6 : Int32) = nI (6 * (j + 1)) := by rw [Nat.mul_succ]; exact nI_add _ 6
        have g1 : zi (nI (6 * j + 1)) Ln = true := zi_nI (by omega) (by omega)
        have g2 : zi (nI (6 * j + 2)) Ln = true := zi_nI (by omega) (by omega)
        have g3 : zi (nI (6 * j + 3)) Ln = true := zi_nI (by omega) (by omega)
        have g4 : zi (nI (6 * j + 4)) Ln = true := zi_nI (by omega) (by omega)
        have g5 : zi (nI (6 * j + 5)) Ln = true := zi_nI (by omega) (by omega)
        simp only [a1, a2, a3, a4, a5, a6, g0, g1, g2, g3, g4, g5, zg_t, zlet_eq]
        generalize (nI (6 * j + 1)).toNatClampNeg = i1
        generalize (nI (6 * j + 2)).toNatClampNeg = i2
        generalize (nI (6 * j + 3)).toNatClampNeg = i3
        generalize (nI (6 * j + 4)).toNatClampNeg = i4
        generalize (nI (6 * j + 5)).toNatClampNeg = i5
        generalize xs i1 = x1
        generalize xs i2 = x2
        generalize xs i3 = x3
        generalize xs i4 = x4
        generalize xs i5 = x5
        generalize xs (nI (6 * j)).toNatClampNeg &&& 63 = v3
        by_cases c0 : v3 = (0 : Int32)
        · rw [if_pos c0]
          obtain ⟨r, σ1, σ2, e1, e2, h1, h2⟩ := pp_feed (((x1.toInt64) <<< ((32 : Int32).toInt64 &&& 63)) ||| ((x2.toInt64) &&& (4294967295 : Int64))) σ h hb
          rw [e1, zb2_s, e2, zb2_s, if_pos rfl]
          exact I σ2 h1 h2
        rw [if_neg c0]
        by_cases c1 : v3 = (1 : Int32)
        · obtain ⟨r, σ1, σ2, e1, e2, h1, h2⟩ := pp_end x1 σ h hb
          rw [if_pos c1, e1, zb2_s, e2, zb2_s, if_pos rfl]
          exact I σ2 h1 h2
        rw [if_neg c1]
        by_cases c2 : v3 = (2 : Int32)
        · obtain ⟨r, σ1, σ2, e1, e2, h1, h2⟩ := pp_program σ h hb
          rw [if_pos c2, e1, zb2_s, e2, zb2_s, if_pos rfl]
          exact I σ2 h1 h2
        rw [if_neg c2]
        by_cases c3 : v3 = (3 : Int32)
        · obtain ⟨r, e1, e2⟩ := pp_fault h
          rw [if_pos c3, e1, zb_s, e2, zb_s, if_pos rfl]
          exact I σ h hb
        rw [if_neg c3]
        by_cases c4 : v3 = (4 : Int32)
        · obtain ⟨r, e1, e2⟩ := pp_line h x1 x2
          rw [if_pos c4, e1, zb_s, e2, zb_s, if_pos rfl]
          exact I σ h hb
        rw [if_neg c4]
        by_cases c5 : v3 = (5 : Int32)
        · obtain ⟨r, e1, e2⟩ := pp_step h x1
          rw [if_pos c5, e1, zb_s, e2, zb_s, if_pos rfl]
          exact I σ h hb
        rw [if_neg c5]
        by_cases c6 : v3 = (6 : Int32)
        · obtain ⟨r, e1, e2⟩ := pp_whole h x1
          rw [if_pos c6, e1, zb_s, e2, zb_s, if_pos rfl]
          exact I σ h hb
        rw [if_neg c6]
        by_cases c7 : v3 = (7 : Int32)
        · obtain ⟨r, e1, e2⟩ := pp_ratio h x1 x2 x3 x4
          rw [if_pos c7, e1, zb_s, e2, zb_s, if_pos rfl]
          exact I σ h hb
        rw [if_neg c7]
        by_cases c8 : v3 = (8 : Int32)
        · obtain ⟨r, e1, e2⟩ := pp_loop h x1 x2
          rw [if_pos c8, e1, zb_s, e2, zb_s, if_pos rfl]
          exact I σ h hb
        rw [if_neg c8]
        by_cases c9 : v3 = (9 : Int32)
        · obtain ⟨r, e1, e2⟩ := pp_went h x1 x2 x3
          rw [if_pos c9, e1, zb_s, e2, zb_s, if_pos rfl]
          exact I σ h hb
        rw [if_neg c9]
        by_cases c10 : v3 = (10 : Int32)
        · obtain ⟨r, e1, e2⟩ := pp_hot h x1 x2 x3
          rw [if_pos c10, e1, zb_s, e2, zb_s, if_pos rfl]
          exact I σ h hb
        rw [if_neg c10]
        by_cases c11 : v3 = (11 : Int32)
        · obtain ⟨r, σ1, σ2, e1, e2, h1, h2⟩ := pp_keep σ h hb
          rw [if_pos c11, e1, zb2_s, e2, zb2_s, if_pos rfl]
          exact I σ2 h1 h2
        rw [if_neg c11]
        by_cases c12 : v3 = (12 : Int32)
        · obtain ⟨r, e1, e2⟩ := pp_beside h x1 x2
          rw [if_pos c12, e1, zb_s, e2, zb_s, if_pos rfl]
          exact I σ h hb
        rw [if_neg c12]
        by_cases c13 : v3 = (13 : Int32)
        · obtain ⟨r, σ1, σ2, e1, e2, h1, h2⟩ := pp_counters x1 σ h hb
          rw [if_pos c13, e1, zb2_s, e2, zb2_s, if_pos rfl]
          exact I σ2 h1 h2
        rw [if_neg c13]
        by_cases c14 : v3 = (14 : Int32)
        · obtain ⟨r, σ1, σ2, e1, e2, h1, h2⟩ := pp_mask x1 x2 σ h hb
          rw [if_pos c14, e1, zb2_s, e2, zb2_s, if_pos rfl]
          exact I σ2 h1 h2
        rw [if_neg c14]
        by_cases c15 : v3 = (15 : Int32)
        · obtain ⟨r, σ1, σ2, e1, e2, h1, h2⟩ := pp_width x1 x2 σ h hb
          rw [if_pos c15, e1, zb2_s, e2, zb2_s, if_pos rfl]
          exact I σ2 h1 h2
        rw [if_neg c15]
        by_cases c16 : v3 = (16 : Int32)
        · obtain ⟨r, e1, e2⟩ := pp_together h x1
          rw [if_pos c16, e1, zb_s, e2, zb_s, if_pos rfl]
          exact I σ h hb
        rw [if_neg c16]
        by_cases c17 : v3 = (17 : Int32)
        · obtain ⟨r, e1, e2⟩ := pp_goes h x1 x2
          rw [if_pos c17, e1, zb_s, e2, zb_s, if_pos rfl]
          exact I σ h hb
        rw [if_neg c17]
        by_cases c18 : v3 = (18 : Int32)
        · obtain ⟨r, σ1, σ2, e1, e2, h1, h2⟩ := pp_rounds x1 x2 σ h hb
          rw [if_pos c18, e1, zb2_s, e2, zb2_s, if_pos rfl]
          exact I σ2 h1 h2
        rw [if_neg c18]
        by_cases c19 : v3 = (19 : Int32)
        · obtain ⟨r, σ1, σ2, e1, e2, h1, h2⟩ := pp_sliced x1 x2 x3 x4 σ h hb
          rw [if_pos c19, e1, zb2_s, e2, zb2_s, if_pos rfl]
          exact I σ2 h1 h2
        rw [if_neg c19]
        by_cases c20 : v3 = (20 : Int32)
        · obtain ⟨r, σ1, σ2, e1, e2, h1, h2⟩ := pp_scaled x1 x2 x3 x4 σ h hb
          rw [if_pos c20, e1, zb2_s, e2, zb2_s, if_pos (lg_self r)]
          exact I σ2 h1 h2
        rw [if_neg c20]
        by_cases c21 : v3 = (21 : Int32)
        · obtain ⟨r, σ1, σ2, e1, e2, h1, h2⟩ := pp_finest x1 x2 x3 x4 σ h hb
          rw [if_pos c21, e1, zb2_s, e2, zb2_s, if_pos rfl]
          exact I σ2 h1 h2
        rw [if_neg c21]
        by_cases c22 : v3 = (22 : Int32)
        · obtain ⟨r, σ1, σ2, e1, e2, h1, h2⟩ := pp_shows x1 x2 x3 x4 x5 σ h hb
          rw [if_pos c22, e1, zb2_s, e2, zb2_s, if_pos rfl]
          exact I σ2 h1 h2
        rw [if_neg c22]
        by_cases c23 : v3 = (23 : Int32)
        · obtain ⟨r, σ1, σ2, e1, e2, h1, h2⟩ := pp_samples x1 x2 x3 x4 x5 σ h hb
          rw [if_pos c23, e1, zb2_s, e2, zb2_s, if_pos rfl]
          exact I σ2 h1 h2
        rw [if_neg c23]
        by_cases c24 : v3 = (24 : Int32)
        · obtain ⟨r, σ1, σ2, e1, e2, h1, h2⟩ := pp_far x1 x2 x3 x4 x5 σ h hb
          rw [if_pos c24, e1, zb2_s, e2, zb2_s, if_pos (lg_self r)]
          exact I σ2 h1 h2
        rw [if_neg c24]
        by_cases c25 : v3 = (25 : Int32)
        · obtain ⟨r, σ1, σ2, e1, e2, h1, h2⟩ := pp_truest x1 x2 x3 x4 σ h hb
          rw [if_pos c25, e1, zb2_s, e2, zb2_s, if_pos rfl]
          exact I σ2 h1 h2
        rw [if_neg c25]
        by_cases c26 : v3 = (26 : Int32)
        · obtain ⟨r, σ1, e1, e2, h1, h2⟩ := pp_beats x1 x2 x3 x4 h hb
          rw [if_pos c26, e1, zb2_s, e2, zb_s, if_pos rfl]
          exact I σ1 h1 h2
        rw [if_neg c26]
        by_cases c27 : v3 = (27 : Int32)
        · obtain ⟨r, e1, e2⟩ := pp_over h x1 x2 x3 x4
          rw [if_pos c27, e1, zb_s, e2, zb_s, if_pos rfl]
          exact I σ h hb
        rw [if_neg c27]
        by_cases c28 : v3 = (28 : Int32)
        · obtain ⟨r, σ1, σ2, e1, e2, h1, h2⟩ := pp_looked x1 x2 x3 x4 σ h hb
          rw [if_pos c28, e1, zb2_s, e2, zb2_s, if_pos rfl]
          exact I σ2 h1 h2
        rw [if_neg c28]
        by_cases c29 : v3 = (29 : Int32)
        · obtain ⟨r, σ1, σ2, e1, e2, h1, h2⟩ := pp_seldom x1 x2 σ h hb
          rw [if_pos c29, e1, zb2_s, e2, zb2_s, if_pos rfl]
          exact I σ2 h1 h2
        rw [if_neg c29]
        by_cases c30 : v3 = (30 : Int32)
        · obtain ⟨r, σ1, σ2, e1, e2, h1, h2⟩ := pp_run x1 x2 x3 σ h hb
          rw [if_pos c30, e1, zb2_s, e2, zb2_s, if_pos rfl]
          exact I σ2 h1 h2
        rw [if_neg c30]
        by_cases c31 : v3 = (31 : Int32)
        · obtain ⟨r, σ1, σ2, e1, e2, h1, h2⟩ := pp_forget σ h hb
          rw [if_pos c31, e1, zb2_s, e2, zb2_s, if_pos rfl]
          exact I σ2 h1 h2
        rw [if_neg c31]
        by_cases c32 : v3 = (32 : Int32)
        · obtain ⟨r, σ1, e1, e2, h1, h2⟩ := pp_wired x1 x2 x3 h hb
          rw [if_pos c32, e1, zb2_s, e2, zb_s, if_pos rfl]
          exact I σ1 h1 h2
        rw [if_neg c32]
        by_cases c33 : v3 = (33 : Int32)
        · obtain ⟨r, σ1, σ2, e1, e2, h1, h2⟩ := pp_sheet x1 x2 x3 σ h hb
          rw [if_pos c33, e1, zb2_s, e2, zb2_s, if_pos rfl]
          exact I σ2 h1 h2
        rw [if_neg c33]
        by_cases c34 : v3 = (34 : Int32)
        · obtain ⟨r, σ1, σ2, e1, e2, h1, h2⟩ := pp_lay x1 x2 x3 σ h hb
          rw [if_pos c34, e1, zb2_s, e2, zb2_s, if_pos rfl]
          exact I σ2 h1 h2
        rw [if_neg c34]
        by_cases c35 : v3 = (35 : Int32)
        · obtain ⟨r, e1, e2⟩ := pp_said h x1 x2 x3 x4 x5
          rw [if_pos c35, e1, zb_s, e2, zb_s, if_pos rfl]
          exact I σ h hb
        rw [if_neg c35]
        by_cases c36 : v3 = (36 : Int32)
        · obtain ⟨r, e1, e2⟩ := pp_count h x1
          rw [if_pos c36, e1, zb_s, e2, zb_s, if_pos rfl]
          exact I σ h hb
        rw [if_neg c36]
        exact I σ h hb
theorem law_all (xs : Nat → Int32) {L : Nat} (hL : L ≤ 3072) {σ : zS} (h : zRel σ) (hb : rBank σ.1) : J_law xs L 0 σ = some 1 := by
  have := law_ (xs := xs) hL 513 0 4294967296 σ h hb (by omega) (by omega) (by omega) (by omega)
  exact this
