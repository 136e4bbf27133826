set_option maxRecDepth 8000
/-! ===== looks ===== -/
theorem zsim_c {σ σ' : zS} {p : Nat} {P : zM} (s : zsim σ σ') (hp : p = 3 ∨ p = 33) (w : wPr P) (c : cPr σ.1 p P) : cPr σ'.1 p P :=
  cPr_c (I := σ.1) (fun c i hc => s.1 c i (by simp only [zscr]; omega) (by simp only [zbk]; omega)) w c
theorem zsim_m {σ σ' : zS} {P : zM} (s : zsim σ σ') (c : mPr σ.1 P) : mPr σ'.1 P :=
  mPr_c (I := σ.1) (fun c i hc => s.1 c i (by simp only [zscr]; omega) (by simp only [zbk]; omega)) c
theorem in_c {x y z : Int64} {σ σ' : zS} : J_X11_in x y z σ' = J_X11_in x y z σ := rfl
theorem canCount_c {a b : Int32} {σ σ' : zS} (h1 : σ'.1 105 36 = σ.1 105 36) (h2 : ∀ j, σ'.1 125 j = σ.1 125 j) : J_X11_canCount a b σ' = J_X11_canCount a b σ := by
  unfold J_X11_canCount J_X11_isCounter J_X11_isEvent
  rw [h1]
  simp only [h2]
  rfl
def zge (P : zM) (e i : Nat) : Nat := zpev P (zplo P i) e
theorem zge_le {P : zM} (w : wPr P) {e i : Nat} (he : e < 8) (hi : i < zps P) : zge P e i ≤ 99 := by
  obtain ⟨w1, w2, w3, w4, w5, w6, w7⟩ := w
  exact (w4 _ (w6 i hi)).2.2.2.2.1 e he
theorem tt_le {P : zM} (w : wPr P) : ∀ i, i ≤ zps P → zptt P i ≤ 20 * i := by
  obtain ⟨w1, w2, w3, w4, w5, w6, w7, w8, w9⟩ := w
  intro i
  induction i with
  | zero => intro _; rw [w7]; omega
  | succ i ih =>
    intro h
    have := ih (by omega)
    have t := (w4 _ (w6 i (by omega))).2.1
    rw [w8 i (by omega)]
    omega
theorem tt_mono {P : zM} (w : wPr P) {i j : Nat} (h : i ≤ j) (hj : j ≤ zps P) : zptt P i ≤ zptt P j := by
  obtain ⟨w1, w2, w3, w4, w5, w6, w7, w8, w9⟩ := w
  induction j with
  | zero => rw [Nat.le_zero.mp h]; exact Nat.le_refl _
  | succ j ih =>
    by_cases e : i = j + 1
    · rw [e]; exact Nat.le_refl _
    · have := ih (by omega) (by omega)
      rw [w8 j (by omega)]
      omega
theorem slc_ {p : Nat} {P : zM} {σ : zS} {i s : Nat} (c : cPr σ.1 p P) (w : wPr P) (hi : i ≤ zps P) (h1 : 1 ≤ s) (hs : s < 2147483648) : J_X3_sliceOf p (nI i) (nI s) σ = some (nI (zptt P i / s)) := by
  have t := tt_le w i hi
  have w3 := w.2.2.1
  have dv := pk_div (a := zptt P i) (d := s) (by omega) (by omega) (by omega)
  obtain ⟨c1, c2, c3, c4, c5, c6, c7⟩ := c
  unfold J_X3_sliceOf
  simp (disch := omega) only [zlet_eq, zg_t, zb_s, zb2_s, zl_0, zl_1, zl_2, zl_3, zl_4, zl_5, zl_6, zl_7, zl_8, zl_9, zl_10, zl_12, zl_16, zl_19, zl_20, zl_24, zl_31, zl_36, zl_39, zl_40, zl_48, zl_57, zl_63, zl_80, zl_97, zl_99, zl_100, zl_122, zl_128, zl_160, zl_199, zl_200, zl_255, zl_256, zl_320, zl_999, zl_6000, zl_6001, zl_9999, zl_999999, zq_0, zq_1, zq_2, zq_3, zq_4, zq_5, zq_7, zq_9, zq_10, zq_16, zq_17, zq_20, zq_48, zq_57, zq_97, zq_100, zq_122, zq_255, zq_999, zq_6000, zq_9999, zq_999999, nI_add, pk_mul, z_le_t, z_le_f, z_lt_t, z_lt_f, z_eq_t, z_eq_f, zcla, zi_nI, ↓reduceIte, z_ng, z_ngb, z_ngl, z_ngt, zI_y, zI_n, zI_2, zL_1, zL_2, nI_l, inN_t, inN_f, z_or0, lc_le_t, lc_le_f, lc_lt_t, lc_lt_f, lc_ge_t, lc_ge_f, lc_gt_t, lc_gt_f, lc_eq_t, lc_eq_f, z_ngle, lN_i, lN_add, lN_mul, c7, zn_nI, dv]
def zlk (P : zM) (e s W : Nat) : Nat → Nat × Nat × Nat
  | 0 => (0, 0, 0)
  | i + 1 => if i = 0 ∨ zptt P i / s = zptt P (i - 1) / s then ((zlk P e s W i).1 + zge P e i, (zlk P e s W i).2.1, (zlk P e s W i).2.2) else (zge P e i, (zlk P e s W i).2.1 + (zlk P e s W i).1 % W, (zlk P e s W i).2.2 + 1)
theorem zlk_b {P : zM} (w : wPr P) {e s W : Nat} (he : e < 8) : ∀ i, i ≤ zps P → (zlk P e s W i).1 + (zlk P e s W i).2.1 ≤ 99 * i ∧ (zlk P e s W i).2.2 ≤ i := by
  intro i
  induction i with
  | zero => intro _; exact ⟨Nat.le_refl _, Nat.le_refl _⟩
  | succ i ih =>
    intro h
    obtain ⟨i1, i2⟩ := ih (by omega)
    have g := zge_le w he (show i < zps P by omega)
    have m := Nat.mod_le (zlk P e s W i).1 W
    rw [zlk]
    split
    · exact ⟨by show (zlk P e s W i).1 + zge P e i + (zlk P e s W i).2.1 ≤ _; omega, by show (zlk P e s W i).2.2 ≤ _; omega⟩
    · exact ⟨by show zge P e i + ((zlk P e s W i).2.1 + (zlk P e s W i).1 % W) ≤ _; omega, by show (zlk P e s W i).2.2 + 1 ≤ _; omega⟩
theorem and_w {x w : Nat} (hx : x < 2147483648) (h2 : w ≤ 16) : nI x &&& nI (2 ^ w - 1) = nI (x % 2 ^ w) := by
  have := pow_le h2
  exact pk_andN (by omega) w (pk_tn (by omega))
theorem lk10 {p : Nat} {P : zM} (hp : p = 3 ∨ p = 33) (w : wPr P) {e s ww : Nat} (he : e < 8) (h1 : 1 ≤ s) (hs : s < 2147483648) (hw : ww ≤ 16) (K : Int32 → zS → Option zS) : ∀ k i n σ, i + k = zps P → k < n → cPr σ.1 p P → σ.1 91 0 = nI (zlk P e s (2 ^ ww) i).2.1 → σ.1 91 1 = nI (zlk P e s (2 ^ ww) i).2.2 → ∃ σ', L_X2_take_19 p (nI e) (nI s) (nI (2 ^ ww - 1)) K n (nI (if i = 0 then 0 else zptt P (i - 1) / s)) (nI (zlk P e s (2 ^ ww) i).1) (nI i) σ = K (nI (zlk P e s (2 ^ ww) (zps P)).1) σ' ∧ σ'.2.2 = σ.2.2 ∧ (∀ c j, ¬ (c = 91 ∧ j < 2) → σ'.1 c j = σ.1 c j) ∧ σ'.1 91 0 = nI (zlk P e s (2 ^ ww) (zps P)).2.1 ∧ σ'.1 91 1 = nI (zlk P e s (2 ^ ww) (zps P)).2.2 := by
  intro k
  induction k with
  | zero =>
    intro i n σ h hn c h3 h4
    cases n with
    | zero => omega
    | succ n =>
      obtain rfl : i = zps P := by omega
      have w3 := w.2.2.1
      have c3 := c.2.2.1
      rw [L_X2_take_19]
      exact ⟨σ, by simp (disch := omega) only [zlet_eq, zg_t, zb_s, zb2_s, zl_0, zl_1, zl_2, zl_3, zl_4, zl_5, zl_6, zl_7, zl_8, zl_9, zl_10, zl_12, zl_16, zl_19, zl_20, zl_24, zl_31, zl_36, zl_39, zl_40, zl_48, zl_57, zl_63, zl_80, zl_97, zl_99, zl_100, zl_122, zl_128, zl_160, zl_199, zl_200, zl_255, zl_256, zl_320, zl_999, zl_6000, zl_6001, zl_9999, zl_999999, zq_0, zq_1, zq_2, zq_3, zq_4, zq_5, zq_7, zq_9, zq_10, zq_16, zq_17, zq_20, zq_48, zq_57, zq_97, zq_100, zq_122, zq_255, zq_999, zq_6000, zq_9999, zq_999999, nI_add, pk_mul, z_le_t, z_le_f, z_lt_t, z_lt_f, z_eq_t, z_eq_f, zcla, zi_nI, ↓reduceIte, z_ng, z_ngb, z_ngl, z_ngt, zI_y, zI_n, zI_2, zL_1, zL_2, nI_l, inN_t, inN_f, z_or0, lc_le_t, lc_le_f, lc_lt_t, lc_lt_f, lc_ge_t, lc_ge_f, lc_gt_t, lc_gt_f, lc_eq_t, lc_eq_f, z_ngle, lN_i, lN_add, lN_mul, c3], rfl, fun _ _ _ => rfl, h3, h4⟩
  | succ k ih =>
    intro i n σ h hn c h3 h4
    cases n with
    | zero => omega
    | succ n =>
      have sl := slc_ c w (show i ≤ zps P by omega) h1 hs
      have w3 := w.2.2.1
      have w1 := w.1
      have w6 := w.2.2.2.2.2.1 i (by omega)
      have c' := c
      obtain ⟨c1, c2, c3, c4, c5, c6, c7⟩ := c
      obtain ⟨b1, b2⟩ := zlk_b w (s := s) (W := 2 ^ ww) he i (by omega)
      have tl := tt_le w i (by omega)
      have dl := Nat.div_le_self (zptt P i) s
      have tl2 := tt_le w (i - 1) (by omega)
      have dl2 := Nat.div_le_self (zptt P (i - 1)) s
      have gl := zge_le w he (show i < zps P by omega)
      rw [L_X2_take_19]
      by_cases hsm : i = 0 ∨ zptt P i / s = zptt P (i - 1) / s
      · have cur : (if i = 0 then 0 else zptt P (i - 1) / s) = zptt P i / s := by
          by_cases h0 : i = 0
          · subst h0
            rw [w.2.2.2.2.2.2.1, Nat.zero_div]; rfl
          · rw [if_neg h0]
            rcases hsm with x | x
            · exact absurd x h0
            · exact x.symm
        have ez : zlk P e s (2 ^ ww) (i + 1) = ((zlk P e s (2 ^ ww) i).1 + zge P e i, (zlk P e s (2 ^ ww) i).2.1, (zlk P e s (2 ^ ww) i).2.2) := if_pos hsm
        obtain ⟨σ', q1, q2, q3, q4, q5⟩ := ih (i + 1) n σ (by omega) (by omega) c' (by rw [ez]; exact h3) (by rw [ez]; exact h4)
        refine ⟨σ', ?_, q2, q3, q4, q5⟩
        rw [ez, if_neg (by omega), Nat.add_sub_cancel] at q1
        rw [cur]
        simp (disch := omega) only [zlet_eq, zg_t, zb_s, zb2_s, zl_0, zl_1, zl_2, zl_3, zl_4, zl_5, zl_6, zl_7, zl_8, zl_9, zl_10, zl_12, zl_16, zl_19, zl_20, zl_24, zl_31, zl_36, zl_39, zl_40, zl_48, zl_57, zl_63, zl_80, zl_97, zl_99, zl_100, zl_122, zl_128, zl_160, zl_199, zl_200, zl_255, zl_256, zl_320, zl_999, zl_6000, zl_6001, zl_9999, zl_999999, zq_0, zq_1, zq_2, zq_3, zq_4, zq_5, zq_7, zq_9, zq_10, zq_16, zq_17, zq_20, zq_48, zq_57, zq_97, zq_100, zq_122, zq_255, zq_999, zq_6000, zq_9999, zq_999999, nI_add, pk_mul, z_le_t, z_le_f, z_lt_t, z_lt_f, z_eq_t, z_eq_f, zcla, zi_nI, ↓reduceIte, z_ng, z_ngb, z_ngl, z_ngt, zI_y, zI_n, zI_2, zL_1, zL_2, nI_l, inN_t, inN_f, z_or0, lc_le_t, lc_le_f, lc_lt_t, lc_lt_f, lc_ge_t, lc_ge_f, lc_gt_t, lc_gt_f, lc_eq_t, lc_eq_f, z_ngle, lN_i, lN_add, lN_mul, c3, sl, D_X2_take_75, c6, c4]
        exact q1
      · have cur : (if i = 0 then 0 else zptt P (i - 1) / s) = zptt P (i - 1) / s := if_neg (by omega)
        have ez : zlk P e s (2 ^ ww) (i + 1) = (zge P e i, (zlk P e s (2 ^ ww) i).2.1 + (zlk P e s (2 ^ ww) i).1 % 2 ^ ww, (zlk P e s (2 ^ ww) i).2.2 + 1) := if_neg hsm
        obtain ⟨σ', q1, q2, q3, q4, q5⟩ := ih (i + 1) n (zsI (zsI σ 91 0 (nI ((zlk P e s (2 ^ ww) i).2.1 + (zlk P e s (2 ^ ww) i).1 % 2 ^ ww))) 91 1 (nI ((zlk P e s (2 ^ ww) i).2.2 + 1))) (by omega) (by omega) (cPr_c (I := σ.1) (fun c i hc => by rw [zI_n (by omega), zI_n (by omega)]) w c') (by rw [ez, zI_n (by omega), zI_y]) (by rw [ez, zI_y])
        refine ⟨σ', ?_, q2, ?_, q4, q5⟩
        · rw [ez, if_neg (by omega), Nat.add_sub_cancel] at q1
          rw [cur]
          have aw := and_w (x := (zlk P e s (2 ^ ww) i).1) (by omega) hw
          simp (disch := omega) only [zlet_eq, zg_t, zb_s, zb2_s, zl_0, zl_1, zl_2, zl_3, zl_4, zl_5, zl_6, zl_7, zl_8, zl_9, zl_10, zl_12, zl_16, zl_19, zl_20, zl_24, zl_31, zl_36, zl_39, zl_40, zl_48, zl_57, zl_63, zl_80, zl_97, zl_99, zl_100, zl_122, zl_128, zl_160, zl_199, zl_200, zl_255, zl_256, zl_320, zl_999, zl_6000, zl_6001, zl_9999, zl_999999, zq_0, zq_1, zq_2, zq_3, zq_4, zq_5, zq_7, zq_9, zq_10, zq_16, zq_17, zq_20, zq_48, zq_57, zq_97, zq_100, zq_122, zq_255, zq_999, zq_6000, zq_9999, zq_999999, nI_add, pk_mul, z_le_t, z_le_f, z_lt_t, z_lt_f, z_eq_t, z_eq_f, zcla, zi_nI, ↓reduceIte, z_ng, z_ngb, z_ngl, z_ngt, zI_y, zI_n, zI_2, zL_1, zL_2, nI_l, inN_t, inN_f, z_or0, lc_le_t, lc_le_f, lc_lt_t, lc_lt_f, lc_ge_t, lc_ge_f, lc_gt_t, lc_gt_f, lc_eq_t, lc_eq_f, z_ngle, lN_i, lN_add, lN_mul, c3, sl, D_X2_take_75, c6, c4, aw, h3, h4]
          rw [Nat.zero_add]
          exact q1
        · intro c j hc
          rw [q3 c j hc, zI_n (by omega), zI_n (by omega)]
theorem lkt10 {p : Nat} {P : zM} {σ : zS} (hp : p = 3 ∨ p = 33) (w : wPr P) {e s ww : Nat} (he : e < 8) (h1 : 1 ≤ s) (hs : s < 2147483648) (hw : ww ≤ 16) (c : cPr σ.1 p P) : ∃ σ', J_X2_take p (nI e) (nI s) (nI (2 ^ ww - 1)) σ = some σ' ∧ zsim σ σ' ∧ σ'.2.2 = σ.2.2 ∧ σ'.1 91 0 = nI ((zlk P e s (2 ^ ww) (zps P)).2.1 + (zlk P e s (2 ^ ww) (zps P)).1 % 2 ^ ww) ∧ σ'.1 91 1 = nI ((zlk P e s (2 ^ ww) (zps P)).2.2 + 1) ∧ ∀ c j, ¬ (c = 91 ∧ j < 2) → σ'.1 c j = σ.1 c j := by
  have w3 := w.2.2.1
  obtain ⟨σ1, a1, a2, a3, a4, a5⟩ := lk10 hp w he h1 hs hw (D_X2_take_100 (nI (2 ^ ww - 1))) (zps P) 0 4294967296 (zsI (zsI σ 91 0 (nI 0)) 91 1 (nI 0)) (by omega) (by omega) (cPr_c (I := σ.1) (fun c i hc => by rw [zI_n (by omega), zI_n (by omega)]) w c) (by rw [zI_n (by omega), zI_y]; rfl) (by rw [zI_y]; rfl)
  obtain ⟨b1, b2⟩ := zlk_b w (s := s) (W := 2 ^ ww) he (zps P) (Nat.le_refl _)
  have aw := and_w (x := (zlk P e s (2 ^ ww) (zps P)).1) (by omega) hw
  have ff : ∀ c j, ¬ (c = 91 ∧ j < 2) → (zsI (zsI σ1 91 0 (nI ((zlk P e s (2 ^ ww) (zps P)).2.1 + (zlk P e s (2 ^ ww) (zps P)).1 % 2 ^ ww))) 91 1 (nI ((zlk P e s (2 ^ ww) (zps P)).2.2 + 1))).1 c j = σ.1 c j := by
    intro c j h
    rw [zI_n (by omega), zI_n (by omega), a3 c j h, zI_n (by omega), zI_n (by omega)]
  refine ⟨zsI (zsI σ1 91 0 (nI ((zlk P e s (2 ^ ww) (zps P)).2.1 + (zlk P e s (2 ^ ww) (zps P)).1 % 2 ^ ww))) 91 1 (nI ((zlk P e s (2 ^ ww) (zps P)).2.2 + 1)), ?_, ⟨fun c j h1 h2 => ff c j (by simp only [zscr] at h1; omega), ?_⟩, ?_, ?_, ?_, ff⟩
  · unfold J_X2_take
    rw [zlet_eq, zlet_eq, zlet_eq]
    refine a1.trans ?_
    unfold D_X2_take_100
    simp (disch := omega) only [zlet_eq, zg_t, zb_s, zb2_s, zl_0, zl_1, zl_2, zl_3, zl_4, zl_5, zl_6, zl_7, zl_8, zl_9, zl_10, zl_12, zl_16, zl_19, zl_20, zl_24, zl_31, zl_36, zl_39, zl_40, zl_48, zl_57, zl_63, zl_80, zl_97, zl_99, zl_100, zl_122, zl_128, zl_160, zl_199, zl_200, zl_255, zl_256, zl_320, zl_999, zl_6000, zl_6001, zl_9999, zl_999999, zq_0, zq_1, zq_2, zq_3, zq_4, zq_5, zq_7, zq_9, zq_10, zq_16, zq_17, zq_20, zq_48, zq_57, zq_97, zq_100, zq_122, zq_255, zq_999, zq_6000, zq_9999, zq_999999, nI_add, pk_mul, z_le_t, z_le_f, z_lt_t, z_lt_f, z_eq_t, z_eq_f, zcla, zi_nI, ↓reduceIte, z_ng, z_ngb, z_ngl, z_ngt, zI_y, zI_n, zI_2, zL_1, zL_2, nI_l, inN_t, inN_f, z_or0, lc_le_t, lc_le_f, lc_lt_t, lc_lt_f, lc_ge_t, lc_ge_f, lc_gt_t, lc_gt_f, lc_eq_t, lc_eq_f, z_ngle, lN_i, lN_add, lN_mul, aw, a4, a5]
  · exact a2
  · exact a2
  · rw [zI_n (by omega), zI_y]
  · rw [zI_y]
theorem tb11 {P : zM} (w : wPr P) {e s ww : Nat} (he : e < 8) (h1 : 1 ≤ s) (hs : s < 2147483648) (hw : ww ≤ 16) (K : Int32 → Int32 → zS → Option (Int32 × zS)) : ∀ k i n σ, i + k = zps P → k < n → mPr σ.1 P → σ.1 105 48 = nI (1 + (zlk P e s (2 ^ ww) i).2.2) → ∃ σ', L_X11_toldBy_30 (nI e) (nI s) (nI (2 ^ ww)) K n (nI (zptt P i)) (nI (zptt P (i - 1))) (nI (zlk P e s (2 ^ ww) i).1) (nI (zlk P e s (2 ^ ww) i).2.1) (nI i) σ = K (nI (zlk P e s (2 ^ ww) (zps P)).1) (nI (zlk P e s (2 ^ ww) (zps P)).2.1) σ' ∧ σ'.2.2 = σ.2.2 ∧ (∀ c j, ¬ (c = 105 ∧ j = 48) → σ'.1 c j = σ.1 c j) ∧ σ'.1 105 48 = nI (1 + (zlk P e s (2 ^ ww) (zps P)).2.2) := by
  intro k
  induction k with
  | zero =>
    intro i n σ h hn c h3
    cases n with
    | zero => omega
    | succ n =>
      obtain rfl : i = zps P := by omega
      have w3 := w.2.2.1
      have c3 := c.2.2.1
      rw [L_X11_toldBy_30]
      exact ⟨σ, by simp (disch := omega) only [zlet_eq, zg_t, zb_s, zb2_s, zl_0, zl_1, zl_2, zl_3, zl_4, zl_5, zl_6, zl_7, zl_8, zl_9, zl_10, zl_12, zl_16, zl_19, zl_20, zl_24, zl_31, zl_36, zl_39, zl_40, zl_48, zl_57, zl_63, zl_80, zl_97, zl_99, zl_100, zl_122, zl_128, zl_160, zl_199, zl_200, zl_255, zl_256, zl_320, zl_999, zl_6000, zl_6001, zl_9999, zl_999999, zq_0, zq_1, zq_2, zq_3, zq_4, zq_5, zq_7, zq_9, zq_10, zq_16, zq_17, zq_20, zq_48, zq_57, zq_97, zq_100, zq_122, zq_255, zq_999, zq_6000, zq_9999, zq_999999, nI_add, pk_mul, z_le_t, z_le_f, z_lt_t, z_lt_f, z_eq_t, z_eq_f, zcla, zi_nI, ↓reduceIte, z_ng, z_ngb, z_ngl, z_ngt, zI_y, zI_n, zI_2, zL_1, zL_2, nI_l, inN_t, inN_f, z_or0, lc_le_t, lc_le_f, lc_lt_t, lc_lt_f, lc_ge_t, lc_ge_f, lc_gt_t, lc_gt_f, lc_eq_t, lc_eq_f, z_ngle, lN_i, lN_add, lN_mul, c3], rfl, fun _ _ _ => rfl, h3⟩
  | succ k ih =>
    intro i n σ h hn c h3
    cases n with
    | zero => omega
    | succ n =>
      have w3 := w.2.2.1
      have w1 := w.1
      have w6 := w.2.2.2.2.2.1 i (by omega)
      have w8 := w.2.2.2.2.2.2.2.1 i (by omega)
      have c' := c
      have pw := pow_le hw
      obtain ⟨b1, b2⟩ := zlk_b w (s := s) (W := 2 ^ ww) he i (by omega)
      have tl := tt_le w i (by omega)
      have dl := Nat.div_le_self (zptt P i) s
      have tl2 := tt_le w (i - 1) (by omega)
      have dl2 := Nat.div_le_self (zptt P (i - 1)) s
      have gl := zge_le w he (show i < zps P by omega)
      have d1 := pk_div (a := zptt P i) (d := s) (by omega) (by omega) (by omega)
      have d2 := pk_div (a := zptt P (i - 1)) (d := s) (by omega) (by omega) (by omega)
      rw [L_X11_toldBy_30]
      have e0 := fun σ (m : mPr σ.1 P) => made11 (σ := σ) (i := zplo P i) (e := e) m w1 w6 he
      by_cases hsm : i = 0 ∨ zptt P i / s = zptt P (i - 1) / s
      · have ez : zlk P e s (2 ^ ww) (i + 1) = ((zlk P e s (2 ^ ww) i).1 + zge P e i, (zlk P e s (2 ^ ww) i).2.1, (zlk P e s (2 ^ ww) i).2.2) := if_pos hsm
        obtain ⟨σ', q1, q2, q3, q4⟩ := ih (i + 1) n σ (by omega) (by omega) c' (by rw [ez]; exact h3)
        refine ⟨σ', ?_, q2, q3, q4⟩
        rw [ez, w8, Nat.add_sub_cancel] at q1
        have e1 := e0 σ c'
        obtain ⟨c1, c2, c3, c4, c5, c6, c7⟩ := c
        by_cases h0 : i = 0
        · simp (disch := omega) only [zlet_eq, zg_t, zb_s, zb2_s, zl_0, zl_1, zl_2, zl_3, zl_4, zl_5, zl_6, zl_7, zl_8, zl_9, zl_10, zl_12, zl_16, zl_19, zl_20, zl_24, zl_31, zl_36, zl_39, zl_40, zl_48, zl_57, zl_63, zl_80, zl_97, zl_99, zl_100, zl_122, zl_128, zl_160, zl_199, zl_200, zl_255, zl_256, zl_320, zl_999, zl_6000, zl_6001, zl_9999, zl_999999, zq_0, zq_1, zq_2, zq_3, zq_4, zq_5, zq_7, zq_9, zq_10, zq_16, zq_17, zq_20, zq_48, zq_57, zq_97, zq_100, zq_122, zq_255, zq_999, zq_6000, zq_9999, zq_999999, nI_add, pk_mul, z_le_t, z_le_f, z_lt_t, z_lt_f, z_eq_t, z_eq_f, zcla, zi_nI, ↓reduceIte, z_ng, z_ngb, z_ngl, z_ngt, zI_y, zI_n, zI_2, zL_1, zL_2, nI_l, inN_t, inN_f, z_or0, lc_le_t, lc_le_f, lc_lt_t, lc_lt_f, lc_ge_t, lc_ge_f, lc_gt_t, lc_gt_f, lc_eq_t, lc_eq_f, z_ngle, lN_i, lN_add, lN_mul, c3, D_X11_toldBy_78, c7, e1, c5]
          exact q1
        · have hsm' : zptt P i / s = zptt P (i - 1) / s := by
            rcases hsm with x | x
            · exact absurd x h0
            · exact x
          simp (disch := omega) only [zlet_eq, zg_t, zb_s, zb2_s, zl_0, zl_1, zl_2, zl_3, zl_4, zl_5, zl_6, zl_7, zl_8, zl_9, zl_10, zl_12, zl_16, zl_19, zl_20, zl_24, zl_31, zl_36, zl_39, zl_40, zl_48, zl_57, zl_63, zl_80, zl_97, zl_99, zl_100, zl_122, zl_128, zl_160, zl_199, zl_200, zl_255, zl_256, zl_320, zl_999, zl_6000, zl_6001, zl_9999, zl_999999, zq_0, zq_1, zq_2, zq_3, zq_4, zq_5, zq_7, zq_9, zq_10, zq_16, zq_17, zq_20, zq_48, zq_57, zq_97, zq_100, zq_122, zq_255, zq_999, zq_6000, zq_9999, zq_999999, nI_add, pk_mul, z_le_t, z_le_f, z_lt_t, z_lt_f, z_eq_t, z_eq_f, zcla, zi_nI, ↓reduceIte, z_ng, z_ngb, z_ngl, z_ngt, zI_y, zI_n, zI_2, zL_1, zL_2, nI_l, inN_t, inN_f, z_or0, lc_le_t, lc_le_f, lc_lt_t, lc_lt_f, lc_ge_t, lc_ge_f, lc_gt_t, lc_gt_f, lc_eq_t, lc_eq_f, z_ngle, lN_i, lN_add, lN_mul, c3, zn_nI, d1, d2, D_X11_toldBy_78, c7, e1, c5]
          exact q1
      · have ez : zlk P e s (2 ^ ww) (i + 1) = (zge P e i, (zlk P e s (2 ^ ww) i).2.1 + (zlk P e s (2 ^ ww) i).1 % 2 ^ ww, (zlk P e s (2 ^ ww) i).2.2 + 1) := if_neg hsm
        have m1 : mPr (zsI σ 105 48 (nI (1 + (zlk P e s (2 ^ ww) i).2.2 + 1))).1 P := mPr_c (I := σ.1) (fun c i hc => by rw [zI_n (by omega)]) c'
        obtain ⟨σ', q1, q2, q3, q4⟩ := ih (i + 1) n (zsI σ 105 48 (nI (1 + (zlk P e s (2 ^ ww) i).2.2 + 1))) (by omega) (by omega) m1 (by rw [ez, zI_y, Nat.add_assoc])
        refine ⟨σ', ?_, q2, ?_, q4⟩
        · rw [ez, w8, Nat.add_sub_cancel] at q1
          have e1 := e0 _ m1
          have rr := pk_rem (a := (zlk P e s (2 ^ ww) i).1) (d := 2 ^ ww) (by omega) (by omega) (by omega)
          obtain ⟨c1, c2, c3, c4, c5, c6, c7⟩ := c
          simp (disch := omega) only [zlet_eq, zg_t, zb_s, zb2_s, zl_0, zl_1, zl_2, zl_3, zl_4, zl_5, zl_6, zl_7, zl_8, zl_9, zl_10, zl_12, zl_16, zl_19, zl_20, zl_24, zl_31, zl_36, zl_39, zl_40, zl_48, zl_57, zl_63, zl_80, zl_97, zl_99, zl_100, zl_122, zl_128, zl_160, zl_199, zl_200, zl_255, zl_256, zl_320, zl_999, zl_6000, zl_6001, zl_9999, zl_999999, zq_0, zq_1, zq_2, zq_3, zq_4, zq_5, zq_7, zq_9, zq_10, zq_16, zq_17, zq_20, zq_48, zq_57, zq_97, zq_100, zq_122, zq_255, zq_999, zq_6000, zq_9999, zq_999999, nI_add, pk_mul, z_le_t, z_le_f, z_lt_t, z_lt_f, z_eq_t, z_eq_f, zcla, zi_nI, ↓reduceIte, z_ng, z_ngb, z_ngl, z_ngt, zI_y, zI_n, zI_2, zL_1, zL_2, nI_l, inN_t, inN_f, z_or0, lc_le_t, lc_le_f, lc_lt_t, lc_lt_f, lc_ge_t, lc_ge_f, lc_gt_t, lc_gt_f, lc_eq_t, lc_eq_f, z_ngle, lN_i, lN_add, lN_mul, c3, h3, zn_nI, d1, d2, rr, D_X11_toldBy_78, c7, e1, c5]
          rw [Nat.zero_add]
          exact q1
        · intro c j hc
          rw [q3 c j hc, zI_n (by omega)]
theorem tbt11 {P : zM} {σ : zS} (w : wPr P) {j e s ww : Nat} (hj : j < 4) (he : e < 8) (h1 : 1 ≤ s) (hs : s < 2147483648) (hw2 : 2 ≤ ww) (hw : ww ≤ 16) (c : mPr σ.1 P) (h126 : σ.1 126 j = nI ww) : ∃ σ', J_X11_toldBy (nI j) (nI e) (nI s) σ = some (nI ((zlk P e s (2 ^ ww) (zps P)).2.1 + (zlk P e s (2 ^ ww) (zps P)).1 % 2 ^ ww), σ') ∧ zsim σ σ' ∧ (∀ c j, ¬ (c = 105 ∧ j = 48) → σ'.1 c j = σ.1 c j) ∧ σ'.1 105 48 = nI ((zlk P e s (2 ^ ww) (zps P)).2.2 + 1) := by
  have w3 := w.2.2.1
  have pw := pow_le hw
  obtain ⟨b1, b2⟩ := zlk_b w (s := s) (W := 2 ^ ww) he (zps P) (Nat.le_refl _)
  obtain ⟨σ1, a1, a2, a3, a4⟩ := tb11 w he h1 hs hw (D_X11_toldBy_122 (nI (2 ^ ww))) (zps P) 0 4294967296 (zsI σ 105 48 (nI 1)) (by omega) (by omega) (mPr_c (I := σ.1) (fun c i hc => by rw [zI_n (by omega)]) c) (by rw [zI_y]; rfl)
  have ff : ∀ c j, ¬ (c = 105 ∧ j = 48) → σ1.1 c j = σ.1 c j := by
    intro c j h
    rw [a3 c j h, zI_n h]
  refine ⟨σ1, ?_, ⟨fun c j h1 h2 => ff c j (by simp only [zscr] at h1; omega), a2⟩, ff, by rw [a4, Nat.add_comm]⟩
  unfold J_X11_toldBy
  have g := great_ hw2 hw
  have t0 : zptt P 0 = 0 := w.2.2.2.2.2.2.1
  rw [zi_nI (by omega) (by omega), zg_t, zlet_eq, zlet_eq, zlet_eq, zcla (by omega), h126, g]
  rw [Nat.zero_sub, t0] at a1
  refine a1.trans ?_
  have rr := pk_rem (a := (zlk P e s (2 ^ ww) (zps P)).1) (d := 2 ^ ww) (by omega) (by omega) (by omega)
  unfold D_X11_toldBy_122
  simp (disch := omega) only [zn_nI, rr, nI_add]
