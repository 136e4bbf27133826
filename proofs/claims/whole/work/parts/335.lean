set_option maxRecDepth 8000
/-! ===== how many bits ===== -/
theorem tb31 {s e : Nat} (hs : s < 2147483648) (he : e < 31) : ((nI s >>> (nI e &&& 31)) &&& 1 : Int32) = nI (if s.testBit e then 1 else 0) := by
  have hsh : ((nI e &&& 31).toBitVec.smod 32).toNat = e := by
    have : ∀ e : Fin 31, ((nI e.val &&& 31).toBitVec.smod 32).toNat = e.val := by decide +kernel
    exact this ⟨e, he⟩
  have hd := Nat.div_le_self s (2 ^ e)
  rw [pk_shrN (by omega) _ e hsh, show (1 : Int32) = nI (2 ^ 1 - 1) from rfl, pk_andN (show s / 2 ^ e < 2 ^ 32 by omega) 1 rfl]
  congr 1
  rw [Nat.testBit, Nat.shiftRight_eq_div_pow, Nat.and_comm, Nat.and_one_is_mod]
  have : s / 2 ^ e % 2 < 2 := Nat.mod_lt _ (by omega)
  rcases Nat.lt_or_ge (s / 2 ^ e % 2) 1 with q | q
  · have q' : s / 2 ^ e % 2 = 0 := by omega
    simp [q']
  · have q' : s / 2 ^ e % 2 = 1 := by omega
    simp [q']
def pcn (s : Nat) : Nat → Nat := zsm fun i => if s.testBit i then 1 else 0
theorem co_ {s : Nat} (hs : s < 2147483648) : ∀ k i n, i + k = 16 → k < n → L_X11_countOf_4 (nI s) n (nI (pcn s i)) (nI i) = some (nI (pcn s 16)) := by
  intro k
  induction k with
  | zero =>
    intro i n h hn
    cases n with
    | zero => omega
    | succ n =>
      obtain rfl : i = 16 := by omega
      rw [L_X11_countOf_4]
      simp (disch := omega) only [zlet_eq, zg_t, zb_s, zb2_s, zl_0, zl_1, zl_2, zl_3, zl_4, zl_5, zl_6, zl_7, zl_8, zl_9, zl_10, zl_12, zl_16, zl_19, zl_20, zl_24, zl_31, zl_36, zl_39, zl_40, zl_48, zl_57, zl_63, zl_80, zl_97, zl_99, zl_100, zl_122, zl_128, zl_160, zl_199, zl_200, zl_255, zl_256, zl_320, zl_999, zl_6000, zl_6001, zl_9999, zl_999999, zq_0, zq_1, zq_2, zq_3, zq_4, zq_5, zq_7, zq_9, zq_10, zq_16, zq_17, zq_20, zq_48, zq_57, zq_97, zq_100, zq_122, zq_255, zq_999, zq_6000, zq_9999, zq_999999, nI_add, pk_mul, z_le_t, z_le_f, z_lt_t, z_lt_f, z_eq_t, z_eq_f, zcla, zi_nI, ↓reduceIte, z_ng, z_ngb, z_ngl, z_ngt, zI_y, zI_n, zI_2, zL_1, zL_2, nI_l, inN_t, inN_f, z_or0, lc_le_t, lc_le_f, lc_lt_t, lc_lt_f, lc_ge_t, lc_ge_f, lc_gt_t, lc_gt_f, lc_eq_t, lc_eq_f, z_ngle, lN_i, lN_add, lN_mul]
  | succ k ih =>
    intro i n h hn
    cases n with
    | zero => omega
    | succ n =>
      have q := ih (i + 1) n (by omega) (by omega)
      have u : pcn s (i + 1) = pcn s i + (if s.testBit i then 1 else 0) := rfl
      have b : ((nI s >>> (nI i &&& nI 31)) &&& nI 1 : Int32) = nI (if s.testBit i then 1 else 0) := tb31 hs (by omega)
      rw [u] at q
      rw [L_X11_countOf_4]
      simp (disch := omega) only [zlet_eq, zg_t, zb_s, zb2_s, zl_0, zl_1, zl_2, zl_3, zl_4, zl_5, zl_6, zl_7, zl_8, zl_9, zl_10, zl_12, zl_16, zl_19, zl_20, zl_24, zl_31, zl_36, zl_39, zl_40, zl_48, zl_57, zl_63, zl_80, zl_97, zl_99, zl_100, zl_122, zl_128, zl_160, zl_199, zl_200, zl_255, zl_256, zl_320, zl_999, zl_6000, zl_6001, zl_9999, zl_999999, zq_0, zq_1, zq_2, zq_3, zq_4, zq_5, zq_7, zq_9, zq_10, zq_16, zq_17, zq_20, zq_48, zq_57, zq_97, zq_100, zq_122, zq_255, zq_999, zq_6000, zq_9999, zq_999999, nI_add, pk_mul, z_le_t, z_le_f, z_lt_t, z_lt_f, z_eq_t, z_eq_f, zcla, zi_nI, ↓reduceIte, z_ng, z_ngb, z_ngl, z_ngt, zI_y, zI_n, zI_2, zL_1, zL_2, nI_l, inN_t, inN_f, z_or0, lc_le_t, lc_le_f, lc_lt_t, lc_lt_f, lc_ge_t, lc_ge_f, lc_gt_t, lc_gt_f, lc_eq_t, lc_eq_f, z_ngle, lN_i, lN_add, lN_mul, b]
      exact q
theorem cof {s : Nat} {σ : zS} (hs : s < 2147483648) : J_X11_countOf (nI s) σ = some (nI (pcn s 16)) :=
  co_ hs 16 0 4294967296 (by omega) (by omega)
theorem bco {s : Nat} {σ : zS} (hs : s < 256) : J_J6_bitCount_0f7a4 (nI s) σ = some (nI (pcn s 16)) := by
  have : ∀ s : Fin 256, J_J6_bitCount_0f7a4 (nI s.val) (fun _ _ => 0, fun _ _ => 0, fun _ _ => 0) = some (nI (pcn s.val 16)) := by decide +kernel
  exact this ⟨s, hs⟩
theorem pcn_le (s : Nat) : ∀ k, pcn s k ≤ k := by
  intro k
  induction k with
  | zero => exact Nat.le_refl _
  | succ k ih =>
    have u : pcn s (k + 1) = pcn s k + (if s.testBit k then 1 else 0) := rfl
    rw [u]
    split <;> omega
/-! ===== wired ===== -/
def zR2 (σ : zS) (a b : Int32) (i : Nat) : Prop := σ.1 93 i = a ∧ σ.1 94 i = b
theorem iso_y {σ : zS} {a b : Int32} {i : Nat} (hi : i < 12) (h : zR2 σ a b i) : J_X5_isOf (nI i) a b σ = some 1 := by
  unfold J_X5_isOf
  simp (disch := omega) only [zi_nI, zg_t, zcla, h.1, h.2, ↓reduceIte]
theorem iso_n {σ : zS} {a b : Int32} {i : Nat} (hi : i < 12) (h : ¬ zR2 σ a b i) : J_X5_isOf (nI i) a b σ = some 0 := by
  unfold J_X5_isOf
  by_cases h1 : σ.1 93 i = a
  · have h2 : ¬ σ.1 94 i = b := fun q => h ⟨h1, q⟩
    simp (disch := omega) only [zi_nI, zg_t, zcla, h1, h2, ↓reduceIte]
  · simp (disch := omega) only [zi_nI, zg_t, zcla, h1, ↓reduceIte]
theorem ho_ {σ : zS} {a b : Int32} {N : Nat} (hN : N ≤ 12) (h0 : σ.1 92 0 = nI N) : ∀ k i n, i + k = N → k < n → ((∃ j, i ≤ j ∧ j < N ∧ zR2 σ a b j) → L_X5_hasOneOf_2 a b σ n (nI i) = some 1) ∧ ((∀ j, i ≤ j → j < N → ¬ zR2 σ a b j) → L_X5_hasOneOf_2 a b σ n (nI i) = some 0) := by
  intro k
  induction k with
  | zero =>
    intro i n h hn
    cases n with
    | zero => omega
    | succ n =>
      refine ⟨fun ⟨j, h1, h2, _⟩ => absurd h1 (by omega), fun _ => ?_⟩
      rw [L_X5_hasOneOf_2]
      simp (disch := omega) only [zlet_eq, zg_t, zb_s, zb2_s, zl_0, zl_1, zl_2, zl_3, zl_4, zl_5, zl_6, zl_7, zl_8, zl_9, zl_10, zl_12, zl_16, zl_19, zl_20, zl_24, zl_31, zl_36, zl_39, zl_40, zl_48, zl_57, zl_63, zl_80, zl_97, zl_99, zl_100, zl_122, zl_128, zl_160, zl_199, zl_200, zl_255, zl_256, zl_320, zl_999, zl_6000, zl_6001, zl_9999, zl_999999, zq_0, zq_1, zq_2, zq_3, zq_4, zq_5, zq_7, zq_9, zq_10, zq_16, zq_17, zq_20, zq_48, zq_57, zq_97, zq_100, zq_122, zq_255, zq_999, zq_6000, zq_9999, zq_999999, nI_add, pk_mul, z_le_t, z_le_f, z_lt_t, z_lt_f, z_eq_t, z_eq_f, zcla, zi_nI, ↓reduceIte, z_ng, z_ngb, z_ngl, z_ngt, zI_y, zI_n, zI_2, zL_1, zL_2, nI_l, inN_t, inN_f, z_or0, lc_le_t, lc_le_f, lc_lt_t, lc_lt_f, lc_ge_t, lc_ge_f, lc_gt_t, lc_gt_f, lc_eq_t, lc_eq_f, z_ngle, lN_i, lN_add, lN_mul, h0]
  | succ k ih =>
    intro i n h hn
    cases n with
    | zero => omega
    | succ n =>
      obtain ⟨q1, q2⟩ := ih (i + 1) n (by omega) (by omega)
      rw [L_X5_hasOneOf_2]
      have t3 : ¬ nI N ≤ nI i := nI_ge (by omega) (by omega)
      have t4 : nI i + 1 = nI (i + 1) := nI_add i 1
      by_cases hr : zR2 σ a b i
      · have e := iso_y (σ := σ) (show i < 12 by omega) hr
        refine ⟨fun _ => ?_, fun f => absurd hr (f i (Nat.le_refl _) (by omega))⟩
        simp only [zlet_eq, zg_t, zb_s, zb2_s, z10_eq, eq_self, ↓reduceIte, h0, t3, e]
      · have e := iso_n (σ := σ) (show i < 12 by omega) hr
        refine ⟨fun ⟨j, h1, h2, h3⟩ => ?_, fun f => ?_⟩
        · have : i ≠ j := fun q => hr (by rw [q]; exact h3)
          have := q1 ⟨j, by omega, h2, h3⟩
          simp only [zlet_eq, zg_t, zb_s, zb2_s, z10_eq, eq_self, ↓reduceIte, h0, t3, e, t4]
          exact this
        · have := q2 fun j h1 h2 => f j (by omega) h2
          simp only [zlet_eq, zg_t, zb_s, zb2_s, z10_eq, eq_self, ↓reduceIte, h0, t3, e, t4]
          exact this
theorem al_ {σ : zS} {a b T : Int32} {N : Nat} (hN : N ≤ 12) (h0 : σ.1 92 0 = nI N) : ∀ k i n, i + k = N → k < n → ((∃ j, i ≤ j ∧ j < N ∧ zR2 σ a b j ∧ ¬ σ.1 95 j = T) → L_X5_allShowed_3 a b T σ n (nI i) = some 0) ∧ ((∀ j, i ≤ j → j < N → zR2 σ a b j → σ.1 95 j = T) → L_X5_allShowed_3 a b T σ n (nI i) = some 1) := by
  intro k
  induction k with
  | zero =>
    intro i n h hn
    cases n with
    | zero => omega
    | succ n =>
      refine ⟨fun ⟨j, h1, h2, _⟩ => absurd h1 (by omega), fun _ => ?_⟩
      rw [L_X5_allShowed_3]
      simp (disch := omega) only [zlet_eq, zg_t, zb_s, zb2_s, zl_0, zl_1, zl_2, zl_3, zl_4, zl_5, zl_6, zl_7, zl_8, zl_9, zl_10, zl_12, zl_16, zl_19, zl_20, zl_24, zl_31, zl_36, zl_39, zl_40, zl_48, zl_57, zl_63, zl_80, zl_97, zl_99, zl_100, zl_122, zl_128, zl_160, zl_199, zl_200, zl_255, zl_256, zl_320, zl_999, zl_6000, zl_6001, zl_9999, zl_999999, zq_0, zq_1, zq_2, zq_3, zq_4, zq_5, zq_7, zq_9, zq_10, zq_16, zq_17, zq_20, zq_48, zq_57, zq_97, zq_100, zq_122, zq_255, zq_999, zq_6000, zq_9999, zq_999999, nI_add, pk_mul, z_le_t, z_le_f, z_lt_t, z_lt_f, z_eq_t, z_eq_f, zcla, zi_nI, ↓reduceIte, z_ng, z_ngb, z_ngl, z_ngt, zI_y, zI_n, zI_2, zL_1, zL_2, nI_l, inN_t, inN_f, z_or0, lc_le_t, lc_le_f, lc_lt_t, lc_lt_f, lc_ge_t, lc_ge_f, lc_gt_t, lc_gt_f, lc_eq_t, lc_eq_f, z_ngle, lN_i, lN_add, lN_mul, h0]
  | succ k ih =>
    intro i n h hn
    cases n with
    | zero => omega
    | succ n =>
      obtain ⟨q1, q2⟩ := ih (i + 1) n (by omega) (by omega)
      rw [L_X5_allShowed_3]
      have t3 : ¬ nI N ≤ nI i := nI_ge (by omega) (by omega)
      have t4 : nI i + 1 = nI (i + 1) := nI_add i 1
      have t1 : zi (nI i) 12 = true := zi_nI (by omega) (by omega)
      have t2 : (nI i).toNatClampNeg = i := zcla (by omega)
      by_cases hr : zR2 σ a b i
      · have e := iso_y (σ := σ) (show i < 12 by omega) hr
        by_cases hs : σ.1 95 i = T
        · have hs' : (σ.1 95 i = T) = True := eq_true hs
          refine ⟨fun ⟨j, h1, h2, h3, h4⟩ => ?_, fun f => ?_⟩
          · have : i ≠ j := fun q => h4 (by rw [← q]; exact hs)
            have := q1 ⟨j, by omega, h2, h3, h4⟩
            simp only [zlet_eq, zg_t, zb_s, zb2_s, z10_eq, eq_self, ↓reduceIte, h0, t3, e, t4, t1, t2, hs']
            exact this
          · have := q2 fun j h1 h2 => f j (by omega) h2
            simp only [zlet_eq, zg_t, zb_s, zb2_s, z10_eq, eq_self, ↓reduceIte, h0, t3, e, t4, t1, t2, hs']
            exact this
        · refine ⟨fun _ => ?_, fun f => absurd (f i (Nat.le_refl _) (by omega) hr) hs⟩
          simp only [zlet_eq, zg_t, zb_s, zb2_s, z10_eq, eq_self, ↓reduceIte, h0, t3, e, t1, t2, hs]
      · have e := iso_n (σ := σ) (show i < 12 by omega) hr
        refine ⟨fun ⟨j, h1, h2, h3, h4⟩ => ?_, fun f => ?_⟩
        · have : i ≠ j := fun q => hr (by rw [q]; exact h3)
          have := q1 ⟨j, by omega, h2, h3, h4⟩
          simp only [zlet_eq, zg_t, zb_s, zb2_s, z10_eq, eq_self, ↓reduceIte, h0, t3, e, t4]
          exact this
        · have := q2 fun j h1 h2 => f j (by omega) h2
          simp only [zlet_eq, zg_t, zb_s, zb2_s, z10_eq, eq_self, ↓reduceIte, h0, t3, e, t4]
          exact this
/-- the reference's rows of the same runs -/
def zR3 (σ : zS) (a b : Int32) (i : Nat) : Prop := σ.1 131 i = a ∧ σ.1 132 i = b
theorem hr_ {σ : zS} {a b : Int32} {N : Nat} (hN : N ≤ 12) (h0 : σ.1 105 49 = nI N) : ∀ k i n, i + k = N → k < n → L_X11_hasRun_5 a b σ n 1 (nI i) = some 1 ∧ ((∃ j, i ≤ j ∧ j < N ∧ zR3 σ a b j) → L_X11_hasRun_5 a b σ n 0 (nI i) = some 1) ∧ ((∀ j, i ≤ j → j < N → ¬ zR3 σ a b j) → L_X11_hasRun_5 a b σ n 0 (nI i) = some 0) := by
  intro k
  induction k with
  | zero =>
    intro i n h hn
    cases n with
    | zero => omega
    | succ n =>
      have t3 : nI N ≤ nI i := nI_le (by omega) (by omega)
      refine ⟨?_, fun ⟨j, h1, h2, _⟩ => absurd h1 (by omega), fun _ => ?_⟩
      · rw [L_X11_hasRun_5]
        simp only [zlet_eq, zg_t, zb_s, zb2_s, z10_eq, eq_self, ↓reduceIte, h0, t3, zbl_1]
      · rw [L_X11_hasRun_5]
        simp only [zlet_eq, zg_t, zb_s, zb2_s, z10_eq, eq_self, ↓reduceIte, h0, t3, zbl_0]
  | succ k ih =>
    intro i n h hn
    cases n with
    | zero => omega
    | succ n =>
      obtain ⟨q0, q1, q2⟩ := ih (i + 1) n (by omega) (by omega)
      have t3 : ¬ nI N ≤ nI i := nI_ge (by omega) (by omega)
      have t4 : nI i + 1 = nI (i + 1) := nI_add i 1
      have t1 : zi (nI i) 12 = true := zi_nI (by omega) (by omega)
      have t2 : (nI i).toNatClampNeg = i := zcla (by omega)
      refine ⟨?_, ?_⟩
      · rw [L_X11_hasRun_5]
        simp only [zlet_eq, zg_t, zb_s, zb2_s, z10_eq, eq_self, ↓reduceIte, h0, t3, D_X11_hasRun_40, t4]
        exact q0
      · rw [L_X11_hasRun_5]
        by_cases h1 : σ.1 131 i = a
        · have h1' : (σ.1 131 i = a) = True := eq_true h1
          by_cases h2 : σ.1 132 i = b
          · have h2' : (σ.1 132 i = b) = True := eq_true h2
            refine ⟨fun _ => ?_, fun f => absurd ⟨h1, h2⟩ (f i (Nat.le_refl _) (by omega))⟩
            simp only [zlet_eq, zg_t, zb_s, zb2_s, z10_eq, eq_self, ↓reduceIte, h0, t3, D_X11_hasRun_40, t4, t1, t2, h1', h2']
            exact q0
          · refine ⟨fun ⟨j, g1, g2, g3⟩ => ?_, fun f => ?_⟩
            · have : i ≠ j := fun q => h2 (by rw [q]; exact g3.2)
              have := q1 ⟨j, by omega, g2, g3⟩
              simp only [zlet_eq, zg_t, zb_s, zb2_s, z10_eq, eq_self, ↓reduceIte, h0, t3, t4, t1, t2, h1', h2]
              exact this
            · have := q2 fun j h1 h2 => f j (by omega) h2
              simp only [zlet_eq, zg_t, zb_s, zb2_s, z10_eq, eq_self, ↓reduceIte, h0, t3, t4, t1, t2, h1', h2]
              exact this
        · refine ⟨fun ⟨j, g1, g2, g3⟩ => ?_, fun f => ?_⟩
          · have : i ≠ j := fun q => h1 (by rw [q]; exact g3.1)
            have := q1 ⟨j, by omega, g2, g3⟩
            simp only [zlet_eq, zg_t, zb_s, zb2_s, z10_eq, eq_self, ↓reduceIte, h0, t3, t4, t1, t2, h1]
            exact this
          · have := q2 fun j h1 h2 => f j (by omega) h2
            simp only [zlet_eq, zg_t, zb_s, zb2_s, z10_eq, eq_self, ↓reduceIte, h0, t3, t4, t1, t2, h1]
            exact this
theorem fi_ {σ : zS} {a b T : Int32} {N : Nat} (hN : N ≤ 12) (h0 : σ.1 105 49 = nI N) : ∀ k i n, i + k = N → k < n → L_X11_fits_50 a b σ T n 0 (nI i) = some 0 ∧ ((∃ j, i ≤ j ∧ j < N ∧ zR3 σ a b j ∧ ¬ σ.1 133 j = T) → L_X11_fits_50 a b σ T n 1 (nI i) = some 0) ∧ ((∀ j, i ≤ j → j < N → zR3 σ a b j → σ.1 133 j = T) → L_X11_fits_50 a b σ T n 1 (nI i) = some 1) := by
  intro k
  induction k with
  | zero =>
    intro i n h hn
    cases n with
    | zero => omega
    | succ n =>
      have t3 : nI N ≤ nI i := nI_le (by omega) (by omega)
      refine ⟨?_, fun ⟨j, h1, h2, _⟩ => absurd h1 (by omega), fun _ => ?_⟩
      · rw [L_X11_fits_50]
        simp only [zlet_eq, zg_t, zb_s, zb2_s, z10_eq, eq_self, ↓reduceIte, h0, t3, zbl_0]
      · rw [L_X11_fits_50]
        simp only [zlet_eq, zg_t, zb_s, zb2_s, z10_eq, eq_self, ↓reduceIte, h0, t3, zbl_1]
  | succ k ih =>
    intro i n h hn
    cases n with
    | zero => omega
    | succ n =>
      obtain ⟨q0, q1, q2⟩ := ih (i + 1) n (by omega) (by omega)
      have t3 : ¬ nI N ≤ nI i := nI_ge (by omega) (by omega)
      have t4 : nI i + 1 = nI (i + 1) := nI_add i 1
      have t1 : zi (nI i) 12 = true := zi_nI (by omega) (by omega)
      have t2 : (nI i).toNatClampNeg = i := zcla (by omega)
      refine ⟨?_, ?_⟩
      · rw [L_X11_fits_50]
        simp only [zlet_eq, zg_t, zb_s, zb2_s, z10_eq, eq_self, ↓reduceIte, h0, t3, t4]
        exact q0
      · rw [L_X11_fits_50]
        by_cases hr : zR3 σ a b i
        · have h1' : (σ.1 131 i = a) = True := eq_true hr.1
          have h2' : (σ.1 132 i = b) = True := eq_true hr.2
          by_cases hs : σ.1 133 i = T
          · have hs' : (σ.1 133 i = T) = True := eq_true hs
            refine ⟨fun ⟨j, g1, g2, g3, g4⟩ => ?_, fun f => ?_⟩
            · have : i ≠ j := fun q => g4 (by rw [← q]; exact hs)
              have := q1 ⟨j, by omega, g2, g3, g4⟩
              simp only [zlet_eq, zg_t, zb_s, zb2_s, z10_eq, eq_self, ↓reduceIte, h0, t3, D_X11_fits_98, t4, t1, t2, h1', h2', hs']
              exact this
            · have := q2 fun j h1 h2 => f j (by omega) h2
              simp only [zlet_eq, zg_t, zb_s, zb2_s, z10_eq, eq_self, ↓reduceIte, h0, t3, D_X11_fits_98, t4, t1, t2, h1', h2', hs']
              exact this
          · refine ⟨fun _ => ?_, fun f => absurd (f i (Nat.le_refl _) (by omega) hr) hs⟩
            simp only [zlet_eq, zg_t, zb_s, zb2_s, z10_eq, eq_self, ↓reduceIte, h0, t3, t4, t1, t2, h1', h2', hs]
            exact q0
        · have go : L_X11_fits_50 a b σ T n 1 (nI (i + 1)) = (zlet (L_X11_fits_50 a b σ T n) fun r_50 => if (σ.1 105 49) ≤ nI i then (zg (zbl 1) (some (1 : Int32))) else (if (1 : Int32) = (0 : Int32) then (zlet (nI i + (1 : Int32)) fun v4 => r_50 (0 : Int32) v4) else (zg (zi (nI i) 12) (zlet (D_X11_fits_98 r_50 (nI i)) fun k98 => if (σ.1 131 (nI i).toNatClampNeg) = a then (zg (zi (nI i) 12) (if (σ.1 132 (nI i).toNatClampNeg) = b then (zg (zi (nI i) 12) (if (σ.1 133 (nI i).toNatClampNeg) = T then (k98) else (zlet (nI i + (1 : Int32)) fun v12 => r_50 (0 : Int32) v12))) else (k98))) else (k98))))) := by
            by_cases h1 : σ.1 131 i = a
            · have h1' : (σ.1 131 i = a) = True := eq_true h1
              have h2 : ¬ σ.1 132 i = b := fun q => hr ⟨h1, q⟩
              simp only [zlet_eq, zg_t, zb_s, zb2_s, z10_eq, eq_self, ↓reduceIte, h0, t3, D_X11_fits_98, t4, t1, t2, h1', h2]
            · simp only [zlet_eq, zg_t, zb_s, zb2_s, z10_eq, eq_self, ↓reduceIte, h0, t3, D_X11_fits_98, t4, t1, t2, h1]
          rw [← go]
          refine ⟨fun ⟨j, g1, g2, g3, g4⟩ => ?_, fun f => ?_⟩
          · have : i ≠ j := fun q => hr (by rw [q]; exact g3)
            exact q1 ⟨j, by omega, g2, g3, g4⟩
          · exact q2 fun j h1 h2 => f j (by omega) h2
