set_option maxRecDepth 8000
/-! ===== loops ===== -/
theorem wi_ {P : zM} {σ : zS} (m : mPr σ.1 P) (w : wPr P) {q : Nat} (hq : q < zpq P) : ∀ f k n b, f ≤ 41 → k ≤ f → k ≤ zpq P → f < n → L_X11_isWithin_5 (nI q) σ n (nI (if b then 1 else 0)) (zco k) = some (nI (if (b || zwi (zpou P) q f k) = true then 1 else 0)) := by
  obtain ⟨m1, m2, m3, m4, m5, m6, m7⟩ := m
  obtain ⟨w1, w2, w3, w4, w5, w6⟩ := w
  intro f
  induction f with
  | zero =>
    intro k n b hf hk hq2 hn
    obtain rfl : k = 0 := by omega
    cases n with
    | zero => omega
    | succ n =>
      rw [L_X11_isWithin_5]
      cases b <;> rfl
  | succ f ih =>
    intro k n b hf hk hq2 hn
    cases n with
    | zero => omega
    | succ n =>
      rw [L_X11_isWithin_5]
      by_cases h0 : k = 0
      · subst h0
        cases b <;> rfl
      · have e1 : zco k = nI (k - 1) := if_neg h0
        have e2 := (w5 (k - 1) (by omega)).2.2.1
        have q1 := ih (zpou P (k - 1)) n (b || k == q + 1) (by omega) (by omega) (by omega) (by omega)
        have e3 : zwi (zpou P) q (f + 1) k = (k == q + 1 || zwi (zpou P) q f (zpou P (k - 1))) := if_neg h0
        rw [e3, ← Bool.or_assoc, ← q1, e1]
        cases b
        · by_cases hkq : k = q + 1
          · have : (k == q + 1) = true := by simp [hkq]
            simp (disch := omega) only [zlet_eq, zg_t, zb_s, zb2_s, zl_0, zl_1, zl_2, zl_3, zl_4, zl_5, zl_6, zl_7, zl_8, zl_9, zl_10, zl_12, zl_16, zl_19, zl_20, zl_24, zl_31, zl_36, zl_39, zl_40, zl_48, zl_57, zl_63, zl_80, zl_97, zl_99, zl_100, zl_122, zl_128, zl_160, zl_199, zl_200, zl_255, zl_256, zl_320, zl_999, zl_6000, zl_6001, zl_9999, zl_999999, zq_0, zq_1, zq_2, zq_3, zq_4, zq_5, zq_7, zq_9, zq_10, zq_16, zq_17, zq_20, zq_48, zq_57, zq_97, zq_100, zq_122, zq_255, zq_999, zq_6000, zq_9999, zq_999999, nI_add, pk_mul, z_le_t, z_le_f, z_lt_t, z_lt_f, z_eq_t, z_eq_f, zcla, zi_nI, ↓reduceIte, z_ng, z_ngb, z_ngl, z_ngt, zI_y, zI_n, zI_2, zL_1, zL_2, nI_l, inN_t, inN_f, z_or0, lc_le_t, lc_le_f, lc_lt_t, lc_lt_f, lc_ge_t, lc_ge_f, lc_gt_t, lc_gt_f, lc_eq_t, lc_eq_f, z_ngle, lN_i, lN_add, lN_mul, m6, this, Bool.false_or, Bool.or_true, Bool.or_false, if_false, Bool.false_eq_true]
          · have : (k == q + 1) = false := by simp [hkq]
            simp (disch := omega) only [zlet_eq, zg_t, zb_s, zb2_s, zl_0, zl_1, zl_2, zl_3, zl_4, zl_5, zl_6, zl_7, zl_8, zl_9, zl_10, zl_12, zl_16, zl_19, zl_20, zl_24, zl_31, zl_36, zl_39, zl_40, zl_48, zl_57, zl_63, zl_80, zl_97, zl_99, zl_100, zl_122, zl_128, zl_160, zl_199, zl_200, zl_255, zl_256, zl_320, zl_999, zl_6000, zl_6001, zl_9999, zl_999999, zq_0, zq_1, zq_2, zq_3, zq_4, zq_5, zq_7, zq_9, zq_10, zq_16, zq_17, zq_20, zq_48, zq_57, zq_97, zq_100, zq_122, zq_255, zq_999, zq_6000, zq_9999, zq_999999, nI_add, pk_mul, z_le_t, z_le_f, z_lt_t, z_lt_f, z_eq_t, z_eq_f, zcla, zi_nI, ↓reduceIte, z_ng, z_ngb, z_ngl, z_ngt, zI_y, zI_n, zI_2, zL_1, zL_2, nI_l, inN_t, inN_f, z_or0, lc_le_t, lc_le_f, lc_lt_t, lc_lt_f, lc_ge_t, lc_ge_f, lc_gt_t, lc_gt_f, lc_eq_t, lc_eq_f, z_ngle, lN_i, lN_add, lN_mul, m6, this, Bool.false_or, Bool.or_false, if_false, Bool.false_eq_true]
        · simp (disch := omega) only [zlet_eq, zg_t, zb_s, zb2_s, zl_0, zl_1, zl_2, zl_3, zl_4, zl_5, zl_6, zl_7, zl_8, zl_9, zl_10, zl_12, zl_16, zl_19, zl_20, zl_24, zl_31, zl_36, zl_39, zl_40, zl_48, zl_57, zl_63, zl_80, zl_97, zl_99, zl_100, zl_122, zl_128, zl_160, zl_199, zl_200, zl_255, zl_256, zl_320, zl_999, zl_6000, zl_6001, zl_9999, zl_999999, zq_0, zq_1, zq_2, zq_3, zq_4, zq_5, zq_7, zq_9, zq_10, zq_16, zq_17, zq_20, zq_48, zq_57, zq_97, zq_100, zq_122, zq_255, zq_999, zq_6000, zq_9999, zq_999999, nI_add, pk_mul, z_le_t, z_le_f, z_lt_t, z_lt_f, z_eq_t, z_eq_f, zcla, zi_nI, ↓reduceIte, z_ng, z_ngb, z_ngl, z_ngt, zI_y, zI_n, zI_2, zL_1, zL_2, nI_l, inN_t, inN_f, z_or0, lc_le_t, lc_le_f, lc_lt_t, lc_lt_f, lc_ge_t, lc_ge_f, lc_gt_t, lc_gt_f, lc_eq_t, lc_eq_f, z_ngle, lN_i, lN_add, lN_mul, m6, Bool.true_or]
theorem wi11 {P : zM} {σ : zS} (m : mPr σ.1 P) (w : wPr P) {q k : Nat} (hq : q < zpq P) (hk : k ≤ zpq P) : J_X11_isWithin (zco k) (nI q) σ = some (nI (if zwi (zpou P) q 41 k = true then 1 else 0)) := by
  have := wi_ m w hq 41 k 4294967296 false (by omega) (by have := w.2.1; omega) hk (by omega)
  rw [Bool.false_or] at this
  exact this
def ivl (a b l : Nat) : Bool := decide (a ≤ l) && decide (l < b)
theorem li_ {P : zM} {σ : zS} (m : mPr σ.1 P) (w : wPr P) {q : Nat} (hq : q < zpq P) : ∀ k l n, l + k = zpn P → k < n → L_X11_linesIn_4 (nI q) σ n (bO (ivl (zpfi P q) (zpbe P q)) l) (nI l) = some (bO (ivl (zpfi P q) (zpbe P q)) (zpn P)) := by
  intro k
  have w1 := w.1
  have m' := m
  obtain ⟨m1, m2, m3, m4, m5, m6, m7⟩ := m
  induction k with
  | zero =>
    intro l n h hn
    cases n with
    | zero => omega
    | succ n =>
      obtain rfl : l = zpn P := by omega
      rw [L_X11_linesIn_4]
      simp (disch := omega) only [zlet_eq, zg_t, zb_s, zb2_s, zl_0, zl_1, zl_2, zl_3, zl_4, zl_5, zl_6, zl_7, zl_8, zl_9, zl_10, zl_12, zl_16, zl_19, zl_20, zl_24, zl_31, zl_36, zl_39, zl_40, zl_48, zl_57, zl_63, zl_80, zl_97, zl_99, zl_100, zl_122, zl_128, zl_160, zl_199, zl_200, zl_255, zl_256, zl_320, zl_999, zl_6000, zl_6001, zl_9999, zl_999999, zq_0, zq_1, zq_2, zq_3, zq_4, zq_5, zq_7, zq_9, zq_10, zq_16, zq_17, zq_20, zq_48, zq_57, zq_97, zq_100, zq_122, zq_255, zq_999, zq_6000, zq_9999, zq_999999, nI_add, pk_mul, z_le_t, z_le_f, z_lt_t, z_lt_f, z_eq_t, z_eq_f, zcla, zi_nI, ↓reduceIte, z_ng, z_ngb, z_ngl, z_ngt, zI_y, zI_n, zI_2, zL_1, zL_2, nI_l, inN_t, inN_f, z_or0, lc_le_t, lc_le_f, lc_lt_t, lc_lt_f, lc_ge_t, lc_ge_f, lc_gt_t, lc_gt_f, lc_eq_t, lc_eq_f, z_ngle, lN_i, lN_add, lN_mul, m1]
  | succ k ih =>
    intro l n h hn
    cases n with
    | zero => omega
    | succ n =>
      have q1 := ih (l + 1) n (by omega) (by omega)
      have w4 := w.2.2.2.1 l (by omega)
      have e1 := wi11 m' w hq w4.2.2.2.1
      rw [L_X11_linesIn_4]
      rw [bO] at q1
      by_cases hi : ivl (zpfi P q) (zpbe P q) l = true
      · have e2 : zwi (zpou P) q 41 (zpar P l) = true := (w4.2.2.2.2.2.2.2 q hq).mpr (by simpa [ivl] using hi)
        rw [if_pos hi] at q1
        rw [e2, if_pos rfl] at e1
        simp (disch := omega) only [zlet_eq, zg_t, zb_s, zb2_s, zl_0, zl_1, zl_2, zl_3, zl_4, zl_5, zl_6, zl_7, zl_8, zl_9, zl_10, zl_12, zl_16, zl_19, zl_20, zl_24, zl_31, zl_36, zl_39, zl_40, zl_48, zl_57, zl_63, zl_80, zl_97, zl_99, zl_100, zl_122, zl_128, zl_160, zl_199, zl_200, zl_255, zl_256, zl_320, zl_999, zl_6000, zl_6001, zl_9999, zl_999999, zq_0, zq_1, zq_2, zq_3, zq_4, zq_5, zq_7, zq_9, zq_10, zq_16, zq_17, zq_20, zq_48, zq_57, zq_97, zq_100, zq_122, zq_255, zq_999, zq_6000, zq_9999, zq_999999, nI_add, pk_mul, z_le_t, z_le_f, z_lt_t, z_lt_f, z_eq_t, z_eq_f, zcla, zi_nI, ↓reduceIte, z_ng, z_ngb, z_ngl, z_ngt, zI_y, zI_n, zI_2, zL_1, zL_2, nI_l, inN_t, inN_f, z_or0, lc_le_t, lc_le_f, lc_lt_t, lc_lt_f, lc_ge_t, lc_ge_f, lc_gt_t, lc_gt_f, lc_eq_t, lc_eq_f, z_ngle, lN_i, lN_add, lN_mul, m1, m5, e1]
        exact q1
      · have e2 : ¬ zwi (zpou P) q 41 (zpar P l) = true := fun x => hi (by simpa [ivl] using (w4.2.2.2.2.2.2.2 q hq).mp x)
        rw [if_neg hi] at q1
        rw [if_neg e2] at e1
        simp (disch := omega) only [zlet_eq, zg_t, zb_s, zb2_s, zl_0, zl_1, zl_2, zl_3, zl_4, zl_5, zl_6, zl_7, zl_8, zl_9, zl_10, zl_12, zl_16, zl_19, zl_20, zl_24, zl_31, zl_36, zl_39, zl_40, zl_48, zl_57, zl_63, zl_80, zl_97, zl_99, zl_100, zl_122, zl_128, zl_160, zl_199, zl_200, zl_255, zl_256, zl_320, zl_999, zl_6000, zl_6001, zl_9999, zl_999999, zq_0, zq_1, zq_2, zq_3, zq_4, zq_5, zq_7, zq_9, zq_10, zq_16, zq_17, zq_20, zq_48, zq_57, zq_97, zq_100, zq_122, zq_255, zq_999, zq_6000, zq_9999, zq_999999, nI_add, pk_mul, z_le_t, z_le_f, z_lt_t, z_lt_f, z_eq_t, z_eq_f, zcla, zi_nI, ↓reduceIte, z_ng, z_ngb, z_ngl, z_ngt, zI_y, zI_n, zI_2, zL_1, zL_2, nI_l, inN_t, inN_f, z_or0, lc_le_t, lc_le_f, lc_lt_t, lc_lt_f, lc_ge_t, lc_ge_f, lc_gt_t, lc_gt_f, lc_eq_t, lc_eq_f, z_ngle, lN_i, lN_add, lN_mul, m1, m5, e1]
        exact q1
theorem li11 {P : zM} {σ : zS} (m : mPr σ.1 P) (w : wPr P) {q : Nat} (hq : q < zpq P) : J_X11_linesIn (nI q) σ = some (bO (ivl (zpfi P q) (zpbe P q)) (zpn P)) :=
  li_ m w hq (zpn P) 0 4294967296 (by omega) (by have := w.1; omega)
theorem bo_dec : ∀ a b n : Fin 17, a.val ≤ b.val → b.val ≤ n.val → bO (ivl a.val b.val) n.val = (1 <<< (nI b.val &&& 31)) - (1 <<< (nI a.val &&& 31)) := by decide +kernel
theorem bo_bit : ∀ a b : Fin 17, a.val ≤ b.val → ∀ l : Fin 16, ((((1 <<< (nI b.val &&& 31)) - (1 <<< (nI a.val &&& 31)) : Int32) >>> (nI l.val &&& 31)) &&& 1 : Int32) = nI (if ivl a.val b.val l.val = true then 1 else 0) := by decide +kernel
theorem mask_eq {a b n : Nat} (h1 : a ≤ b) (h2 : b ≤ n) (h3 : n ≤ 16) : bO (ivl a b) n = (1 <<< (nI b &&& 31)) - (1 <<< (nI a &&& 31)) := bo_dec ⟨a, by omega⟩ ⟨b, by omega⟩ ⟨n, by omega⟩ h1 h2
theorem mask_bit {a b n l : Nat} (h1 : a ≤ b) (h2 : b ≤ n) (h3 : n ≤ 16) (hl : l < 16) : ((bO (ivl a b) n >>> (nI l &&& 31)) &&& 1 : Int32) = nI (if ivl a b l = true then 1 else 0) := by
  rw [mask_eq h1 h2 h3]
  exact bo_bit ⟨a, by omega⟩ ⟨b, by omega⟩ h1 ⟨l, hl⟩
theorem pr_ {P : zM} {σ : zS} (m : mPr σ.1 P) (w : wPr P) (K : Int32 → Option Int32) : ∀ f k n acc, f ≤ 41 → k ≤ f → k ≤ zpq P → f < n → L_X11_loop_40 σ K n (nI acc) (zco k) = K (nI (acc * zpr (zpou P) (zpte P) f k)) := by
  obtain ⟨m1, m2, m3, m4, m5, m6, m7⟩ := m
  obtain ⟨w1, w2, w3, w4, w5, w6⟩ := w
  intro f
  induction f with
  | zero =>
    intro k n acc hf hk hq hn
    obtain rfl : k = 0 := by omega
    cases n with
    | zero => omega
    | succ n =>
      rw [L_X11_loop_40]
      have e0 : zpr (zpou P) (zpte P) 0 0 = 1 := rfl
      rw [e0, Nat.mul_one]
      rfl
  | succ f ih =>
    intro k n acc hf hk hq hn
    cases n with
    | zero => omega
    | succ n =>
      rw [L_X11_loop_40]
      by_cases h0 : k = 0
      · subst h0
        have e0 : zpr (zpou P) (zpte P) (f + 1) 0 = 1 := rfl
        rw [e0, Nat.mul_one]
        rfl
      · have e1 : zco k = nI (k - 1) := if_neg h0
        have e2 := (w5 (k - 1) (by omega)).2.2.1
        have q := ih (zpou P (k - 1)) n (acc * zpte P (k - 1)) (by omega) (by omega) (by omega) (by omega)
        have e3 : zpr (zpou P) (zpte P) (f + 1) k = zpte P (k - 1) * zpr (zpou P) (zpte P) f (zpou P (k - 1)) := if_neg h0
        rw [e1]
        simp (disch := omega) only [zlet_eq, zg_t, zb_s, zb2_s, zl_0, zl_1, zl_2, zl_3, zl_4, zl_5, zl_6, zl_7, zl_8, zl_9, zl_10, zl_12, zl_16, zl_19, zl_20, zl_24, zl_31, zl_36, zl_39, zl_40, zl_48, zl_57, zl_63, zl_80, zl_97, zl_99, zl_100, zl_122, zl_128, zl_160, zl_199, zl_200, zl_255, zl_256, zl_320, zl_999, zl_6000, zl_6001, zl_9999, zl_999999, zq_0, zq_1, zq_2, zq_3, zq_4, zq_5, zq_7, zq_9, zq_10, zq_16, zq_17, zq_20, zq_48, zq_57, zq_97, zq_100, zq_122, zq_255, zq_999, zq_6000, zq_9999, zq_999999, nI_add, pk_mul, z_le_t, z_le_f, z_lt_t, z_lt_f, z_eq_t, z_eq_f, zcla, zi_nI, ↓reduceIte, z_ng, z_ngb, z_ngl, z_ngt, zI_y, zI_n, zI_2, zL_1, zL_2, nI_l, inN_t, inN_f, z_or0, lc_le_t, lc_le_f, lc_lt_t, lc_lt_f, lc_ge_t, lc_ge_f, lc_gt_t, lc_gt_f, lc_eq_t, lc_eq_f, z_ngle, lN_i, lN_add, lN_mul, m6]
        rw [q, e3, Nat.mul_assoc]
theorem zsm_iv {g : Nat → Nat} {a b n : Nat} (h1 : a ≤ b) (h2 : b ≤ n) : zsm (fun j => if ivl a b j = true then g j else 0) n = zsm g b - zsm g a := by
  have : ∀ n, zsm (fun j => if ivl a b j = true then g j else 0) n = zsm g (min (max n a) b) - zsm g a := by
    intro n
    induction n with
    | zero =>
      have : min (max 0 a) b = a := by omega
      rw [this, Nat.sub_self]
      rfl
    | succ n ih =>
      rw [zsm_s, ih]
      by_cases hi : ivl a b n = true
      · rw [if_pos hi]
        simp only [ivl, Bool.and_eq_true, decide_eq_true_eq] at hi
        have e1 : min (max n a) b = n := by omega
        have e2 : min (max (n + 1) a) b = n + 1 := by omega
        have := zsm_mono (f := g) hi.1
        rw [e1, e2, zsm_s]
        omega
      · rw [if_neg hi]
        simp only [ivl, Bool.and_eq_true, decide_eq_true_eq] at hi
        have e2 : min (max (n + 1) a) b = min (max n a) b := by omega
        rw [e2, Nat.add_zero]
  rw [this n, show min (max n a) b = b by omega]
theorem si_ {p : Nat} {P : zM} {σ : zS} {q : Nat} (c : cPr σ.1 p P) (w : wPr P) (hq : q < zpq P) : ∀ k l n, l + k = zpbe P q → k < n → zpfi P q ≤ l → L_X3_stepsIn_9 p (nI q) σ n (nI (zsm (zptm P) l - zsm (zptm P) (zpfi P q))) (nI l) = some (nI (zsm (zptm P) (zpbe P q) - zsm (zptm P) (zpfi P q))) := by
  intro k
  obtain ⟨c1, c2, c3, c4, c5, c6, c7⟩ := c
  obtain ⟨w1, w2, w3, w4, w5, w6⟩ := w
  obtain ⟨v1, v2, v3, v4, v5, v6⟩ := w5 q hq
  induction k with
  | zero =>
    intro l n h hn hl
    cases n with
    | zero => omega
    | succ n =>
      obtain rfl : l = zpbe P q := by omega
      rw [L_X3_stepsIn_9]
      simp (disch := omega) only [zlet_eq, zg_t, zb_s, zb2_s, zl_0, zl_1, zl_2, zl_3, zl_4, zl_5, zl_6, zl_7, zl_8, zl_9, zl_10, zl_12, zl_16, zl_19, zl_20, zl_24, zl_31, zl_36, zl_39, zl_40, zl_48, zl_57, zl_63, zl_80, zl_97, zl_99, zl_100, zl_122, zl_128, zl_160, zl_199, zl_200, zl_255, zl_256, zl_320, zl_999, zl_6000, zl_6001, zl_9999, zl_999999, zq_0, zq_1, zq_2, zq_3, zq_4, zq_5, zq_7, zq_9, zq_10, zq_16, zq_17, zq_20, zq_48, zq_57, zq_97, zq_100, zq_122, zq_255, zq_999, zq_6000, zq_9999, zq_999999, nI_add, pk_mul, z_le_t, z_le_f, z_lt_t, z_lt_f, z_eq_t, z_eq_f, zcla, zi_nI, ↓reduceIte, z_ng, z_ngb, z_ngl, z_ngt, zI_y, zI_n, zI_2, zL_1, zL_2, nI_l, inN_t, inN_f, z_or0, lc_le_t, lc_le_f, lc_lt_t, lc_lt_f, lc_ge_t, lc_ge_f, lc_gt_t, lc_gt_f, lc_eq_t, lc_eq_f, z_ngle, lN_i, lN_add, lN_mul, c5]
  | succ k ih =>
    intro l n h hn hl
    cases n with
    | zero => omega
    | succ n =>
      have q1 := ih (l + 1) n (by omega) (by omega) (by omega)
      rw [L_X3_stepsIn_9]
      simp (disch := omega) only [zlet_eq, zg_t, zb_s, zb2_s, zl_0, zl_1, zl_2, zl_3, zl_4, zl_5, zl_6, zl_7, zl_8, zl_9, zl_10, zl_12, zl_16, zl_19, zl_20, zl_24, zl_31, zl_36, zl_39, zl_40, zl_48, zl_57, zl_63, zl_80, zl_97, zl_99, zl_100, zl_122, zl_128, zl_160, zl_199, zl_200, zl_255, zl_256, zl_320, zl_999, zl_6000, zl_6001, zl_9999, zl_999999, zq_0, zq_1, zq_2, zq_3, zq_4, zq_5, zq_7, zq_9, zq_10, zq_16, zq_17, zq_20, zq_48, zq_57, zq_97, zq_100, zq_122, zq_255, zq_999, zq_6000, zq_9999, zq_999999, nI_add, pk_mul, z_le_t, z_le_f, z_lt_t, z_lt_f, z_eq_t, z_eq_f, zcla, zi_nI, ↓reduceIte, z_ng, z_ngb, z_ngl, z_ngt, zI_y, zI_n, zI_2, zL_1, zL_2, nI_l, inN_t, inN_f, z_or0, lc_le_t, lc_le_f, lc_lt_t, lc_lt_f, lc_ge_t, lc_ge_f, lc_gt_t, lc_gt_f, lc_eq_t, lc_eq_f, z_ngle, lN_i, lN_add, lN_mul, c5, c4]
      rw [show zsm (zptm P) l - zsm (zptm P) (zpfi P q) + zptm P l = zsm (zptm P) (l + 1) - zsm (zptm P) (zpfi P q) from by
        have := zsm_mono (f := zptm P) hl
        rw [zsm_s]
        omega]
      exact q1
theorem sm_ {P : zM} {σ : zS} (m : mPr σ.1 P) (w : wPr P) {q : Nat} (hq : q < zpq P) (K : Int32 → Option Int32) : ∀ k l n, l + k = zpn P → k < n → L_X11_loop_82 σ (bO (ivl (zpfi P q) (zpbe P q)) (zpn P)) K n (nI (zsm (fun j => if ivl (zpfi P q) (zpbe P q) j = true then zptm P j else 0) l)) (nI l) = K (nI (zsm (zptm P) (zpbe P q) - zsm (zptm P) (zpfi P q))) := by
  intro k
  obtain ⟨m1, m2, m3, m4, m5, m6, m7⟩ := m
  obtain ⟨w1, w2, w3, w4, w5, w6⟩ := w
  obtain ⟨v1, v2, v3, v4, v5, v6⟩ := w5 q hq
  induction k with
  | zero =>
    intro l n h hn
    cases n with
    | zero => omega
    | succ n =>
      obtain rfl : l = zpn P := by omega
      rw [L_X11_loop_82]
      simp (disch := omega) only [zlet_eq, zg_t, zb_s, zb2_s, zl_0, zl_1, zl_2, zl_3, zl_4, zl_5, zl_6, zl_7, zl_8, zl_9, zl_10, zl_12, zl_16, zl_19, zl_20, zl_24, zl_31, zl_36, zl_39, zl_40, zl_48, zl_57, zl_63, zl_80, zl_97, zl_99, zl_100, zl_122, zl_128, zl_160, zl_199, zl_200, zl_255, zl_256, zl_320, zl_999, zl_6000, zl_6001, zl_9999, zl_999999, zq_0, zq_1, zq_2, zq_3, zq_4, zq_5, zq_7, zq_9, zq_10, zq_16, zq_17, zq_20, zq_48, zq_57, zq_97, zq_100, zq_122, zq_255, zq_999, zq_6000, zq_9999, zq_999999, nI_add, pk_mul, z_le_t, z_le_f, z_lt_t, z_lt_f, z_eq_t, z_eq_f, zcla, zi_nI, ↓reduceIte, z_ng, z_ngb, z_ngl, z_ngt, zI_y, zI_n, zI_2, zL_1, zL_2, nI_l, inN_t, inN_f, z_or0, lc_le_t, lc_le_f, lc_lt_t, lc_lt_f, lc_ge_t, lc_ge_f, lc_gt_t, lc_gt_f, lc_eq_t, lc_eq_f, z_ngle, lN_i, lN_add, lN_mul, m1]
      rw [zsm_iv v4 v5]
  | succ k ih =>
    intro l n h hn
    cases n with
    | zero => omega
    | succ n =>
      have q1 := ih (l + 1) n (by omega) (by omega)
      rw [zsm_s] at q1
      have b1 := mask_bit (l := l) v4 v5 w1 (by omega)
      have b2 : ((bO (ivl (zpfi P q) (zpbe P q)) (zpn P) >>> (nI l &&& nI 31)) &&& nI 1 : Int32) = nI (if ivl (zpfi P q) (zpbe P q) l = true then 1 else 0) := b1
      rw [L_X11_loop_82]
      by_cases hi : ivl (zpfi P q) (zpbe P q) l = true
      · rw [if_pos hi] at q1 b2
        simp (disch := omega) only [zlet_eq, zg_t, zb_s, zb2_s, zl_0, zl_1, zl_2, zl_3, zl_4, zl_5, zl_6, zl_7, zl_8, zl_9, zl_10, zl_12, zl_16, zl_19, zl_20, zl_24, zl_31, zl_36, zl_39, zl_40, zl_48, zl_57, zl_63, zl_80, zl_97, zl_99, zl_100, zl_122, zl_128, zl_160, zl_199, zl_200, zl_255, zl_256, zl_320, zl_999, zl_6000, zl_6001, zl_9999, zl_999999, zq_0, zq_1, zq_2, zq_3, zq_4, zq_5, zq_7, zq_9, zq_10, zq_16, zq_17, zq_20, zq_48, zq_57, zq_97, zq_100, zq_122, zq_255, zq_999, zq_6000, zq_9999, zq_999999, nI_add, pk_mul, z_le_t, z_le_f, z_lt_t, z_lt_f, z_eq_t, z_eq_f, zcla, zi_nI, ↓reduceIte, z_ng, z_ngb, z_ngl, z_ngt, zI_y, zI_n, zI_2, zL_1, zL_2, nI_l, inN_t, inN_f, z_or0, lc_le_t, lc_le_f, lc_lt_t, lc_lt_f, lc_ge_t, lc_ge_f, lc_gt_t, lc_gt_f, lc_eq_t, lc_eq_f, z_ngle, lN_i, lN_add, lN_mul, m1, b2, m5]
        exact q1
      · rw [if_neg hi] at q1 b2
        simp (disch := omega) only [zlet_eq, zg_t, zb_s, zb2_s, zl_0, zl_1, zl_2, zl_3, zl_4, zl_5, zl_6, zl_7, zl_8, zl_9, zl_10, zl_12, zl_16, zl_19, zl_20, zl_24, zl_31, zl_36, zl_39, zl_40, zl_48, zl_57, zl_63, zl_80, zl_97, zl_99, zl_100, zl_122, zl_128, zl_160, zl_199, zl_200, zl_255, zl_256, zl_320, zl_999, zl_6000, zl_6001, zl_9999, zl_999999, zq_0, zq_1, zq_2, zq_3, zq_4, zq_5, zq_7, zq_9, zq_10, zq_16, zq_17, zq_20, zq_48, zq_57, zq_97, zq_100, zq_122, zq_255, zq_999, zq_6000, zq_9999, zq_999999, nI_add, pk_mul, z_le_t, z_le_f, z_lt_t, z_lt_f, z_eq_t, z_eq_f, zcla, zi_nI, ↓reduceIte, z_ng, z_ngb, z_ngl, z_ngt, zI_y, zI_n, zI_2, zL_1, zL_2, nI_l, inN_t, inN_f, z_or0, lc_le_t, lc_le_f, lc_lt_t, lc_lt_f, lc_ge_t, lc_ge_f, lc_gt_t, lc_gt_f, lc_eq_t, lc_eq_f, z_ngle, lN_i, lN_add, lN_mul, m1, b2]
        exact q1
theorem pp_loop {σ : zS} (h : zRel σ) (a b : Int32) : ∃ r, J_X10_loop a b σ = some r ∧ J_X11_loop a b σ = some r := by
  obtain ⟨P, p, hp, hr, hz, w, c, m⟩ := zopen h
  have w1 := w.1
  have w2 := w.2.1
  unfold J_X10_loop J_X11_loop
  by_cases ha : zL a (zpq P)
  · have e1 := hasLoop_y (σ := σ) c.2.1 ha (by omega)
    have e2 := zinm_y (σ := σ) ha (by omega)
    rw [m.2.1]
    obtain ⟨q, hq, rfl⟩ := ha
    obtain ⟨v1, v2, v3, v4, v5, v6, v7, v8⟩ := w.2.2.2.2.1 q hq
    have c5 := c.2.2.2.2.1
    by_cases hb : zL b 5
    · have i1 := in4_y (σ := σ) 5 hb (by decide)
      obtain ⟨j, hj, rfl⟩ := hb
      have t1 : zi (nI q) 40 = true := zi_nI (by omega) (by omega)
      have t2 : (nI q).toNatClampNeg = q := zcla (by omega)
      have m6 := (m.2.2.2.2.2.1 q hq)
      have Z : ∀ r, D_X11_loop_124 (nI q) (nI j) σ (nI (zpco P q)) (bO (ivl (zpfi P q) (zpbe P q)) (zpn P)) (nI (zsm (zptm P) (zpbe P q) - zsm (zptm P) (zpfi P q))) = some r → (zb (J_X11_in ((nI q).toInt64) 0 ((nI (zpq P) - 1).toInt64) σ) fun r1 => if r1 = (0 : Int32) then (some (-1 : Int32)) else (zb (J_X11_in ((nI j).toInt64) (0 : Int64) (4 : Int64) σ) fun r3 => if r3 = (0 : Int32) then (some (-1 : Int32)) else (zg (zi (nI q) 40) (zlet (σ.1 110 (nI q).toNatClampNeg) fun v6 => zlet (D_X11_loop_69 (nI q) (nI j) σ) fun k69 => L_X11_loop_40 σ k69 4294967296 (1 : Int32) v6)))) = some r := by
        intro r hr
        have i1' : J_X11_in ((nI j).toInt64) (0 : Int64) (4 : Int64) σ = some 1 := i1
        simp only [zlet_eq, zg_t, zb_s, zb2_s, z10_eq, eq_self, ↓reduceIte, e2, i1', t1, t2, m6.2]
        have pp := pr_ m w (D_X11_loop_69 (nI q) (nI j) σ) 41 (zpou P q) 4294967296 1 (by omega) (by omega) (by omega) (by omega)
        rw [Nat.one_mul, ← v7] at pp
        refine pp.trans ?_
        unfold D_X11_loop_69
        rw [li11 m w hq, zb_s, zlet_eq]
        exact (sm_ m w hq _ (zpn P) 0 4294967296 (by omega) (by omega)).trans hr
      unfold D_X11_loop_124 at Z
      have cases5 : j = 0 ∨ j = 1 ∨ j = 2 ∨ j = 3 ∨ j = 4 := by omega
      rcases cases5 with rfl | rfl | rfl | rfl | rfl
      · refine ⟨nI (zpte P q), ?_, Z _ ?_⟩
        · simp (disch := omega) only [zlet_eq, zg_t, zb_s, zb2_s, zl_0, zl_1, zl_2, zl_3, zl_4, zl_5, zl_6, zl_7, zl_8, zl_9, zl_10, zl_12, zl_16, zl_19, zl_20, zl_24, zl_31, zl_36, zl_39, zl_40, zl_48, zl_57, zl_63, zl_80, zl_97, zl_99, zl_100, zl_122, zl_128, zl_160, zl_199, zl_200, zl_255, zl_256, zl_320, zl_999, zl_6000, zl_6001, zl_9999, zl_999999, zq_0, zq_1, zq_2, zq_3, zq_4, zq_5, zq_7, zq_9, zq_10, zq_16, zq_17, zq_20, zq_48, zq_57, zq_97, zq_100, zq_122, zq_255, zq_999, zq_6000, zq_9999, zq_999999, nI_add, pk_mul, z_le_t, z_le_f, z_lt_t, z_lt_f, z_eq_t, z_eq_f, zcla, zi_nI, ↓reduceIte, z_ng, z_ngb, z_ngl, z_ngt, zI_y, zI_n, zI_2, zL_1, zL_2, nI_l, inN_t, inN_f, z_or0, lc_le_t, lc_le_f, lc_lt_t, lc_lt_f, lc_ge_t, lc_ge_f, lc_gt_t, lc_gt_f, lc_eq_t, lc_eq_f, z_ngle, lN_i, lN_add, lN_mul, e1, hr, hz, c5]
        · simp (disch := omega) only [zlet_eq, zg_t, zb_s, zb2_s, zl_0, zl_1, zl_2, zl_3, zl_4, zl_5, zl_6, zl_7, zl_8, zl_9, zl_10, zl_12, zl_16, zl_19, zl_20, zl_24, zl_31, zl_36, zl_39, zl_40, zl_48, zl_57, zl_63, zl_80, zl_97, zl_99, zl_100, zl_122, zl_128, zl_160, zl_199, zl_200, zl_255, zl_256, zl_320, zl_999, zl_6000, zl_6001, zl_9999, zl_999999, zq_0, zq_1, zq_2, zq_3, zq_4, zq_5, zq_7, zq_9, zq_10, zq_16, zq_17, zq_20, zq_48, zq_57, zq_97, zq_100, zq_122, zq_255, zq_999, zq_6000, zq_9999, zq_999999, nI_add, pk_mul, z_le_t, z_le_f, z_lt_t, z_lt_f, z_eq_t, z_eq_f, zcla, zi_nI, ↓reduceIte, z_ng, z_ngb, z_ngl, z_ngt, zI_y, zI_n, zI_2, zL_1, zL_2, nI_l, inN_t, inN_f, z_or0, lc_le_t, lc_le_f, lc_lt_t, lc_lt_f, lc_ge_t, lc_ge_f, lc_gt_t, lc_gt_f, lc_eq_t, lc_eq_f, z_ngle, lN_i, lN_add, lN_mul, m6.1]
      · refine ⟨nI (zpad P q), ?_, Z _ ?_⟩
        · simp (disch := omega) only [zlet_eq, zg_t, zb_s, zb2_s, zl_0, zl_1, zl_2, zl_3, zl_4, zl_5, zl_6, zl_7, zl_8, zl_9, zl_10, zl_12, zl_16, zl_19, zl_20, zl_24, zl_31, zl_36, zl_39, zl_40, zl_48, zl_57, zl_63, zl_80, zl_97, zl_99, zl_100, zl_122, zl_128, zl_160, zl_199, zl_200, zl_255, zl_256, zl_320, zl_999, zl_6000, zl_6001, zl_9999, zl_999999, zq_0, zq_1, zq_2, zq_3, zq_4, zq_5, zq_7, zq_9, zq_10, zq_16, zq_17, zq_20, zq_48, zq_57, zq_97, zq_100, zq_122, zq_255, zq_999, zq_6000, zq_9999, zq_999999, nI_add, pk_mul, z_le_t, z_le_f, z_lt_t, z_lt_f, z_eq_t, z_eq_f, zcla, zi_nI, ↓reduceIte, z_ng, z_ngb, z_ngl, z_ngt, zI_y, zI_n, zI_2, zL_1, zL_2, nI_l, inN_t, inN_f, z_or0, lc_le_t, lc_le_f, lc_lt_t, lc_lt_f, lc_ge_t, lc_ge_f, lc_gt_t, lc_gt_f, lc_eq_t, lc_eq_f, z_ngle, lN_i, lN_add, lN_mul, e1, hr, hz, c5]
        · have dd := dep11 (σ := σ) m w (k := zpou P q) (by omega)
          rw [← v6] at dd
          simp (disch := omega) only [zlet_eq, zg_t, zb_s, zb2_s, zl_0, zl_1, zl_2, zl_3, zl_4, zl_5, zl_6, zl_7, zl_8, zl_9, zl_10, zl_12, zl_16, zl_19, zl_20, zl_24, zl_31, zl_36, zl_39, zl_40, zl_48, zl_57, zl_63, zl_80, zl_97, zl_99, zl_100, zl_122, zl_128, zl_160, zl_199, zl_200, zl_255, zl_256, zl_320, zl_999, zl_6000, zl_6001, zl_9999, zl_999999, zq_0, zq_1, zq_2, zq_3, zq_4, zq_5, zq_7, zq_9, zq_10, zq_16, zq_17, zq_20, zq_48, zq_57, zq_97, zq_100, zq_122, zq_255, zq_999, zq_6000, zq_9999, zq_999999, nI_add, pk_mul, z_le_t, z_le_f, z_lt_t, z_lt_f, z_eq_t, z_eq_f, zcla, zi_nI, ↓reduceIte, z_ng, z_ngb, z_ngl, z_ngt, zI_y, zI_n, zI_2, zL_1, zL_2, nI_l, inN_t, inN_f, z_or0, lc_le_t, lc_le_f, lc_lt_t, lc_lt_f, lc_ge_t, lc_ge_f, lc_gt_t, lc_gt_f, lc_eq_t, lc_eq_f, z_ngle, lN_i, lN_add, lN_mul, m6.2, dd]
      · refine ⟨bO (ivl (zpfi P q) (zpbe P q)) (zpn P), ?_, Z _ ?_⟩
        · have : J_X3_linesIn p (nI q) σ = some (bO (ivl (zpfi P q) (zpbe P q)) (zpn P)) := by
            rw [mask_eq v4 v5 w1]
            unfold J_X3_linesIn
            simp only [zlet_eq, zg_t, zb_s, zb2_s, z10_eq, eq_self, ↓reduceIte, t1, t2, (c5 q hq).2.2.2.1, (c5 q hq).2.2.2.2]
          simp (disch := omega) only [zlet_eq, zg_t, zb_s, zb2_s, zl_0, zl_1, zl_2, zl_3, zl_4, zl_5, zl_6, zl_7, zl_8, zl_9, zl_10, zl_12, zl_16, zl_19, zl_20, zl_24, zl_31, zl_36, zl_39, zl_40, zl_48, zl_57, zl_63, zl_80, zl_97, zl_99, zl_100, zl_122, zl_128, zl_160, zl_199, zl_200, zl_255, zl_256, zl_320, zl_999, zl_6000, zl_6001, zl_9999, zl_999999, zq_0, zq_1, zq_2, zq_3, zq_4, zq_5, zq_7, zq_9, zq_10, zq_16, zq_17, zq_20, zq_48, zq_57, zq_97, zq_100, zq_122, zq_255, zq_999, zq_6000, zq_9999, zq_999999, nI_add, pk_mul, z_le_t, z_le_f, z_lt_t, z_lt_f, z_eq_t, z_eq_f, zcla, zi_nI, ↓reduceIte, z_ng, z_ngb, z_ngl, z_ngt, zI_y, zI_n, zI_2, zL_1, zL_2, nI_l, inN_t, inN_f, z_or0, lc_le_t, lc_le_f, lc_lt_t, lc_lt_f, lc_ge_t, lc_ge_f, lc_gt_t, lc_gt_f, lc_eq_t, lc_eq_f, z_ngle, lN_i, lN_add, lN_mul, e1, hr, hz, this]
        · simp (disch := omega) only [zlet_eq, zg_t, zb_s, zb2_s, zl_0, zl_1, zl_2, zl_3, zl_4, zl_5, zl_6, zl_7, zl_8, zl_9, zl_10, zl_12, zl_16, zl_19, zl_20, zl_24, zl_31, zl_36, zl_39, zl_40, zl_48, zl_57, zl_63, zl_80, zl_97, zl_99, zl_100, zl_122, zl_128, zl_160, zl_199, zl_200, zl_255, zl_256, zl_320, zl_999, zl_6000, zl_6001, zl_9999, zl_999999, zq_0, zq_1, zq_2, zq_3, zq_4, zq_5, zq_7, zq_9, zq_10, zq_16, zq_17, zq_20, zq_48, zq_57, zq_97, zq_100, zq_122, zq_255, zq_999, zq_6000, zq_9999, zq_999999, nI_add, pk_mul, z_le_t, z_le_f, z_lt_t, z_lt_f, z_eq_t, z_eq_f, zcla, zi_nI, ↓reduceIte, z_ng, z_ngb, z_ngl, z_ngt, zI_y, zI_n, zI_2, zL_1, zL_2, nI_l, inN_t, inN_f, z_or0, lc_le_t, lc_le_f, lc_lt_t, lc_lt_f, lc_ge_t, lc_ge_f, lc_gt_t, lc_gt_f, lc_eq_t, lc_eq_f, z_ngle, lN_i, lN_add, lN_mul]
      · refine ⟨nI (zpco P q), ?_, Z _ ?_⟩
        · simp (disch := omega) only [zlet_eq, zg_t, zb_s, zb2_s, zl_0, zl_1, zl_2, zl_3, zl_4, zl_5, zl_6, zl_7, zl_8, zl_9, zl_10, zl_12, zl_16, zl_19, zl_20, zl_24, zl_31, zl_36, zl_39, zl_40, zl_48, zl_57, zl_63, zl_80, zl_97, zl_99, zl_100, zl_122, zl_128, zl_160, zl_199, zl_200, zl_255, zl_256, zl_320, zl_999, zl_6000, zl_6001, zl_9999, zl_999999, zq_0, zq_1, zq_2, zq_3, zq_4, zq_5, zq_7, zq_9, zq_10, zq_16, zq_17, zq_20, zq_48, zq_57, zq_97, zq_100, zq_122, zq_255, zq_999, zq_6000, zq_9999, zq_999999, nI_add, pk_mul, z_le_t, z_le_f, z_lt_t, z_lt_f, z_eq_t, z_eq_f, zcla, zi_nI, ↓reduceIte, z_ng, z_ngb, z_ngl, z_ngt, zI_y, zI_n, zI_2, zL_1, zL_2, nI_l, inN_t, inN_f, z_or0, lc_le_t, lc_le_f, lc_lt_t, lc_lt_f, lc_ge_t, lc_ge_f, lc_gt_t, lc_gt_f, lc_eq_t, lc_eq_f, z_ngle, lN_i, lN_add, lN_mul, e1, hr, hz, c5]
        · simp (disch := omega) only [zlet_eq, zg_t, zb_s, zb2_s, zl_0, zl_1, zl_2, zl_3, zl_4, zl_5, zl_6, zl_7, zl_8, zl_9, zl_10, zl_12, zl_16, zl_19, zl_20, zl_24, zl_31, zl_36, zl_39, zl_40, zl_48, zl_57, zl_63, zl_80, zl_97, zl_99, zl_100, zl_122, zl_128, zl_160, zl_199, zl_200, zl_255, zl_256, zl_320, zl_999, zl_6000, zl_6001, zl_9999, zl_999999, zq_0, zq_1, zq_2, zq_3, zq_4, zq_5, zq_7, zq_9, zq_10, zq_16, zq_17, zq_20, zq_48, zq_57, zq_97, zq_100, zq_122, zq_255, zq_999, zq_6000, zq_9999, zq_999999, nI_add, pk_mul, z_le_t, z_le_f, z_lt_t, z_lt_f, z_eq_t, z_eq_f, zcla, zi_nI, ↓reduceIte, z_ng, z_ngb, z_ngl, z_ngt, zI_y, zI_n, zI_2, zL_1, zL_2, nI_l, inN_t, inN_f, z_or0, lc_le_t, lc_le_f, lc_lt_t, lc_lt_f, lc_ge_t, lc_ge_f, lc_gt_t, lc_gt_f, lc_eq_t, lc_eq_f, z_ngle, lN_i, lN_add, lN_mul]
      · refine ⟨nI (zsm (zptm P) (zpbe P q) - zsm (zptm P) (zpfi P q)), ?_, Z _ ?_⟩
        · have : J_X3_stepsIn p (nI q) σ = some (nI (zsm (zptm P) (zpbe P q) - zsm (zptm P) (zpfi P q))) := by
            unfold J_X3_stepsIn
            simp only [zlet_eq, zg_t, zb_s, zb2_s, z10_eq, eq_self, ↓reduceIte, t1, t2, (c5 q hq).2.2.2.1]
            have := si_ c w hq (zpbe P q - zpfi P q) (zpfi P q) 4294967296 (by omega) (by omega) (Nat.le_refl _)
            rw [Nat.sub_self] at this
            exact this
          simp (disch := omega) only [zlet_eq, zg_t, zb_s, zb2_s, zl_0, zl_1, zl_2, zl_3, zl_4, zl_5, zl_6, zl_7, zl_8, zl_9, zl_10, zl_12, zl_16, zl_19, zl_20, zl_24, zl_31, zl_36, zl_39, zl_40, zl_48, zl_57, zl_63, zl_80, zl_97, zl_99, zl_100, zl_122, zl_128, zl_160, zl_199, zl_200, zl_255, zl_256, zl_320, zl_999, zl_6000, zl_6001, zl_9999, zl_999999, zq_0, zq_1, zq_2, zq_3, zq_4, zq_5, zq_7, zq_9, zq_10, zq_16, zq_17, zq_20, zq_48, zq_57, zq_97, zq_100, zq_122, zq_255, zq_999, zq_6000, zq_9999, zq_999999, nI_add, pk_mul, z_le_t, z_le_f, z_lt_t, z_lt_f, z_eq_t, z_eq_f, zcla, zi_nI, ↓reduceIte, z_ng, z_ngb, z_ngl, z_ngt, zI_y, zI_n, zI_2, zL_1, zL_2, nI_l, inN_t, inN_f, z_or0, lc_le_t, lc_le_f, lc_lt_t, lc_lt_f, lc_ge_t, lc_ge_f, lc_gt_t, lc_gt_f, lc_eq_t, lc_eq_f, z_ngle, lN_i, lN_add, lN_mul, e1, hr, hz, this]
        · simp (disch := omega) only [zlet_eq, zg_t, zb_s, zb2_s, zl_0, zl_1, zl_2, zl_3, zl_4, zl_5, zl_6, zl_7, zl_8, zl_9, zl_10, zl_12, zl_16, zl_19, zl_20, zl_24, zl_31, zl_36, zl_39, zl_40, zl_48, zl_57, zl_63, zl_80, zl_97, zl_99, zl_100, zl_122, zl_128, zl_160, zl_199, zl_200, zl_255, zl_256, zl_320, zl_999, zl_6000, zl_6001, zl_9999, zl_999999, zq_0, zq_1, zq_2, zq_3, zq_4, zq_5, zq_7, zq_9, zq_10, zq_16, zq_17, zq_20, zq_48, zq_57, zq_97, zq_100, zq_122, zq_255, zq_999, zq_6000, zq_9999, zq_999999, nI_add, pk_mul, z_le_t, z_le_f, z_lt_t, z_lt_f, z_eq_t, z_eq_f, zcla, zi_nI, ↓reduceIte, z_ng, z_ngb, z_ngl, z_ngt, zI_y, zI_n, zI_2, zL_1, zL_2, nI_l, inN_t, inN_f, z_or0, lc_le_t, lc_le_f, lc_lt_t, lc_lt_f, lc_ge_t, lc_ge_f, lc_gt_t, lc_gt_f, lc_eq_t, lc_eq_f, z_ngle, lN_i, lN_add, lN_mul]
    · have i1 := in4_n (σ := σ) 5 hb (by decide) (by decide)
      have i1' : J_X11_in b.toInt64 (lN 0) (lN 4) σ = some 0 := i1
      have n0 : ∀ j, j < 5 → ¬ b = nI j := fun j hj q => hb ⟨j, hj, q⟩
      refine ⟨-1, ?_, ?_⟩
      · simp (disch := omega) only [zlet_eq, zg_t, zb_s, zb2_s, zl_0, zl_1, zl_2, zl_3, zl_4, zl_5, zl_6, zl_7, zl_8, zl_9, zl_10, zl_12, zl_16, zl_19, zl_20, zl_24, zl_31, zl_36, zl_39, zl_40, zl_48, zl_57, zl_63, zl_80, zl_97, zl_99, zl_100, zl_122, zl_128, zl_160, zl_199, zl_200, zl_255, zl_256, zl_320, zl_999, zl_6000, zl_6001, zl_9999, zl_999999, zq_0, zq_1, zq_2, zq_3, zq_4, zq_5, zq_7, zq_9, zq_10, zq_16, zq_17, zq_20, zq_48, zq_57, zq_97, zq_100, zq_122, zq_255, zq_999, zq_6000, zq_9999, zq_999999, nI_add, pk_mul, z_le_t, z_le_f, z_lt_t, z_lt_f, z_eq_t, z_eq_f, zcla, zi_nI, ↓reduceIte, z_ng, z_ngb, z_ngl, z_ngt, zI_y, zI_n, zI_2, zL_1, zL_2, nI_l, inN_t, inN_f, z_or0, lc_le_t, lc_le_f, lc_lt_t, lc_lt_f, lc_ge_t, lc_ge_f, lc_gt_t, lc_gt_f, lc_eq_t, lc_eq_f, z_ngle, lN_i, lN_add, lN_mul, e1, hr, hz, n0 0 (by omega), n0 1 (by omega), n0 2 (by omega), n0 3 (by omega), n0 4 (by omega)]
      · simp only [zlet_eq, zg_t, zb_s, zb2_s, z10_eq, eq_self, ↓reduceIte, e2, show J_X11_in b.toInt64 0 4 σ = some 0 from i1]
  · have e1 := hasLoop_n (σ := σ) c.2.1 ha (by omega)
    have e2 := zinm_n (σ := σ) ha (by omega)
    refine ⟨-1, ?_, ?_⟩
    · simp only [zlet_eq, zg_t, zb_s, zb2_s, z10_eq, eq_self, ↓reduceIte, hr, hz, e1]
    · rw [m.2.1]
      simp only [zlet_eq, zg_t, zb_s, zb2_s, z10_eq, eq_self, ↓reduceIte, e2]
