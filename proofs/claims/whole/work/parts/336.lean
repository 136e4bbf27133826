set_option maxRecDepth 8000
def zso (P : zM) (s : Nat) : Nat → Nat := zsm fun e => if s.testBit e then zto P e else 0
theorem ioo {e s : Nat} {σ : zS} (he : e < 8) (hs : s < 256) : J_X10_isOneOf (nI e) (nI s) σ = some (nI (if s.testBit e then 1 else 0)) := by
  unfold J_X10_isOneOf
  have e1 := isSet_y (a := nI s) (σ := σ) ⟨s, hs, rfl⟩
  have e2 := isEvent_y (a := nI e) (σ := σ) ⟨e, he, rfl⟩
  simp only [zlet_eq, zg_t, zb_s, zb2_s, z10_eq, eq_self, ↓reduceIte, e1, e2, tb_bit hs he]
  by_cases h : s.testBit e = true
  · rw [if_pos h]; rfl
  · rw [if_neg h]; rfl
theorem to10_ {p : Nat} {P : zM} {σ : zS} {s : Nat} (c : cPr σ.1 p P) (w : wPr P) (hs : s < 256) : ∀ k e n, e + k = 8 → k < n → L_X5_totalOf_4 p (nI s) σ n (nI (zso P s e)) (nI e) = some (nI (zso P s 8)) := by
  intro k
  induction k with
  | zero =>
    intro e n h hn
    cases n with
    | zero => omega
    | succ n =>
      obtain rfl : e = 8 := by omega
      rw [L_X5_totalOf_4]
      simp (disch := omega) only [zlet_eq, zg_t, zb_s, zb2_s, zl_0, zl_1, zl_2, zl_3, zl_4, zl_5, zl_6, zl_7, zl_8, zl_9, zl_10, zl_12, zl_16, zl_19, zl_20, zl_24, zl_31, zl_36, zl_39, zl_40, zl_48, zl_57, zl_63, zl_80, zl_97, zl_99, zl_100, zl_122, zl_128, zl_160, zl_199, zl_200, zl_255, zl_256, zl_320, zl_999, zl_6000, zl_6001, zl_9999, zl_999999, zq_0, zq_1, zq_2, zq_3, zq_4, zq_5, zq_7, zq_9, zq_10, zq_16, zq_17, zq_20, zq_48, zq_57, zq_97, zq_100, zq_122, zq_255, zq_999, zq_6000, zq_9999, zq_999999, nI_add, pk_mul, z_le_t, z_le_f, z_lt_t, z_lt_f, z_eq_t, z_eq_f, zcla, zi_nI, ↓reduceIte, z_ng, z_ngb, z_ngl, z_ngt, zI_y, zI_n, zI_2, zL_1, zL_2, nI_l, inN_t, inN_f, z_or0, lc_le_t, lc_le_f, lc_lt_t, lc_lt_f, lc_ge_t, lc_ge_f, lc_gt_t, lc_gt_f, lc_eq_t, lc_eq_f, z_ngle, lN_i, lN_add, lN_mul]
  | succ k ih =>
    intro e n h hn
    cases n with
    | zero => omega
    | succ n =>
      have q := ih (e + 1) n (by omega) (by omega)
      have u : zso P s (e + 1) = zso P s e + (if s.testBit e then zto P e else 0) := rfl
      have i1 := ioo (σ := σ) (show e < 8 by omega) hs
      have t := tot3 (σ := σ) c w (show e < 8 by omega)
      have t3 : ¬ (8 : Int32) ≤ nI e := of_eq_false (z_le_f (a := 8) (by omega) (by omega))
      have t4 : nI e + 1 = nI (e + 1) := nI_add e 1
      rw [u] at q
      rw [L_X5_totalOf_4]
      by_cases hb : s.testBit e = true
      · rw [if_pos hb] at q i1
        have i2 : ¬ nI 1 = 0 := by decide
        simp only [zlet_eq, zg_t, zb_s, zb2_s, z10_eq, eq_self, ↓reduceIte, t3, i1, i2, t, t4, nI_add]
        exact q
      · rw [if_neg hb] at q i1
        have i2 : (nI 0 = 0) = True := eq_true rfl
        simp only [zlet_eq, zg_t, zb_s, zb2_s, z10_eq, eq_self, ↓reduceIte, t3, i1, i2, t4]
        exact q
theorem to10 {p : Nat} {P : zM} {σ : zS} {s : Nat} (c : cPr σ.1 p P) (w : wPr P) (hs : s < 256) : J_X5_totalOf p (nI s) σ = some (nI (zso P s 8)) :=
  to10_ c w hs 8 0 4294967296 (by omega) (by omega)
theorem fs_ {P : zM} {σ : zS} {s : Nat} (m : mPr σ.1 P) (w : wPr P) (hs : s < 256) (K : Int32 → Option Int32) : ∀ k e n, e + k = 8 → k < n → L_X11_fits_6 (nI s) σ K n (nI (zso P s e)) (nI e) = K (nI (zso P s 8)) := by
  intro k
  induction k with
  | zero =>
    intro e n h hn
    cases n with
    | zero => omega
    | succ n =>
      obtain rfl : e = 8 := by omega
      rw [L_X11_fits_6]
      simp (disch := omega) only [zlet_eq, zg_t, zb_s, zb2_s, zl_0, zl_1, zl_2, zl_3, zl_4, zl_5, zl_6, zl_7, zl_8, zl_9, zl_10, zl_12, zl_16, zl_19, zl_20, zl_24, zl_31, zl_36, zl_39, zl_40, zl_48, zl_57, zl_63, zl_80, zl_97, zl_99, zl_100, zl_122, zl_128, zl_160, zl_199, zl_200, zl_255, zl_256, zl_320, zl_999, zl_6000, zl_6001, zl_9999, zl_999999, zq_0, zq_1, zq_2, zq_3, zq_4, zq_5, zq_7, zq_9, zq_10, zq_16, zq_17, zq_20, zq_48, zq_57, zq_97, zq_100, zq_122, zq_255, zq_999, zq_6000, zq_9999, zq_999999, nI_add, pk_mul, z_le_t, z_le_f, z_lt_t, z_lt_f, z_eq_t, z_eq_f, zcla, zi_nI, ↓reduceIte, z_ng, z_ngb, z_ngl, z_ngt, zI_y, zI_n, zI_2, zL_1, zL_2, nI_l, inN_t, inN_f, z_or0, lc_le_t, lc_le_f, lc_lt_t, lc_lt_f, lc_ge_t, lc_ge_f, lc_gt_t, lc_gt_f, lc_eq_t, lc_eq_f, z_ngle, lN_i, lN_add, lN_mul]
  | succ k ih =>
    intro e n h hn
    cases n with
    | zero => omega
    | succ n =>
      have q := ih (e + 1) n (by omega) (by omega)
      have u : zso P s (e + 1) = zso P s e + (if s.testBit e then zto P e else 0) := rfl
      have t := tot11 (σ := σ) m w (show e < 8 by omega)
      have t3 : ¬ (8 : Int32) ≤ nI e := of_eq_false (z_le_f (a := 8) (by omega) (by omega))
      have t4 : nI e + 1 = nI (e + 1) := nI_add e 1
      have b := tb_bit hs (show e < 8 by omega)
      rw [u] at q
      rw [L_X11_fits_6]
      by_cases hb : s.testBit e = true
      · rw [if_pos hb] at q b
        have i2 : (nI 1 = 1) = True := eq_true rfl
        simp only [zlet_eq, zg_t, zb_s, zb2_s, z10_eq, eq_self, ↓reduceIte, t3, b, i2, t, t4, nI_add]
        exact q
      · rw [if_neg hb] at q b
        have i2 : ¬ nI 0 = 1 := by decide
        have i3 : nI (zso P s e) + 0 = nI (zso P s e + 0) := nI_add _ 0
        simp only [zlet_eq, zg_t, zb_s, zb2_s, z10_eq, eq_self, ↓reduceIte, t3, b, i2, t4, i3]
        exact q
/-- the runs bear a sum out -/
def zbo (σ : zS) (a b : Int32) (N : Nat) (T : Int32) : Prop := ∀ j, j < N → zR2 σ a b j → σ.1 95 j = T
theorem as10 {σ : zS} {a b T : Int32} {N : Nat} (hN : N ≤ 12) (h0 : σ.1 92 0 = nI N) : (zbo σ a b N T → J_X5_allShowed a b T σ = some 1) ∧ (¬ zbo σ a b N T → J_X5_allShowed a b T σ = some 0) := by
  obtain ⟨q1, q2⟩ := al_ (a := a) (b := b) (T := T) hN h0 N 0 4294967296 (by omega) (by omega)
  refine ⟨fun h => q2 fun j _ h2 => h j h2, fun h => q1 ?_⟩
  refine Classical.byContradiction fun q => h fun j h1 h2 => ?_
  exact Classical.byContradiction fun q3 => q ⟨j, by omega, h1, h2, q3⟩
theorem fi11 {P : zM} {σ σ0 : zS} {a b : Int32} {N s : Nat} (m : mPr σ.1 P) (w : wPr P) (hs : s < 256) (hN : N ≤ 12) (h0 : σ.1 105 49 = nI N) (hr : ∀ i, i < N → σ0.1 93 i = σ.1 131 i ∧ σ0.1 94 i = σ.1 132 i ∧ σ0.1 95 i = σ.1 133 i) : (zbo σ0 a b N (nI (zso P s 8)) → J_X11_fits a b (nI s) σ = some 1) ∧ (¬ zbo σ0 a b N (nI (zso P s 8)) → J_X11_fits a b (nI s) σ = some 0) := by
  have F := fs_ m w hs (D_X11_fits_44 a b σ) 8 0 4294967296 (by omega) (by omega)
  have F' : J_X11_fits a b (nI s) σ = D_X11_fits_44 a b σ (nI (zso P s 8)) := F
  rw [F']
  unfold D_X11_fits_44
  obtain ⟨-, q1, q2⟩ := fi_ (a := a) (b := b) (T := nI (zso P s 8)) hN h0 N 0 4294967296 (by omega) (by omega)
  have tr : ∀ j, j < N → (zR3 σ a b j ↔ zR2 σ0 a b j) := fun j hj => by
    obtain ⟨x1, x2, x3⟩ := hr j hj
    unfold zR2 zR3
    rw [x1, x2]
  refine ⟨fun h => q2 fun j _ h2 h3 => ?_, fun h => q1 ?_⟩
  · rw [← (hr j h2).2.2]
    exact h j h2 ((tr j h2).mp h3)
  · refine Classical.byContradiction fun q => h fun j h1 h2 => ?_
    refine Classical.byContradiction fun q3 => q ⟨j, by omega, h1, (tr j h1).mpr h2, ?_⟩
    rw [← (hr j h1).2.2]
    exact q3
/-- the guesses of so many bits below a number -/
def zgl (Q : Nat → Bool) (bb s : Nat) : List Nat := (List.range s).filter fun x => decide (1 ≤ x) && (decide (pcn x 16 = bb) && Q x)
theorem zgl_s (Q : Nat → Bool) (bb s : Nat) : zgl Q bb (s + 1) = zgl Q bb s ++ (if (decide (1 ≤ s) && (decide (pcn s 16 = bb) && Q s)) = true then [s] else []) := by
  unfold zgl
  rw [List.range_succ, List.filter_append]
  congr 1
  rw [List.filter_cons]
  split <;> rfl
theorem zgl_le (Q : Nat → Bool) (bb : Nat) : ∀ s, s ≤ 256 → (zgl Q bb s).length ≤ (zgl (fun _ => true) bb 256).length := by
  have mono : ∀ s, (zgl Q bb s).length ≤ (zgl (fun _ => true) bb s).length := by
    intro s
    induction s with
    | zero => exact Nat.le_refl _
    | succ s ih =>
      rw [zgl_s, zgl_s, List.length_append, List.length_append]
      have : (if (decide (1 ≤ s) && (decide (pcn s 16 = bb) && Q s)) = true then [s] else []).length ≤ (if (decide (1 ≤ s) && (decide (pcn s 16 = bb) && true)) = true then [s] else []).length := by
        by_cases h1 : (decide (1 ≤ s) && (decide (pcn s 16 = bb) && Q s)) = true
        · have h2 : (decide (1 ≤ s) && (decide (pcn s 16 = bb) && true)) = true := by
            simp only [Bool.and_eq_true] at h1 ⊢
            exact ⟨h1.1, h1.2.1, trivial⟩
          rw [if_pos h1, if_pos h2]
          exact Nat.le_refl _
        · rw [if_neg h1]
          exact Nat.zero_le _
      omega
  have inc : ∀ s k, (zgl (fun _ => true) bb s).length ≤ (zgl (fun _ => true) bb (s + k)).length := by
    intro s k
    induction k with
    | zero => exact Nat.le_refl _
    | succ k ih =>
      rw [← Nat.add_assoc, zgl_s, List.length_append]
      omega
  intro s hs
  have := inc s (256 - s)
  rw [show s + (256 - s) = 256 by omega] at this
  exact Nat.le_trans (mono s) this
theorem zgl_1 : (zgl (fun _ => true) 1 256).length = 8 := by decide +kernel
theorem zgl_2 : (zgl (fun _ => true) 2 256).length = 28 := by decide +kernel
/-- the list as the class holds it -/
def zhl (I : zI) (l : List Nat) : Prop := I 92 4 = nI l.length ∧ ∀ j (h : j < l.length), I 96 j = nI l[j]
theorem addg_ {σ : zS} {s L : Nat} (h : L < 36) (h0 : σ.1 92 4 = nI L) : J_X5_addGuess (nI s) σ = some (zsI (zsI σ 96 L (nI s)) 92 4 (nI (L + 1))) := by
  unfold J_X5_addGuess
  have t1 : ¬ (36 : Int32) ≤ nI L := of_eq_false (z_le_f (a := 36) h (by omega))
  simp (disch := omega) only [zlet_eq, zg_t, zb_s, zb2_s, zl_0, zl_1, zl_2, zl_3, zl_4, zl_5, zl_6, zl_7, zl_8, zl_9, zl_10, zl_12, zl_16, zl_19, zl_20, zl_24, zl_31, zl_36, zl_39, zl_40, zl_48, zl_57, zl_63, zl_80, zl_97, zl_99, zl_100, zl_122, zl_128, zl_160, zl_199, zl_200, zl_255, zl_256, zl_320, zl_999, zl_6000, zl_6001, zl_9999, zl_999999, zq_0, zq_1, zq_2, zq_3, zq_4, zq_5, zq_7, zq_9, zq_10, zq_16, zq_17, zq_20, zq_48, zq_57, zq_97, zq_100, zq_122, zq_255, zq_999, zq_6000, zq_9999, zq_999999, nI_add, pk_mul, z_le_t, z_le_f, z_lt_t, z_lt_f, z_eq_t, z_eq_f, zcla, zi_nI, ↓reduceIte, z_ng, z_ngb, z_ngl, z_ngt, zI_y, zI_n, zI_2, zL_1, zL_2, nI_l, inN_t, inN_f, z_or0, lc_le_t, lc_le_f, lc_lt_t, lc_lt_f, lc_ge_t, lc_ge_f, lc_gt_t, lc_gt_f, lc_eq_t, lc_eq_f, z_ngle, lN_i, lN_add, lN_mul, h0, t1]
theorem gu_ {p : Nat} {P : zM} {a b : Int32} {N bb : Nat} {Q : Nat → Bool} {pre : List Nat} (hp : p = 3 ∨ p = 33) (w : wPr P) (hN : N ≤ 12) (hbb : bb < 3) (hl : ∀ s, s ≤ 256 → (pre ++ zgl Q bb s).length ≤ 36) (σ0 : zS) (hQ : ∀ s, Q s = true ↔ zbo σ0 a b N (nI (zso P s 8))) (h0 : σ0.1 92 0 = nI N) (c0 : cPr σ0.1 p P) (K : zS → Option zS) : ∀ k s n σ, s + k = 256 → k < n → 1 ≤ s → (∀ c j, ¬ (c = 96 ∨ (c = 92 ∧ j = 4)) → σ.1 c j = σ0.1 c j) → σ.2.2 = σ0.2.2 → zhl σ.1 (pre ++ zgl Q bb s) → ∃ σ', L_X5_guess_17 p a b (nI bb) K n (nI s) σ = K σ' ∧ (∀ c j, ¬ (c = 96 ∨ (c = 92 ∧ j = 4)) → σ'.1 c j = σ0.1 c j) ∧ σ'.2.2 = σ0.2.2 ∧ zhl σ'.1 (pre ++ zgl Q bb 256) := by
  intro k
  induction k with
  | zero =>
    intro s n σ h hn h1 f1 f2 hh
    cases n with
    | zero => omega
    | succ n =>
      obtain rfl : s = 256 := by omega
      have t3 : (256 : Int32) ≤ nI 256 := by decide
      rw [L_X5_guess_17]
      exact ⟨σ, by simp only [zlet_eq, zg_t, zb_s, zb2_s, z10_eq, eq_self, ↓reduceIte, t3], f1, f2, hh⟩
  | succ k ih =>
    intro s n σ h hn h1 f1 f2 hh
    cases n with
    | zero => omega
    | succ n =>
      have t3 : ¬ (256 : Int32) ≤ nI s := of_eq_false (z_le_f (a := 256) (by omega) (by omega))
      have t4 : nI s + 1 = nI (s + 1) := nI_add s 1
      have bc := bco (σ := σ) (show s < 256 by omega)
      have pl := pcn_le s 16
      have zs := zgl_s Q bb s
      have hr2 : ∀ T, zbo σ a b N T ↔ zbo σ0 a b N T := by
        intro T
        unfold zbo zR2
        constructor
        · intro g j hj hR
          rw [← f1 95 j (by omega)]
          refine g j hj ?_
          rw [f1 93 j (by omega), f1 94 j (by omega)]
          exact hR
        · intro g j hj hR
          rw [f1 95 j (by omega)]
          refine g j hj ?_
          rw [← f1 93 j (by omega), ← f1 94 j (by omega)]
          exact hR
      have cσ : cPr σ.1 p P := cPr_c (I := σ0.1) (fun c i hc => f1 c i (by omega)) w c0
      have tt := to10 (σ := σ) cσ w (show s < 256 by omega)
      obtain ⟨A1, A2⟩ := as10 (σ := σ) (a := a) (b := b) (T := nI (zso P s 8)) hN (by rw [f1 _ _ (by omega)]; exact h0)
      rw [L_X5_guess_17]
      by_cases hb : pcn s 16 = bb
      · have hb' : (nI (pcn s 16) = nI bb) = True := eq_true (by rw [hb])
        by_cases hq : Q s = true
        · have a1 := A1 ((hr2 _).mpr ((hQ s).mp hq))
          rw [if_pos (by simp [h1, hb, hq])] at zs
          have len : (pre ++ zgl Q bb s).length < 36 := by
            have := hl (s + 1) (by omega)
            rw [zs, ← List.append_assoc, List.length_append] at this
            have this2 : (pre ++ zgl Q bb s).length + 1 ≤ 36 := this
            omega
          obtain ⟨hh1, hh2⟩ := hh
          let τ : zS := zsI (zsI σ 96 (pre ++ zgl Q bb s).length (nI s)) 92 4 (nI ((pre ++ zgl Q bb s).length + 1))
          have ag : J_X5_addGuess (nI s) σ = some τ := addg_ len hh1
          obtain ⟨σ', q1, q2, q3, q4⟩ := ih (s + 1) n τ (by omega) (by omega) (by omega) (fun c j hc => by rw [zI_n (by omega), zI_n (by omega)]; exact f1 c j hc) f2 (by
            rw [zs, ← List.append_assoc]
            refine ⟨?_, ?_⟩
            · rw [zI_y]
              exact congrArg nI (List.length_append (as := pre ++ zgl Q bb s) (bs := [s])).symm
            · intro j hj
              rw [List.length_append] at hj
              have hj' : j < (pre ++ zgl Q bb s).length + 1 := hj
              rw [zI_n (by omega)]
              by_cases hje : j = (pre ++ zgl Q bb s).length
              · subst hje
                rw [zI_y]
                congr 1
                simp
              · rw [zI_n (by omega), hh2 j (by omega)]
                congr 1
                exact (List.getElem_append_left (as := pre ++ zgl Q bb s) (bs := [s]) (by omega)).symm)
          refine ⟨σ', ?_, q2, q3, q4⟩
          simp only [zlet_eq, zg_t, zb_s, zb2_s, z10_eq, eq_self, ↓reduceIte, t3, bc, hb', tt, a1, ag, t4]
          exact q1
        · have a1 := A2 (fun g => hq ((hQ s).mpr ((hr2 _).mp g)))
          rw [if_neg (by simp [hq]), List.append_nil] at zs
          rw [← zs] at hh
          obtain ⟨σ', q1, q2, q3, q4⟩ := ih (s + 1) n σ (by omega) (by omega) (by omega) f1 f2 hh
          refine ⟨σ', ?_, q2, q3, q4⟩
          simp only [zlet_eq, zg_t, zb_s, zb2_s, z10_eq, eq_self, ↓reduceIte, t3, bc, hb', tt, a1, t4]
          exact q1
      · have hb' : (nI (pcn s 16) = nI bb) = False := z_eq_f hb (by omega) (by omega)
        rw [if_neg (by simp [hb]), List.append_nil] at zs
        rw [← zs] at hh
        obtain ⟨σ', q1, q2, q3, q4⟩ := ih (s + 1) n σ (by omega) (by omega) (by omega) f1 f2 hh
        refine ⟨σ', ?_, q2, q3, q4⟩
        simp only [zlet_eq, zg_t, zb_s, zb2_s, z10_eq, eq_self, ↓reduceIte, t3, bc, hb', t4]
        exact q1
theorem gm_ {P : zM} {a b d : Int32} {N bb : Nat} {Q : Nat → Bool} {pre : List Nat} (w : wPr P) (hN : N ≤ 12) (hbb : bb < 3) (hl : ∀ s, s ≤ 256 → (pre ++ zgl Q bb s).length ≤ 36) (σ0 σ : zS) (hQ : ∀ s, Q s = true ↔ zbo σ0 a b N (nI (zso P s 8))) (m : mPr σ.1 P) (h0 : σ.1 105 49 = nI N) (hr : ∀ i, i < N → σ0.1 93 i = σ.1 131 i ∧ σ0.1 94 i = σ.1 132 i ∧ σ0.1 95 i = σ.1 133 i) (K : Int32 → Option Int32) : ∀ k s n, s + k = 256 → k < n → 1 ≤ s → (∀ j, j < (pre ++ zgl Q bb s).length → ¬ d = nI (10 + j)) → (∀ j (h : j < (pre ++ zgl Q bb 256).length), d = nI (10 + j) → L_X11_wired_62 a b d σ (nI bb) K n (nI (pre ++ zgl Q bb s).length) (nI s) = some (nI (pre ++ zgl Q bb 256)[j])) ∧ ((∀ j, j < (pre ++ zgl Q bb 256).length → ¬ d = nI (10 + j)) → L_X11_wired_62 a b d σ (nI bb) K n (nI (pre ++ zgl Q bb s).length) (nI s) = K (nI (pre ++ zgl Q bb 256).length)) := by
  have ext : ∀ k s, s + k = 256 → ∃ t, pre ++ zgl Q bb 256 = pre ++ zgl Q bb s ++ t := by
    intro k
    induction k with
    | zero =>
      intro s h
      obtain rfl : s = 256 := by omega
      exact ⟨[], (List.append_nil _).symm⟩
    | succ k ih =>
      intro s h
      obtain ⟨t, ht⟩ := ih (s + 1) (by omega)
      have zs := zgl_s Q bb s
      rw [zs, ← List.append_assoc] at ht
      exact ⟨_, ht.trans (List.append_assoc _ _ _)⟩
  intro k
  induction k with
  | zero =>
    intro s n h hn h1 hd
    cases n with
    | zero => omega
    | succ n =>
      obtain rfl : s = 256 := by omega
      have t3 : (256 : Int32) ≤ nI 256 := by decide
      refine ⟨fun j hj q => absurd q (hd j hj), fun _ => ?_⟩
      rw [L_X11_wired_62]
      simp only [zlet_eq, zg_t, zb_s, zb2_s, z10_eq, eq_self, ↓reduceIte, t3]
  | succ k ih =>
    intro s n h hn h1 hd
    cases n with
    | zero => omega
    | succ n =>
      have t3 : ¬ (256 : Int32) ≤ nI s := of_eq_false (z_le_f (a := 256) (by omega) (by omega))
      have t4 : nI s + 1 = nI (s + 1) := nI_add s 1
      have bc := cof (σ := σ) (show s < 2147483648 by omega)
      have pl := pcn_le s 16
      have zs := zgl_s Q bb s
      obtain ⟨A1, A2⟩ := fi11 (σ0 := σ0) (a := a) (b := b) m w (show s < 256 by omega) hN h0 hr
      rw [L_X11_wired_62]
      by_cases hb : pcn s 16 = bb
      · have hb' : (nI (pcn s 16) = nI bb) = True := eq_true (by rw [hb])
        by_cases hq : Q s = true
        · have a1 := A1 ((hQ s).mp hq)
          rw [if_pos (by simp [h1, hb, hq])] at zs
          have len1 : (pre ++ zgl Q bb (s + 1)).length = (pre ++ zgl Q bb s).length + 1 := by
            rw [zs, ← List.append_assoc, List.length_append]
            rfl
          have t10 : (10 : Int32) + nI (pre ++ zgl Q bb s).length = nI (10 + (pre ++ zgl Q bb s).length) := nI_add 10 _
          have t5 : nI (pre ++ zgl Q bb s).length + 1 = nI ((pre ++ zgl Q bb s).length + 1) := nI_add _ 1
          obtain ⟨t, ht⟩ := ext k (s + 1) (by omega)
          have len2 : (pre ++ zgl Q bb 256).length = (pre ++ zgl Q bb (s + 1)).length + t.length := by rw [ht, List.length_append]
          have l36 := hl s (by omega)
          have l256 := hl 256 (by omega)
          by_cases hdd : d = nI (10 + (pre ++ zgl Q bb s).length)
          · have hdd' : (d = nI (10 + (pre ++ zgl Q bb s).length)) = True := eq_true hdd
            refine ⟨fun j hj q => ?_, fun f => absurd hdd (f _ (by omega))⟩
            have hj2 : j = (pre ++ zgl Q bb s).length := by
              rw [hdd] at q
              have := (nI_eq (by omega) (by omega)).mp q
              omega
            simp only [zlet_eq, zg_t, zb_s, zb2_s, z10_eq, eq_self, ↓reduceIte, t3, bc, hb', a1, t10, hdd']
            congr 2
            subst hj2
            have hz : pre ++ zgl Q bb 256 = pre ++ zgl Q bb s ++ ([s] ++ t) := by
              rw [ht, zs, ← List.append_assoc, List.append_assoc]
            have g : (pre ++ zgl Q bb 256)[(pre ++ zgl Q bb s).length]? = some s := by
              rw [hz, List.getElem?_append_right (Nat.le_refl _), Nat.sub_self]
              rfl
            rw [List.getElem?_eq_getElem hj] at g
            exact (Option.some.inj g).symm
          · obtain ⟨r1, r2⟩ := ih (s + 1) n (by omega) (by omega) (by omega) (fun j hj => by
              by_cases hje : j = (pre ++ zgl Q bb s).length
              · rw [hje]; exact hdd
              · exact hd j (by omega))
            rw [len1] at r1 r2
            refine ⟨fun j hj q => ?_, fun f => ?_⟩
            · have := r1 j hj q
              simp only [zlet_eq, zg_t, zb_s, zb2_s, z10_eq, eq_self, ↓reduceIte, t3, bc, hb', a1, t10, hdd, t4, t5]
              exact this
            · have := r2 f
              simp only [zlet_eq, zg_t, zb_s, zb2_s, z10_eq, eq_self, ↓reduceIte, t3, bc, hb', a1, t10, hdd, t4, t5]
              exact this
        · have a1 := A2 (fun g => hq ((hQ s).mpr g))
          rw [if_neg (by simp [hq]), List.append_nil] at zs
          rw [← zs] at hd ⊢
          obtain ⟨r1, r2⟩ := ih (s + 1) n (by omega) (by omega) (by omega) hd
          refine ⟨fun j hj q => ?_, fun f => ?_⟩
          · have := r1 j hj q
            simp only [zlet_eq, zg_t, zb_s, zb2_s, z10_eq, eq_self, ↓reduceIte, t3, bc, hb', a1, t4]
            exact this
          · have := r2 f
            simp only [zlet_eq, zg_t, zb_s, zb2_s, z10_eq, eq_self, ↓reduceIte, t3, bc, hb', a1, t4]
            exact this
      · have hb' : (nI (pcn s 16) = nI bb) = False := z_eq_f hb (by omega) (by omega)
        rw [if_neg (by simp [hb]), List.append_nil] at zs
        rw [← zs] at hd ⊢
        obtain ⟨r1, r2⟩ := ih (s + 1) n (by omega) (by omega) (by omega) hd
        refine ⟨fun j hj q => ?_, fun f => ?_⟩
        · have := r1 j hj q
          simp only [zlet_eq, zg_t, zb_s, zb2_s, z10_eq, eq_self, ↓reduceIte, t3, bc, hb', t4]
          exact this
        · have := r2 f
          simp only [zlet_eq, zg_t, zb_s, zb2_s, z10_eq, eq_self, ↓reduceIte, t3, bc, hb', t4]
          exact this
