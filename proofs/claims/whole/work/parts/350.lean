set_option maxRecDepth 8000
/-! ===== the rounds, one after another ===== -/
def zlr (k : Nat) (M F : Nat → Nat) (s t : Nat) : Prop := zgd k M s t ∧ F s = F (s ^^^ t) + 1 ∧ ∀ u, u < t → ¬ (zgd k M s u ∧ F s = F (s ^^^ u) + 1)
def zrl (k : Nat) (M F : Nat → Nat) : List Nat → Nat → Prop
  | [], s => s = 0
  | t :: r, s => s ≠ 0 ∧ zlr k M F s t ∧ zrl k M F r (s ^^^ t)
theorem few8 {k : Nat} {M F : Nat → Nat} (hF : zFew k M F) : ∀ s, s < 256 → F s = 100 ∨ F s ≤ pcn s 8 := by
  intro s
  induction s using Nat.strongRecOn with
  | ind s ih =>
    intro hs
    by_cases h0 : s = 0
    · right
      rw [h0, hF.1]
      exact Nat.zero_le _
    · obtain ⟨f1, f2, f3⟩ := hF.2 s (by omega) hs
      rcases f3 with e | ⟨t, t1, t2⟩
      · exact Or.inl e
      · right
        have lt := zgd_lt hs t1
        rcases ih _ lt (by omega) with e | e
        · rw [e] at t2; omega
        · obtain ⟨-, a, ⟨d, d1, d2, d3, d4⟩, -⟩ := t1
          have := pcn_x a 8
          have := pcn_1 d1 d3
          omega
theorem few_8 {k : Nat} {M F : Nat → Nat} (hF : zFew k M F) {s : Nat} (hs : s < 256) : F s = 100 ∨ F s ≤ 8 := by
  rcases few8 hF s hs with e | e
  · exact Or.inl e
  · exact Or.inr (Nat.le_trans e (pcn_le s 8))
/-- class and reference hold the same number -/
theorem few99 {k : Nat} {M F G : Nat → Nat} (hF : zFew k M F) (hG : zFb 99 k M G 256) : ∀ s, s < 256 → G s = if F s = 100 then 99 else F s := by
  intro s
  induction s using Nat.strongRecOn with
  | ind s ih =>
    intro hs
    by_cases h0 : s = 0
    · rw [h0, hF.1, hG.1]
      rfl
    · obtain ⟨f1, f2, f3⟩ := hF.2 s (by omega) hs
      obtain ⟨g1, g2, g3⟩ := hG.2 s (by omega) hs
      have hF8 := few_8 hF hs
      have rel : ∀ t, zgd k M s t → G (s ^^^ t) = (if F (s ^^^ t) = 100 then 99 else F (s ^^^ t)) ∧ (F (s ^^^ t) = 100 ∨ F (s ^^^ t) ≤ 8) := by
        intro t ht
        have lt := zgd_lt hs ht
        exact ⟨ih _ lt (by omega), few_8 hF (by omega)⟩
      by_cases h1 : F s = 100
      · rw [if_pos h1]
        rcases g3 with e | ⟨t, t1, t2⟩
        · exact e
        · exfalso
          obtain ⟨r1, r2⟩ := rel t t1
          have := f2 t t1
          split at r1 <;> omega
      · rw [if_neg h1]
        rcases f3 with e | ⟨t, t1, t2⟩
        · exact absurd e h1
        · obtain ⟨r1, r2⟩ := rel t t1
          have a := g2 t t1
          rw [if_neg (by omega)] at r1
          rcases g3 with e | ⟨u, u1, u2⟩
          · omega
          · obtain ⟨q1, q2⟩ := rel u u1
            have := f2 u u1
            split at q1 <;> omega
theorem rl_ex {k : Nat} {M F : Nat → Nat} (hF : zFew k M F) : ∀ n s, s < 256 → F s = n → n < 100 → ∃ l, zrl k M F l s ∧ l.length = n := by
  intro n
  induction n with
  | zero =>
    intro s hs h _
    refine ⟨[], ?_, rfl⟩
    rcases Nat.eq_zero_or_pos s with e | e
    · exact e
    · obtain ⟨f1, f2, f3⟩ := hF.2 s e hs
      rcases f3 with x | ⟨t, t1, t2⟩ <;> omega
  | succ n ih =>
    intro s hs h hn
    have h0 : s ≠ 0 := by
      intro q
      rw [q, hF.1] at h
      omega
    obtain ⟨f1, f2, f3⟩ := hF.2 s (by omega) hs
    rcases f3 with x | ⟨t, t1, t2⟩
    · omega
    · obtain ⟨u, u1, u2⟩ := pk_least (fun u => zgd k M s u ∧ F s = F (s ^^^ u) + 1) ⟨t, t1, t2⟩
      have lt := zgd_lt hs u1.1
      obtain ⟨l, l1, l2⟩ := ih (s ^^^ u) (by omega) (by omega) (by omega)
      exact ⟨u :: l, ⟨h0, ⟨u1.1, u1.2, u2⟩, l1⟩, by rw [List.length_cons, l2]⟩
theorem rl_len {k : Nat} {M F : Nat → Nat} (hF : zFew k M F) : ∀ l s, zrl k M F l s → F s = l.length := by
  intro l
  induction l with
  | nil =>
    intro s h
    rw [show s = 0 from h, hF.1]
    rfl
  | cons t r ih =>
    intro s h
    rw [h.2.1.2.1, ih _ h.2.2]
    rfl
/-- each event is in a round -/
theorem rl_ev {k : Nat} {M F : Nat → Nat} {e : Nat} : ∀ l s, zrl k M F l s → s.testBit e = true → ∃ i, i < l.length ∧ (l.getD i 0).testBit e = true := by
  intro l
  induction l with
  | nil =>
    intro s h he
    rw [show s = 0 from h, Nat.zero_testBit] at he
    cases he
  | cons t r ih =>
    intro s h he
    cases ht : t.testBit e
    · obtain ⟨i, i1, i2⟩ := ih (s ^^^ t) h.2.2 (by rw [Nat.testBit_xor, he, ht]; rfl)
      exact ⟨i + 1, by rw [List.length_cons]; omega, i2⟩
    · exact ⟨0, by rw [List.length_cons]; omega, ht⟩
theorem rl_256 {k : Nat} {M F : Nat → Nat} : ∀ l s, zrl k M F l s → ∀ i, l.getD i 0 < 256 := by
  intro l
  induction l with
  | nil =>
    intro s _ i
    show 0 < 256
    omega
  | cons t r ih =>
    intro s h i
    cases i with
    | zero => exact h.2.1.1.1
    | succ i => exact ih _ h.2.2 i
theorem lr_ {k : Nat} {M F : Nat → Nat} {σ : zS} {s t : Nat} (hs : s < 256) (h0 : s ≠ 0) (hF : zFew k M F) (hv : ∀ s, s < 256 → σ.1 86 s = nI (if zfits k M s then 1 else 0) ∧ σ.1 87 s = nI (F s)) (ht : zlr k M F s t) : ∀ q w n, w + q = t → q < n → 2 ^ zlo s ≤ w → L_X0_leastRound_7 (nI s) σ (nI (2 ^ zlo s)) n (nI w) = some (nI t) := by
  obtain ⟨g1, g2, g3⟩ := ht
  have tle := sub_le g1.2.1
  have l8 : zlo s < 8 := (zF1 ⟨s, hs⟩ h0).2.2.2.1
  have gt := (zgd_i hs h0).mp g1
  have lt := zgd_lt hs g1
  intro q
  induction q with
  | zero =>
    intro w n h hn _
    cases n with
    | zero => omega
    | succ n =>
      obtain rfl : w = t := by omega
      rw [L_X0_leastRound_7, zlet_eq]
      by_cases he : w = s
      · rw [he, if_pos (nI_le (Nat.le_refl _) (by omega))]
      · have mt : ((nI w &&& nI (2 ^ zlo s)) = 0) = (w.testBit (zlo s) = false) := zF4 ⟨w, by omega⟩ ⟨zlo s, l8⟩
        have e0 : w ^^^ (w &&& s) = 0 := by rw [xor0, gt.1]
        rw [if_neg (nI_ge (by omega) (by omega)), nI_wo, e0, if_pos (show nI 0 = 0 from rfl), if_neg (by rw [mt, gt.2.1]; simp), zlet_eq, if_neg (by decide), zi_nI (by omega) (by omega), zg_t, zcla (by omega), (hv w (by omega)).1, if_neg (fun q => fib_.mp q gt.2.2), nI_xor, zi_nI (by omega) (by omega), zg_t, zi_nI (show s < 256 from hs) (by omega), zg_t, zcla (by omega), zcla (by omega), (hv _ (show s ^^^ w < 256 by omega)).2, (hv _ hs).2]
        have := (hF.2 s (by omega) hs).1
        rw [if_neg (nI_ge (by omega) (by omega))]
  | succ q ih =>
    intro w n h hn hw
    cases n with
    | zero => omega
    | succ n =>
      have t4 : nI w + 1 = nI (w + 1) := nI_add w 1
      have I := ih (w + 1) n (by omega) (by omega) (by omega)
      have mt : ((nI w &&& nI (2 ^ zlo s)) = 0) = (w.testBit (zlo s) = false) := zF4 ⟨w, by omega⟩ ⟨zlo s, l8⟩
      have x0 : (nI (w ^^^ (w &&& s)) = 0) ↔ w &&& s = w := by
        have b : w ^^^ (w &&& s) < 256 := Nat.xor_lt_two_pow (n := 8) (by omega) (Nat.lt_of_le_of_lt Nat.and_le_left (by omega))
        rw [show (0 : Int32) = nI 0 from rfl, nI_eq (by omega) (by omega), xor0]
        exact ⟨fun h => h.symm, fun h => h.symm⟩
      rw [L_X0_leastRound_7, zlet_eq, if_neg (nI_ge (by omega) (by omega)), nI_wo, t4]
      by_cases hsub : w &&& s = w
      · rw [if_pos (x0.mpr hsub)]
        by_cases hb : w.testBit (zlo s) = false
        · rw [if_pos (by rw [mt]; exact hb), zlet_eq, if_pos rfl, zlet_eq]
          exact I
        · have hb' : w.testBit (zlo s) = true := by simpa using hb
          rw [if_neg (by rw [mt]; exact hb), zlet_eq, if_neg (by decide), zi_nI (by omega) (by omega), zg_t, zcla (by omega), (hv w (by omega)).1]
          by_cases hz : zfits k M w = true
          · have gd : zgd k M s w := (zgd_i hs h0).mpr ⟨hsub, hb', hz⟩
            have lt2 := zgd_lt hs gd
            have := (hF.2 s (by omega) hs).2.1 w gd
            have ne : ¬ F s = F (s ^^^ w) + 1 := fun q => g3 w (by omega) ⟨gd, q⟩
            have b100 : F (s ^^^ w) ≤ 100 := by
              by_cases e : s ^^^ w = 0
              · rw [e, hF.1]; omega
              · exact (hF.2 _ (by omega) (by omega)).1
            rw [if_neg (fun q => fib_.mp q hz), nI_xor, zi_nI (by omega) (by omega), zg_t, zi_nI (show s < 256 from hs) (by omega), zg_t, zcla (by omega), zcla (by omega), (hv _ (show s ^^^ w < 256 by omega)).2, (hv _ hs).2, if_pos (nI_le (by omega) (by omega)), zlet_eq]
            exact I
          · rw [if_pos (fib_.mpr hz), zlet_eq]
            exact I
      · rw [if_neg (fun q => hsub (x0.mp q)), zlet_eq, if_pos rfl, zlet_eq]
        exact I
theorem lr_10 {k : Nat} {M F : Nat → Nat} {σ : zS} {s t : Nat} (hs : s < 256) (h0 : s ≠ 0) (hF : zFew k M F) (hv : ∀ s, s < 256 → σ.1 86 s = nI (if zfits k M s then 1 else 0) ∧ σ.1 87 s = nI (F s)) (ht : zlr k M F s t) : J_X0_leastRound (nI s) σ = some (nI t) := by
  have f1 : (nI s &&& -nI s) = nI (2 ^ zlo s) := (zF1 ⟨s, hs⟩ h0).1
  have gt := (zgd_i hs h0).mp ht.1
  have tle := sub_le ht.1.2.1
  have l8 : zlo s < 8 := (zF1 ⟨s, hs⟩ h0).2.2.2.1
  have le : 2 ^ zlo s ≤ t := Nat.ge_two_pow_of_testBit gt.2.1
  have sb : t - 2 ^ zlo s ≤ t := Nat.sub_le _ _
  unfold J_X0_leastRound
  rw [f1, zlet_eq]
  exact lr_ hs h0 hF hv ht (t - 2 ^ zlo s) (2 ^ zlo s) 4294967296 (by omega) (by omega) (Nat.le_refl _)
theorem dv_ {k : Nat} {M F : Nat → Nat} (hF : zFew k M F) {N : Nat} (hN : N ≤ 8) : ∀ l s i n σ, zrl k M F l s → s < 256 → i + l.length = N → l.length < n → (∀ s, s < 256 → σ.1 86 s = nI (if zfits k M s then 1 else 0) ∧ σ.1 87 s = nI (F s)) → ∃ σ', L_X0_divide_25 (nI N) n (nI s) (nI i) σ = some (nI N, σ') ∧ σ'.2 = σ.2 ∧ (∀ c j, ¬ (c = 85 ∧ i ≤ j) → σ'.1 c j = σ.1 c j) ∧ ∀ j, j < l.length → σ'.1 85 (i + j) = nI (l.getD j 0) := by
  intro l
  induction l with
  | nil =>
    intro s i n σ h hs hi hn hv
    cases n with
    | zero => exact absurd hn (by simp)
    | succ n =>
      have : i = N := by simpa using hi
      subst this
      refine ⟨σ, ?_, rfl, fun _ _ _ => rfl, fun j hj => absurd hj (by simp)⟩
      rw [L_X0_divide_25, zlet_eq, if_pos (nI_le (Nat.le_refl _) (by omega))]
  | cons t r ih =>
    intro s i n σ h hs hi hn hv
    rw [List.length_cons] at hi hn
    cases n with
    | zero => omega
    | succ n =>
      obtain ⟨h0, ht, hr⟩ := h
      have lt := zgd_lt hs ht.1
      have t4 : nI i + 1 = nI (i + 1) := nI_add i 1
      have R := lr_10 hs h0 hF hv ht
      obtain ⟨σ', e1, e2, e3, e4⟩ := ih (s ^^^ t) (i + 1) n (zsI σ 85 i (nI t)) hr (by omega) (by omega) (by omega) (fun u hu => ⟨by rw [zI_n (by omega)]; exact (hv u hu).1, by rw [zI_n (by omega)]; exact (hv u hu).2⟩)
      refine ⟨σ', ?_, e2, fun c j hc => ?_, fun j hj => ?_⟩
      · rw [L_X0_divide_25, zlet_eq, if_neg (nI_ge (by omega) (by omega)), if_neg (show ¬ (8 : Int32) ≤ nI i from nI_ge (b := 8) (by omega) (by omega)), R, zb_s, zi_nI (by omega) (by omega), zg_t, zcla (by omega), zlet_eq, zg_t, zI_y, nI_xor, zlet_eq, t4, zlet_eq]
        exact e1
      · rw [e3 c j (by omega), zI_n (by omega)]
      · cases j with
        | zero =>
          rw [e3 _ _ (by omega)]
          exact zI_y
        | succ j =>
          have := e4 j (by rw [List.length_cons] at hj; omega)
          rw [show i + (j + 1) = i + 1 + j by omega, this]
          rfl
/-- the reference's next round -/
theorem f216 {k : Nat} {M G : Nat → Nat} {K : Int32 → Option zS} {σ : zS} {s t : Nat} (hs : s < 256) (h0 : s ≠ 0) (hv : ∀ s, s < 256 → σ.1 128 s = nI (if zfits k M s then 1 else 0) ∧ σ.1 127 s = nI (G s) ∧ G s ≤ 99) (ht : zlr k M G s t) : ∀ q w n, w + q = t → q < n → L_X11_findRounds_216 (nI s) σ K n (nI w) = K (nI t) := by
  obtain ⟨g1, g2, g3⟩ := ht
  have tle := sub_le g1.2.1
  have l8 : zlo s < 8 := (zF1 ⟨s, hs⟩ h0).2.2.2.1
  have f1 : (nI s &&& -nI s) = nI (2 ^ zlo s) := (zF1 ⟨s, hs⟩ h0).1
  have gt := (zgd_i hs h0).mp g1
  have lt := zgd_lt hs g1
  intro q
  induction q with
  | zero =>
    intro w n h hn
    cases n with
    | zero => omega
    | succ n =>
      obtain rfl : w = t := by omega
      have mt : ((nI w &&& nI (2 ^ zlo s)) = 0) = (w.testBit (zlo s) = false) := zF4 ⟨w, by omega⟩ ⟨zlo s, l8⟩
      have e0 : w ^^^ (w &&& s) = 0 := by rw [xor0, gt.1]
      have sc : s ^^^ (s &&& w) = s ^^^ w := by rw [Nat.and_comm, gt.1]
      have a1 : nI (G (s ^^^ w)) + 1 = nI (G (s ^^^ w) + 1) := nI_add _ 1
      rw [L_X11_findRounds_216, zlet_eq, nI_wo, e0, if_pos (show nI 0 = 0 from rfl), f1, if_neg (by rw [mt, gt.2.1]; simp), zi_nI (by omega) (by omega), zg_t, zcla (by omega), (hv w (by omega)).1, if_neg (fun q => fib_.mp q gt.2.2), nI_wo, sc, zi_nI (by omega) (by omega), zg_t, zi_nI (show s < 256 from hs) (by omega), zg_t, zcla (by omega), zcla (by omega), (hv _ (show s ^^^ w < 256 by omega)).2.1, (hv _ hs).2.1, a1, if_pos (by rw [g2])]
  | succ q ih =>
    intro w n h hn
    cases n with
    | zero => omega
    | succ n =>
      have t4 : nI w + 1 = nI (w + 1) := nI_add w 1
      have I := ih (w + 1) n (by omega) (by omega)
      have mt : ((nI w &&& nI (2 ^ zlo s)) = 0) = (w.testBit (zlo s) = false) := zF4 ⟨w, by omega⟩ ⟨zlo s, l8⟩
      have x0 : (nI (w ^^^ (w &&& s)) = 0) ↔ w &&& s = w := by
        have b : w ^^^ (w &&& s) < 256 := Nat.xor_lt_two_pow (n := 8) (by omega) (Nat.lt_of_le_of_lt Nat.and_le_left (by omega))
        rw [show (0 : Int32) = nI 0 from rfl, nI_eq (by omega) (by omega), xor0]
        exact ⟨fun h => h.symm, fun h => h.symm⟩
      rw [L_X11_findRounds_216, zlet_eq, nI_wo, t4, f1]
      by_cases hsub : w &&& s = w
      · rw [if_pos (x0.mpr hsub)]
        by_cases hb : w.testBit (zlo s) = false
        · rw [if_pos (by rw [mt]; exact hb), zlet_eq]
          exact I
        · have hb' : w.testBit (zlo s) = true := by simpa using hb
          rw [if_neg (by rw [mt]; exact hb), zi_nI (by omega) (by omega), zg_t, zcla (by omega), (hv w (by omega)).1]
          by_cases hz : zfits k M w = true
          · have gd : zgd k M s w := (zgd_i hs h0).mpr ⟨hsub, hb', hz⟩
            have lt2 := zgd_lt hs gd
            have ne : ¬ (G s = G (s ^^^ w) + 1) := fun q => g3 w (by omega) ⟨gd, q⟩
            have sc : s ^^^ (s &&& w) = s ^^^ w := by rw [Nat.and_comm, hsub]
            have a1 : nI (G (s ^^^ w)) + 1 = nI (G (s ^^^ w) + 1) := nI_add _ 1
            have b1 := (hv _ (show s ^^^ w < 256 by omega)).2.2
            have b2 := (hv _ hs).2.2
            rw [if_neg (fun q => fib_.mp q hz), nI_wo, sc, zi_nI (by omega) (by omega), zg_t, zi_nI (show s < 256 from hs) (by omega), zg_t, zcla (by omega), zcla (by omega), (hv _ (show s ^^^ w < 256 by omega)).2.1, (hv _ hs).2.1, a1, if_neg (fun q => ne ((nI_eq (by omega) (by omega)).mp q).symm), zlet_eq]
            exact I
          · rw [if_pos (fib_.mpr hz), zlet_eq]
            exact I
      · rw [if_neg (fun q => hsub (x0.mp q)), zlet_eq]
        exact I
theorem f210 {k : Nat} {M G : Nat → Nat} {N : Nat} (hN : N ≤ 8) : ∀ l s i n σ, zrl k M G l s → s < 256 → i + l.length = N → l.length < n → σ.1 105 41 = nI i → (∀ s, s < 256 → σ.1 128 s = nI (if zfits k M s then 1 else 0) ∧ σ.1 127 s = nI (G s) ∧ G s ≤ 99) → ∃ σ', L_X11_findRounds_210 n (nI s) σ = some σ' ∧ σ'.1 105 41 = nI N ∧ σ'.2 = σ.2 ∧ (∀ c j, ¬ (c = 129 ∧ i ≤ j) → ¬ (c = 105 ∧ j = 41) → σ'.1 c j = σ.1 c j) ∧ ∀ j, j < l.length → σ'.1 129 (i + j) = nI (l.getD j 0) := by
  intro l
  induction l with
  | nil =>
    intro s i n σ h hs hi hn hx hv
    cases n with
    | zero => exact absurd hn (by simp)
    | succ n =>
      have : i = N := by simpa using hi
      subst this
      rw [show s = 0 from h]
      refine ⟨σ, ?_, hx, rfl, fun _ _ _ _ => rfl, fun j hj => absurd hj (by simp)⟩
      rw [L_X11_findRounds_210, zlet_eq, if_pos (show nI 0 = 0 from rfl)]
  | cons t r ih =>
    intro s i n σ h hs hi hn hx hv
    rw [List.length_cons] at hi hn
    cases n with
    | zero => omega
    | succ n =>
      obtain ⟨h0, ht, hr⟩ := h
      have lt := zgd_lt hs ht.1
      have tle := sub_le ht.1.2.1
      have t4 : nI i + 1 = nI (i + 1) := nI_add i 1
      have gt := (zgd_i hs h0).mp ht.1
      have t1 : 1 ≤ t := by
        rcases Nat.eq_zero_or_pos t with q | q
        · have := gt.2.1
          rw [q, Nat.zero_testBit] at this
          cases this
        · exact q
      have sc : s ^^^ (s &&& t) = s ^^^ t := by rw [Nat.and_comm, gt.1]
      have R := f216 (K := D_X11_findRounds_269 (L_X11_findRounds_210 n) (nI s) σ) hs h0 hv ht (t - 1) 1 4294967296 (by omega) (by omega)
      have R' : L_X11_findRounds_216 (nI s) σ (D_X11_findRounds_269 (L_X11_findRounds_210 n) (nI s) σ) 4294967296 (1 : Int32) = D_X11_findRounds_269 (L_X11_findRounds_210 n) (nI s) σ (nI t) := R
      have y0 : (zsI σ 129 i (nI t)).1 105 41 = nI i := by rw [zI_n (by omega)]; exact hx
      obtain ⟨σ', e1, e2, e3, e4, e5⟩ := ih (s ^^^ t) (i + 1) n (zsI (zsI σ 129 i (nI t)) 105 41 (nI (i + 1))) hr (by omega) (by omega) (by omega) zI_y (fun u hu => ⟨by rw [zI_n (by omega), zI_n (by omega)]; exact (hv u hu).1, by rw [zI_n (by omega), zI_n (by omega)]; exact (hv u hu).2.1, (hv u hu).2.2⟩)
      refine ⟨σ', ?_, e2, e3, fun c j hc hd => ?_, fun j hj => ?_⟩
      · rw [L_X11_findRounds_210, zlet_eq, if_neg (nI_ne0 (by omega) (by omega)), zlet_eq, R']
        unfold D_X11_findRounds_269
        rw [hx, zi_nI (by omega) (by omega), zg_t, zcla (by omega), zlet_eq, y0, t4, zlet_eq, nI_wo, sc, zlet_eq]
        exact e1
      · rw [e4 c j (by omega) hd, zI_n (by omega), zI_n (by omega)]
      · cases j with
        | zero =>
          rw [e4 _ _ (by omega) (by omega), zI_n (by omega)]
          exact zI_y
        | succ j =>
          have := e5 j (by rw [List.length_cons] at hj; omega)
          rw [show i + (j + 1) = i + 1 + j by omega, this]
          rfl
