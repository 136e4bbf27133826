set_option maxRecDepth 8000
/-! ===== placing events ===== -/
def zlo (s : Nat) : Nat := (zev s).headD 0
def zrs (s : Nat) : Nat := s ^^^ 2 ^ zlo s
theorem zF1 : ∀ s : Fin 256, s.val ≠ 0 → (nI s.val &&& -nI s.val) = nI (2 ^ zlo s.val) ∧ nI s.val ^^^ nI (2 ^ zlo s.val) = nI (zrs s.val) ∧ zrs s.val < 256 ∧ zlo s.val < 8 ∧ zev s.val = zlo s.val :: zev (zrs s.val) := by decide +kernel
theorem zF2 : ∀ s : Fin 256, pcn s.val 16 = (zev s.val).length := by decide +kernel
theorem zF3 : ∀ u : Fin 16, ∀ c : Fin 4, (nI u.val ||| ((1 : Int32) <<< (nI c.val &&& 31))) = nI (u.val ||| 2 ^ c.val) ∧ (u.val ||| 2 ^ c.val) < 16 := by decide +kernel
theorem zF4 : ∀ M : Fin 256, ∀ e : Fin 8, ((nI M.val &&& nI (2 ^ e.val)) = 0) = (M.val.testBit e.val = false) := by
  have : ∀ M : Fin 256, ∀ e : Fin 8, decide ((nI M.val &&& nI (2 ^ e.val)) = 0) = decide (M.val.testBit e.val = false) := by decide +kernel
  intro M e
  exact propext (decide_eq_decide.mp (this M e))
theorem zF5 : ∀ k : Fin 5, ∀ u : Fin 16, u.val < 2 ^ k.val → pcn u.val 16 ≤ k.val ∧ ∀ c : Fin 4, c.val < k.val → u.val.testBit c.val = false → pcn (u.val ||| 2 ^ c.val) 16 = pcn u.val 16 + 1 ∧ (u.val ||| 2 ^ c.val) < 2 ^ k.val := by decide +kernel
/-- whether an event may go to a counter -/
def zfc (k : Nat) (M : Nat → Nat) (s u c : Nat) : Bool := !u.testBit c && (M c).testBit (zlo s) && zcan k M (zev (zrs s)) (u ||| 2 ^ c)
theorem zcan_c {k : Nat} {M : Nat → Nat} {s u : Nat} (hs : s < 256) (h0 : s ≠ 0) : zcan k M (zev s) u = (List.range k).any (zfc k M s u) := by
  obtain ⟨-, -, -, -, h⟩ := zF1 ⟨s, hs⟩ h0
  rw [h]
  rfl
theorem zcan_len {k : Nat} {M : Nat → Nat} (hk : k ≤ 4) : ∀ l u, u < 2 ^ k → zcan k M l u = true → l.length + pcn u 16 ≤ k := by
  have p4 : 2 ^ k ≤ 16 := Nat.pow_le_pow_right (n := 2) (by omega) (show k ≤ 4 from hk)
  intro l
  induction l with
  | nil =>
    intro u hu _
    have := (zF5 ⟨k, by omega⟩ ⟨u, by omega⟩ hu).1
    simpa using this
  | cons e r ih =>
    intro u hu h
    rw [zcan, List.any_eq_true] at h
    obtain ⟨c, hc, h2⟩ := h
    rw [List.mem_range] at hc
    simp only [Bool.and_eq_true, Bool.not_eq_true'] at h2
    obtain ⟨⟨h3, h4⟩, h5⟩ := h2
    obtain ⟨q1, q2⟩ := (zF5 ⟨k, by omega⟩ ⟨u, by omega⟩ hu).2 ⟨c, by omega⟩ hc h3
    have := ih (u ||| 2 ^ c) q2 h5
    rw [List.length_cons]
    have q1' : pcn (u ||| 2 ^ c) 16 = pcn u 16 + 1 := q1
    omega
theorem lc_loop {k : Nat} {M : Nat → Nat} {σ : zS} {s u : Nat} (hk : k ≤ 4) (k3 : σ.1 82 0 = nI k) (hM : ∀ c, c < 4 → M c < 256 ∧ σ.1 83 c = nI (M c)) (hs : s < 256) (h0 : s ≠ 0) (hu : u < 2 ^ k) (K : Int32 → Int32 → zS → Option Int32) (hK : ∀ c, c < k → u.testBit c = false → K (nI (zrs s)) (nI (u ||| 2 ^ c)) σ = some (nI (if zcan k M (zev (zrs s)) (u ||| 2 ^ c) = true then 1 else 0))) : ∀ q c n, c + q = k → q < n → ((∃ i, c ≤ i ∧ i < k ∧ zfc k M s u i = true ∧ (∀ j, c ≤ j → j < i → zfc k M s u j = false) ∧ L_X0_leastCounter_27 (nI s) (nI u) σ K (nI (2 ^ zlo s)) n (nI c) = some (nI i)) ∨ ((∀ j, c ≤ j → j < k → zfc k M s u j = false) ∧ L_X0_leastCounter_27 (nI s) (nI u) σ K (nI (2 ^ zlo s)) n (nI c) = some (-4))) := by
  have p4 : 2 ^ k ≤ 16 := Nat.pow_le_pow_right (n := 2) (by omega) (show k ≤ 4 from hk)
  obtain ⟨f1, f2, f3, f4, f5⟩ := zF1 ⟨s, hs⟩ h0
  have f2' : nI s ^^^ nI (2 ^ zlo s) = nI (zrs s) := f2
  have f4' : zlo s < 8 := f4
  intro q
  induction q with
  | zero =>
    intro c n h hn
    cases n with
    | zero => omega
    | succ n =>
      obtain rfl : c = k := by omega
      have t3 : nI c ≤ nI c := nI_le (Nat.le_refl _) (by omega)
      right
      refine ⟨fun j h1 h2 => absurd h1 (by omega), ?_⟩
      rw [L_X0_leastCounter_27]
      simp only [zlet_eq, k3, if_pos t3]
  | succ q ih =>
    intro c n h hn
    cases n with
    | zero => omega
    | succ n =>
      have t3 : ¬ nI k ≤ nI c := nI_ge (by omega) (by omega)
      have t4 : nI c + 1 = nI (c + 1) := nI_add c 1
      have tb := tb31 (s := u) (e := c) (by omega) (by omega)
      have z1 : zi (nI c) 4 = true := zi_nI (by omega) (by omega)
      have z2 : (nI c).toNatClampNeg = c := zcla (by omega)
      obtain ⟨mb, mv⟩ := hM c (by omega)
      have mt := zF4 ⟨M c, mb⟩ ⟨zlo s, f4'⟩
      have mt' : ((nI (M c) &&& nI (2 ^ zlo s)) = 0) = ((M c).testBit (zlo s) = false) := mt
      have or3 := (zF3 ⟨u, by omega⟩ ⟨c, by omega⟩).1
      have or3' : (nI u ||| ((1 : Int32) <<< (nI c &&& 31))) = nI (u ||| 2 ^ c) := or3
      -- the step where the counter doesn't do
      have skip : zfc k M s u c = false → L_X0_leastCounter_27 (nI s) (nI u) σ K (nI (2 ^ zlo s)) (n + 1) (nI c) = L_X0_leastCounter_27 (nI s) (nI u) σ K (nI (2 ^ zlo s)) n (nI (c + 1)) := by
        intro hf
        rw [L_X0_leastCounter_27]
        by_cases hub : u.testBit c = true
        · rw [if_pos hub] at tb
          have nz : ¬ nI 1 = (0 : Int32) := by decide
          simp only [zlet_eq, k3, if_neg t3, tb, if_neg nz, D_X0_leastCounter_62, if_true, t4]
        · have hub' : u.testBit c = false := by simpa using hub
          rw [if_neg hub] at tb
          have z0 : (nI 0 : Int32) = 0 := rfl
          by_cases hmb : (M c).testBit (zlo s) = false
          · have mt1 : nI (M c) &&& nI (2 ^ zlo s) = 0 := by rw [mt']; exact hmb
            simp only [zlet_eq, k3, if_neg t3, tb, z0, if_true, z1, z2, zg_t, mv, mt1, D_X0_leastCounter_62, t4]
          · have mt1 : ¬ nI (M c) &&& nI (2 ^ zlo s) = 0 := by rw [mt']; exact hmb
            have hk2 := hK c (by omega) hub'
            have hz : zcan k M (zev (zrs s)) (u ||| 2 ^ c) = false := by
              unfold zfc at hf
              rw [hub'] at hf
              simp only [Bool.not_false, Bool.true_and] at hf
              cases hx : zcan k M (zev (zrs s)) (u ||| 2 ^ c)
              · rfl
              · rw [hx, Bool.and_true] at hf
                exact absurd hf hmb
            rw [if_neg (by rw [hz]; simp)] at hk2
            have one0 : ¬ (1 : Int32) = 0 := by decide
            simp only [zlet_eq, k3, if_neg t3, tb, z0, if_true, z1, z2, zg_t, mv, if_neg mt1, D_X0_leastCounter_62, if_neg one0, f2', or3', hk2, zb_s, t4]
      by_cases hf : zfc k M s u c = true
      · left
        refine ⟨c, Nat.le_refl _, by omega, hf, fun j h1 h2 => absurd h1 (by omega), ?_⟩
        have hf' := hf
        unfold zfc at hf'
        simp only [Bool.and_eq_true, Bool.not_eq_true'] at hf'
        obtain ⟨⟨hub', hmb⟩, hz⟩ := hf'
        rw [if_neg (by rw [hub']; simp)] at tb
        have z0 : (nI 0 : Int32) = 0 := rfl
        have mt1 : ¬ nI (M c) &&& nI (2 ^ zlo s) = 0 := by rw [mt', hmb]; simp
        have hk2 := hK c (by omega) hub'
        rw [if_pos hz] at hk2
        have one0 : ¬ (1 : Int32) = 0 := by decide
        have one1 : ¬ nI 1 = (0 : Int32) := by decide
        rw [L_X0_leastCounter_27]
        simp only [zlet_eq, k3, if_neg t3, tb, z0, if_true, z1, z2, zg_t, mv, if_neg mt1, D_X0_leastCounter_62, if_neg one0, f2', or3', hk2, zb_s, if_neg one1]
      · have hf' : zfc k M s u c = false := by simpa using hf
        rw [skip hf']
        rcases ih (c + 1) n (by omega) (by omega) with ⟨i, i1, i2, i3, i4, i5⟩ | ⟨i1, i2⟩
        · left
          refine ⟨i, by omega, i2, i3, fun j h1 h2 => ?_, i5⟩
          by_cases hj : j = c
          · rw [hj]; exact hf'
          · exact i4 j (by omega) h2
        · right
          refine ⟨fun j h1 h2 => ?_, i2⟩
          by_cases hj : j = c
          · rw [hj]; exact hf'
          · exact i1 j (by omega) h2
theorem lc_ {k : Nat} {M : Nat → Nat} {σ : zS} {s u : Nat} (hk : k ≤ 4) (k3 : σ.1 82 0 = nI k) (hM : ∀ c, c < 4 → M c < 256 ∧ σ.1 83 c = nI (M c)) (hs : s < 256) (h0 : s ≠ 0) (hu : u < 2 ^ k) (K : Int32 → Int32 → zS → Option Int32) (hK : pcn s 16 + pcn u 16 ≤ k → ∀ c, c < k → u.testBit c = false → K (nI (zrs s)) (nI (u ||| 2 ^ c)) σ = some (nI (if zcan k M (zev (zrs s)) (u ||| 2 ^ c) = true then 1 else 0))) : ((∃ i, i < k ∧ zfc k M s u i = true ∧ (∀ j, j < i → zfc k M s u j = false) ∧ J_X0_leastCounter K (nI s) (nI u) σ = some (nI i)) ∨ ((∀ j, j < k → zfc k M s u j = false) ∧ J_X0_leastCounter K (nI s) (nI u) σ = some (-4))) := by
  have p4 : 2 ^ k ≤ 16 := Nat.pow_le_pow_right (n := 2) (by omega) (show k ≤ 4 from hk)
  obtain ⟨f1, f2, f3, f4, f5⟩ := zF1 ⟨s, hs⟩ h0
  have f1' : (nI s &&& -nI s) = nI (2 ^ zlo s) := f1
  have b1 := bco (σ := σ) hs
  have b2 := bco (σ := σ) (s := u) (by omega)
  have pu := (zF5 ⟨k, by omega⟩ ⟨u, by omega⟩ hu).1
  have pu' : pcn u 16 ≤ k := pu
  have ps := pcn_le s 16
  have sub : nI k - nI (pcn u 16) = nI (k - pcn u 16) := pk_sub pu'
  unfold J_X0_leastCounter
  rw [zlet_eq, b1, b2, zb_s, zb_s, k3, sub, f1']
  by_cases hp : pcn s 16 + pcn u 16 ≤ k
  · rw [if_pos (nI_le (by omega) (by omega))]
    rcases lc_loop hk k3 hM hs h0 hu K (hK hp) k 0 4294967296 (by omega) (by omega) with ⟨i, i1, i2, i3, i4, i5⟩ | ⟨i1, i2⟩
    · exact Or.inl ⟨i, i2, i3, fun j hj => i4 j (by omega) hj, i5⟩
    · exact Or.inr ⟨fun j hj => i1 j (by omega) hj, i2⟩
  · rw [if_neg (nI_ge (by omega) (by omega))]
    right
    refine ⟨fun j hj => ?_, rfl⟩
    cases hx : zfc k M s u j
    · rfl
    · exfalso
      have : zcan k M (zev s) u = true := by
        rw [zcan_c hs h0, List.any_eq_true]
        exact ⟨j, List.mem_range.mpr hj, hx⟩
      have := zcan_len hk _ _ hu this
      have l := zF2 ⟨s, hs⟩
      have l' : pcn s 16 = (zev s).length := l
      omega
theorem cp_ {k : Nat} {M : Nat → Nat} {σ : zS} (hk : k ≤ 4) (k3 : σ.1 82 0 = nI k) (hM : ∀ c, c < 4 → M c < 256 ∧ σ.1 83 c = nI (M c)) : ∀ d s u, s < 256 → u < 2 ^ k → 1 ≤ d → (pcn s 16 + pcn u 16 ≤ k → pcn s 16 < d) → J_X0_canPlace d (nI s) (nI u) σ = some (nI (if zcan k M (zev s) u = true then 1 else 0)) := by
  have p4 : 2 ^ k ≤ 16 := Nat.pow_le_pow_right (n := 2) (by omega) (show k ≤ 4 from hk)
  intro d
  induction d with
  | zero => intro s u _ _ h; omega
  | succ d ih =>
    intro s u hs hu _ hd
    rw [J_X0_canPlace]
    by_cases h0 : s = 0
    · subst h0
      rw [if_pos (show nI 0 = 0 from rfl)]
      rfl
    · have hne : ¬ nI s = 0 := nI_ne0 (by omega) (by omega)
      rw [if_neg hne]
      obtain ⟨f1, f2, f3, f4, f5⟩ := zF1 ⟨s, hs⟩ h0
      have f3' : zrs s < 256 := f3
      have l := zF2 ⟨s, hs⟩
      have l2 := zF2 ⟨zrs s, f3'⟩
      have l' : pcn s 16 = (zev s).length := l
      have l2' : pcn (zrs s) 16 = (zev (zrs s)).length := l2
      have f5' : zev s = zlo s :: zev (zrs s) := f5
      have ln : pcn s 16 = pcn (zrs s) 16 + 1 := by rw [l', l2', f5']; rfl
      have L := lc_ (s := s) (u := u) hk k3 hM hs h0 hu (J_X0_canPlace d) (fun hp c hc hub => by
        obtain ⟨q1, q2⟩ := (zF5 ⟨k, by omega⟩ ⟨u, by omega⟩ hu).2 ⟨c, by omega⟩ hc hub
        have q1' : pcn (u ||| 2 ^ c) 16 = pcn u 16 + 1 := q1
        exact ih (zrs s) (u ||| 2 ^ c) f3' q2 (by have := hd hp; omega) (fun _ => by have := hd hp; omega))
      rcases L with ⟨i, i1, i2, i3, i4⟩ | ⟨i1, i2⟩
      · have : zcan k M (zev s) u = true := by
          rw [zcan_c hs h0, List.any_eq_true]
          exact ⟨i, List.mem_range.mpr i1, i2⟩
        rw [i4, zb_s, if_neg (nI_pos (by omega)), if_pos this]
        rfl
      · have : ¬ zcan k M (zev s) u = true := by
          intro q
          rw [zcan_c hs h0, List.any_eq_true] at q
          obtain ⟨c, hc, hx⟩ := q
          rw [i1 c (List.mem_range.mp hc)] at hx
          cases hx
        rw [i2, zb_s, if_pos (by decide), if_neg this]
        rfl
theorem cp7 {k : Nat} {M : Nat → Nat} {σ : zS} {s u : Nat} (hk : k ≤ 4) (k3 : σ.1 82 0 = nI k) (hM : ∀ c, c < 4 → M c < 256 ∧ σ.1 83 c = nI (M c)) (hs : s < 256) (hu : u < 2 ^ k) : J_X0_canPlace 7 (nI s) (nI u) σ = some (nI (if zcan k M (zev s) u = true then 1 else 0)) :=
  cp_ hk k3 hM 7 s u hs hu (by omega) (by omega)
