set_option maxRecDepth 8000
/-! ===== ways, as numbers to the base of four ===== -/
def zvl (k : Nat) (M : Nat → Nat) : List Nat → Nat → Nat → Bool
  | [], _, _ => true
  | e :: r, u, w => decide (w / 4 ^ r.length % 4 < k) && !u.testBit (w / 4 ^ r.length % 4) && (M (w / 4 ^ r.length % 4)).testBit e && zvl k M r (u ||| 2 ^ (w / 4 ^ r.length % 4)) w
def zGr (k : Nat) (M : Nat → Nat) : List Nat → Nat → Nat → Prop
  | [], _, w => w = 0
  | e :: r, u, w => ∃ c, c < k ∧ (!u.testBit c && (M c).testBit e && zcan k M r (u ||| 2 ^ c)) = true ∧ (∀ j, j < c → (!u.testBit j && (M j).testBit e && zcan k M r (u ||| 2 ^ j)) = false) ∧ ∃ w', zGr k M r (u ||| 2 ^ c) w' ∧ w = c * 4 ^ r.length + w'
theorem dig_ {a n m w : Nat} (h : m < n) : (a * 4 ^ n + w) / 4 ^ m % 4 = w / 4 ^ m % 4 := by
  obtain ⟨d, rfl⟩ : ∃ d, n = m + 1 + d := ⟨n - (m + 1), by omega⟩
  have e : a * 4 ^ (m + 1 + d) = (a * 4 ^ d * 4) * 4 ^ m := by
    rw [Nat.pow_add, Nat.pow_succ]
    ac_rfl
  rw [e, Nat.add_comm, Nat.add_mul_div_right _ _ (Nat.pow_pos (by omega)), Nat.add_mul_mod_self_right]
theorem zvl_add {k : Nat} {M : Nat → Nat} : ∀ l u n a w, l.length ≤ n → zvl k M l u (a * 4 ^ n + w) = zvl k M l u w := by
  intro l
  induction l with
  | nil => intro u n a w _; rfl
  | cons e r ih =>
    intro u n a w h
    rw [List.length_cons] at h
    rw [zvl, zvl, dig_ (show r.length < n by omega), ih _ n a w (by omega)]
theorem zway {k : Nat} {M : Nat → Nat} (hk : k ≤ 4) : ∀ l u, (zcan k M l u = true → ∃ w, zGr k M l u w ∧ w < 4 ^ l.length ∧ zvl k M l u w = true ∧ ∀ w', w' < w → zvl k M l u w' = false) ∧ (zcan k M l u = false → ∀ w, w < 4 ^ l.length → zvl k M l u w = false) := by
  intro l
  induction l with
  | nil =>
    intro u
    refine ⟨fun _ => ⟨0, rfl, by simp, rfl, fun w' h => absurd h (by omega)⟩, fun h => ?_⟩
    cases h
  | cons e r ih =>
    intro u
    have pp : 0 < 4 ^ r.length := Nat.pow_pos (by omega)
    -- a number's first digit and the rest
    have spl : ∀ w, w < 4 ^ (r.length + 1) → w / 4 ^ r.length < 4 ∧ w = (w / 4 ^ r.length) * 4 ^ r.length + w % 4 ^ r.length := by
      intro w hw
      refine ⟨Nat.div_lt_of_lt_mul (by rw [← Nat.pow_succ]; exact hw), ?_⟩
      have := Nat.div_add_mod w (4 ^ r.length)
      rw [Nat.mul_comm] at this
      exact this.symm
    have rest : ∀ v w, zvl k M r v w = zvl k M r v (w % 4 ^ r.length) := by
      intro v w
      have := Nat.div_add_mod w (4 ^ r.length)
      rw [Nat.mul_comm] at this
      conv => lhs; rw [← this]
      exact zvl_add r v r.length _ _ (Nat.le_refl _)
    constructor
    · intro h
      rw [zcan, List.any_eq_true] at h
      obtain ⟨c0, hc0, h0⟩ := h
      rw [List.mem_range] at hc0
      obtain ⟨c, hc, hmin⟩ := pk_least (fun c => c < k ∧ (!u.testBit c && (M c).testBit e && zcan k M r (u ||| 2 ^ c)) = true) ⟨c0, hc0, h0⟩
      obtain ⟨hck, hcf⟩ := hc
      have hmin' : ∀ j, j < c → (!u.testBit j && (M j).testBit e && zcan k M r (u ||| 2 ^ j)) = false := by
        intro j hj
        cases hx : (!u.testBit j && (M j).testBit e && zcan k M r (u ||| 2 ^ j))
        · rfl
        · exact absurd ⟨by omega, hx⟩ (hmin j hj)
      have hcf' := hcf
      simp only [Bool.and_eq_true] at hcf'
      obtain ⟨w0, g0, lt0, v0, m0⟩ := (ih (u ||| 2 ^ c)).1 hcf'.2
      have d0 : (c * 4 ^ r.length + w0) / 4 ^ r.length % 4 = c := by
        rw [Nat.add_comm, Nat.add_mul_div_right _ _ pp, Nat.div_eq_of_lt lt0, Nat.zero_add]
        exact Nat.mod_eq_of_lt (by omega)
      refine ⟨c * 4 ^ r.length + w0, ⟨c, hck, hcf, hmin', w0, g0, rfl⟩, ?_, ?_, ?_⟩
      · rw [List.length_cons, Nat.pow_succ]
        have : c * 4 ^ r.length ≤ 3 * 4 ^ r.length := Nat.mul_le_mul_right _ (by omega)
        omega
      · rw [zvl, d0, zvl_add r _ r.length c w0 (Nat.le_refl _), v0]
        simp only [hck, hcf'.1.1, hcf'.1.2, decide_true, Bool.and_true]
      · intro w' hw'
        have hw4 : w' < 4 ^ (r.length + 1) := by
          rw [Nat.pow_succ]
          have : c * 4 ^ r.length ≤ 3 * 4 ^ r.length := Nat.mul_le_mul_right _ (by omega)
          omega
        obtain ⟨d4, dw⟩ := spl w' hw4
        have dm : w' / 4 ^ r.length % 4 = w' / 4 ^ r.length := Nat.mod_eq_of_lt d4
        have ml := Nat.mod_lt w' pp
        have dle : w' / 4 ^ r.length ≤ c := by
          refine Nat.le_of_lt_succ (Nat.div_lt_of_lt_mul ?_)
          rw [Nat.mul_comm, Nat.succ_mul]
          omega
        rw [zvl, dm, rest]
        generalize w' / 4 ^ r.length = d at *
        by_cases hdc : d = c
        · subst hdc
          rw [m0 (w' % 4 ^ r.length) (by omega), Bool.and_false]
        · have hf := hmin' d (by omega)
          cases hx : (!u.testBit d && (M d).testBit e)
          · rw [Bool.and_assoc (decide _), hx, Bool.and_false, Bool.false_and]
          · rw [hx, Bool.true_and] at hf
            rw [(ih (u ||| 2 ^ d)).2 hf _ ml, Bool.and_false]
    · intro h w hw
      rw [List.length_cons] at hw
      obtain ⟨d4, dw⟩ := spl w hw
      have dm : w / 4 ^ r.length % 4 = w / 4 ^ r.length := Nat.mod_eq_of_lt d4
      have ml := Nat.mod_lt w pp
      rw [zvl, dm, rest]
      generalize w / 4 ^ r.length = d at *
      cases hx : (decide (d < k) && !u.testBit d && (M d).testBit e)
      · rw [Bool.false_and]
      · simp only [Bool.and_eq_true, decide_eq_true_eq] at hx
        have hz : zcan k M r (u ||| 2 ^ d) = false := by
          cases hy : zcan k M r (u ||| 2 ^ d)
          · rfl
          · exfalso
            have : zcan k M (e :: r) u = true := by
              rw [zcan, List.any_eq_true]
              refine ⟨d, List.mem_range.mpr hx.1.1, ?_⟩
              simp only [Bool.and_eq_true]
              exact ⟨⟨hx.1.2, hx.2⟩, hy⟩
            rw [h] at this
            cases this
        rw [(ih (u ||| 2 ^ d)).2 hz _ ml, Bool.and_false]
