set_option maxRecDepth 8000
/-! ===== bits of numbers ===== -/
theorem nI_toB (a : Nat) : (nI a).toBitVec = BitVec.ofNat 32 a := rfl
theorem nI_and (a b : Nat) : nI a &&& nI b = nI (a &&& b) := by
  apply Int32.toBitVec_inj.mp
  rw [Int32.toBitVec_and, nI_toB, nI_toB, nI_toB]
  apply BitVec.eq_of_getLsbD_eq
  intro i hi
  simp only [BitVec.getLsbD_and, BitVec.getLsbD_ofNat, Nat.testBit_and, hi, decide_true, Bool.true_and]
theorem nI_or (a b : Nat) : nI a ||| nI b = nI (a ||| b) := by
  apply Int32.toBitVec_inj.mp
  rw [Int32.toBitVec_or, nI_toB, nI_toB, nI_toB]
  apply BitVec.eq_of_getLsbD_eq
  intro i hi
  simp only [BitVec.getLsbD_or, BitVec.getLsbD_ofNat, Nat.testBit_or, hi, decide_true, Bool.true_and]
theorem nI_xor (a b : Nat) : nI a ^^^ nI b = nI (a ^^^ b) := by
  apply Int32.toBitVec_inj.mp
  rw [Int32.toBitVec_xor, nI_toB, nI_toB, nI_toB]
  apply BitVec.eq_of_getLsbD_eq
  intro i hi
  simp only [BitVec.getLsbD_xor, BitVec.getLsbD_ofNat, Nat.testBit_xor, hi, decide_true, Bool.true_and]
/-- without the bits of another -/
theorem nI_wo (a b : Nat) : nI a &&& (nI b ^^^ -1) = nI (a ^^^ (a &&& b)) := by
  have m1 : (-1 : Int32).toBitVec = BitVec.allOnes 32 := by decide
  apply Int32.toBitVec_inj.mp
  rw [Int32.toBitVec_and, Int32.toBitVec_xor, m1, nI_toB, nI_toB, nI_toB]
  apply BitVec.eq_of_getLsbD_eq
  intro i hi
  simp only [BitVec.getLsbD_and, BitVec.getLsbD_xor, BitVec.getLsbD_allOnes, BitVec.getLsbD_ofNat, Nat.testBit_xor, Nat.testBit_and, hi, decide_true, Bool.true_and]
  cases a.testBit i <;> cases b.testBit i <;> rfl
theorem xor0 {a b : Nat} : a ^^^ b = 0 ↔ a = b := by
  constructor
  · intro h
    apply Nat.eq_of_testBit_eq
    intro i
    have := congrArg (fun x => x.testBit i) h
    simp only [Nat.testBit_xor, Nat.zero_testBit] at this
    cases ha : a.testBit i <;> cases hb : b.testBit i <;> rw [ha, hb] at this <;> first | rfl | cases this
  · rintro rfl
    exact Nat.xor_self a
/-- a part of a set -/
theorem sub_b {t s : Nat} (h : t &&& s = t) {i : Nat} (hi : t.testBit i = true) : s.testBit i = true := by
  have := congrArg (fun x => x.testBit i) h
  simp only [Nat.testBit_and, hi, Bool.true_and] at this
  exact this
theorem sub_i {t s : Nat} (h : ∀ i, t.testBit i = true → s.testBit i = true) : t &&& s = t := by
  apply Nat.eq_of_testBit_eq
  intro i
  rw [Nat.testBit_and]
  cases ht : t.testBit i
  · rfl
  · rw [h i ht]; rfl
theorem sub_le {t s : Nat} (h : t &&& s = t) : t ≤ s := by
  rw [← h]
  exact Nat.and_le_right
theorem pcn_x {t s : Nat} (h : t &&& s = t) : ∀ n, pcn (s ^^^ t) n + pcn t n = pcn s n := by
  intro n
  induction n with
  | zero => rfl
  | succ n ih =>
    have u1 : pcn (s ^^^ t) (n + 1) = pcn (s ^^^ t) n + (if (s ^^^ t).testBit n then 1 else 0) := rfl
    have u2 : pcn t (n + 1) = pcn t n + (if t.testBit n then 1 else 0) := rfl
    have u3 : pcn s (n + 1) = pcn s n + (if s.testBit n then 1 else 0) := rfl
    rw [u1, u2, u3, Nat.testBit_xor]
    cases ht : t.testBit n
    · cases hs : s.testBit n
      · simp only [Bool.xor_false, Bool.false_eq_true, if_false]; omega
      · simp only [Bool.xor_false, Bool.false_eq_true, if_false, if_true]; omega
    · rw [sub_b h ht]
      simp only [Bool.xor_true, Bool.not_true, Bool.false_eq_true, if_false, if_true]; omega
theorem pcn_1 {t e n : Nat} (he : e < n) (h : t.testBit e = true) : 1 ≤ pcn t n := by
  have := zsm_at (f := fun i => if t.testBit i then 1 else 0) he
  rw [h] at this
  exact this
theorem lo_b : ∀ s : Fin 256, s.val ≠ 0 → s.val.testBit (zlo s.val) = true ∧ 2 ^ zlo s.val ≤ s.val ∧ ∀ d : Fin 8, d.val < zlo s.val → s.val.testBit d.val = false := by decide +kernel
theorem lo_u {s e : Nat} (hs : s < 256) (he : e < 8) (h1 : s.testBit e = true) (h2 : ∀ d, d < e → s.testBit d = false) : e = zlo s := by
  have h0 : s ≠ 0 := by
    intro q
    rw [q, Nat.zero_testBit] at h1
    cases h1
  obtain ⟨a, -, b⟩ := lo_b ⟨s, hs⟩ h0
  have a' : s.testBit (zlo s) = true := a
  rcases Nat.lt_trichotomy e (zlo s) with x | x | x
  · have : s.testBit e = false := b ⟨e, he⟩ x
    rw [h1] at this
    cases this
  · exact x
  · rw [h2 _ x] at a'
    cases a'
theorem zgd_i {k : Nat} {M : Nat → Nat} {s t : Nat} (hs : s < 256) (h0 : s ≠ 0) : zgd k M s t ↔ t &&& s = t ∧ t.testBit (zlo s) = true ∧ zfits k M t = true := by
  obtain ⟨a, -, b⟩ := lo_b ⟨s, hs⟩ h0
  have l8 : zlo s < 8 := (zF1 ⟨s, hs⟩ h0).2.2.2.1
  constructor
  · rintro ⟨h1, h2, ⟨e, e1, e2, e3, e4⟩, h3⟩
    rw [lo_u hs e1 e2 e4] at e3
    exact ⟨h2, e3, h3⟩
  · rintro ⟨h1, h2, h3⟩
    exact ⟨Nat.lt_of_le_of_lt (sub_le h1) hs, h1, ⟨zlo s, l8, a, h2, fun d hd => b ⟨d, by omega⟩ hd⟩, h3⟩
theorem two_b {e i : Nat} : (2 ^ e).testBit i = decide (e = i) := Nat.testBit_two_pow
/-- a part of the rest, with the least event ahead -/
theorem lo_p {s x : Nat} (hs : s < 256) (h0 : s ≠ 0) (hx : x &&& zrs s = x) : (x ||| 2 ^ zlo s) &&& s = x ||| 2 ^ zlo s ∧ (x ||| 2 ^ zlo s).testBit (zlo s) = true ∧ s ^^^ (x ||| 2 ^ zlo s) = zrs s ^^^ x := by
  have a : s.testBit (zlo s) = true := (lo_b ⟨s, hs⟩ h0).1
  have key : ∀ i, x.testBit i = true → s.testBit i = true ∧ zlo s ≠ i := by
    intro i hi
    have := sub_b hx hi
    unfold zrs at this
    rw [Nat.testBit_xor, two_b] at this
    by_cases e : zlo s = i
    · subst e
      rw [a] at this
      simp at this
    · simp [e] at this
      exact ⟨this, e⟩
  refine ⟨sub_i fun i hi => ?_, ?_, ?_⟩
  · rw [Nat.testBit_or, two_b] at hi
    by_cases e : zlo s = i
    · rw [← e]; exact a
    · simp [e] at hi
      exact (key i hi).1
  · rw [Nat.testBit_or, two_b]
    simp
  · apply Nat.eq_of_testBit_eq
    intro i
    unfold zrs
    simp only [Nat.testBit_xor, Nat.testBit_or, two_b]
    by_cases e : zlo s = i
    · subst e
      have : x.testBit (zlo s) = false := by
        cases hx2 : x.testBit (zlo s)
        · rfl
        · exact absurd rfl (key _ hx2).2
      rw [this, a]
      simp
    · simp [e]
theorem lo_q {s t : Nat} (hs : s < 256) (h0 : s ≠ 0) (ht : t &&& s = t) (hl : t.testBit (zlo s) = true) : ∃ x, x &&& zrs s = x ∧ t = x ||| 2 ^ zlo s := by
  have a : s.testBit (zlo s) = true := (lo_b ⟨s, hs⟩ h0).1
  refine ⟨t ^^^ 2 ^ zlo s, sub_i fun i hi => ?_, ?_⟩
  · unfold zrs
    rw [Nat.testBit_xor, two_b] at hi ⊢
    by_cases e : zlo s = i
    · subst e
      rw [hl] at hi
      simp at hi
    · simp [e] at hi
      simp [e, sub_b ht hi]
  · apply Nat.eq_of_testBit_eq
    intro i
    rw [Nat.testBit_or, Nat.testBit_xor, two_b]
    by_cases e : zlo s = i
    · subst e
      rw [hl]
      simp
    · simp [e]
