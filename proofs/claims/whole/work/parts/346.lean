set_option maxRecDepth 8000
/-! ===== hot: what a choice of lines makes ===== -/
def zms (v : Nat → Nat) (s : Nat) : Nat → Nat := zsm fun l => if s.testBit l then v l else 0
/-- a choice with a threshold makes the most of all that are no bigger -/
theorem thr_ {v : Nat → Nat} {g s tau : Nat} : ∀ n, (∀ l, l < n → g.testBit l = true → tau ≤ v l) → (∀ l, l < n → g.testBit l = false → v l ≤ tau) → zms v s n + tau * pcn g n ≤ zms v g n + tau * pcn s n := by
  intro n
  induction n with
  | zero => intro _ _; exact Nat.le_refl _
  | succ n ih =>
    intro h1 h2
    have i := ih (fun l hl => h1 l (by omega)) (fun l hl => h2 l (by omega))
    have a1 := h1 n (by omega)
    have a2 := h2 n (by omega)
    have u1 : zms v s (n + 1) = zms v s n + (if s.testBit n then v n else 0) := rfl
    have u2 : zms v g (n + 1) = zms v g n + (if g.testBit n then v n else 0) := rfl
    have u3 : pcn g (n + 1) = pcn g n + (if g.testBit n then 1 else 0) := rfl
    have u4 : pcn s (n + 1) = pcn s n + (if s.testBit n then 1 else 0) := rfl
    rw [u1, u2, u3, u4, Nat.mul_add, Nat.mul_add]
    cases hg : g.testBit n <;> cases hs : s.testBit n
    · simp only [Bool.false_eq_true, if_false]; omega
    · have := a2 hg
      simp only [Bool.false_eq_true, if_false, if_true, Nat.mul_one, Nat.mul_zero]
      omega
    · have := a1 hg
      simp only [Bool.false_eq_true, if_false, if_true, Nat.mul_one, Nat.mul_zero]
      omega
    · simp only [if_true]; omega
theorem thr_le {v : Nat → Nat} {g s tau n : Nat} (h1 : ∀ l, l < n → g.testBit l = true → tau ≤ v l) (h2 : ∀ l, l < n → g.testBit l = false → v l ≤ tau) (h : pcn s n ≤ pcn g n) : zms v s n ≤ zms v g n := by
  have := thr_ (s := s) n h1 h2
  have : tau * pcn s n ≤ tau * pcn g n := Nat.mul_le_mul_left _ h
  omega
