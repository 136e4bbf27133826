set_option maxRecDepth 8000
/-! ===== the fewest rounds are what they are ===== -/
theorem sub_lt : ∀ s : Fin 256, ∀ t : Fin 256, t.val &&& s.val = t.val → t.val ≠ 0 → s.val ^^^ t.val < s.val := by decide +kernel
theorem zgd_lt {k : Nat} {M : Nat → Nat} {s t : Nat} (hs : s < 256) (h : zgd k M s t) : s ^^^ t < s := by
  obtain ⟨h1, h2, ⟨e, e1, e2, e3, e4⟩, h3⟩ := h
  refine sub_lt ⟨s, hs⟩ ⟨t, h1⟩ h2 ?_
  intro q
  have q' : t = 0 := q
  rw [q', Nat.zero_testBit] at e3
  cases e3
theorem zfew_u {k : Nat} {M F G : Nat → Nat} (hF : zFew k M F) (hG : zFew k M G) : ∀ s, s < 256 → F s = G s := by
  intro s
  induction s using Nat.strongRecOn with
  | ind s ih =>
    intro hs
    by_cases h0 : s = 0
    · rw [h0, hF.1, hG.1]
    · obtain ⟨f1, f2, f3⟩ := hF.2 s (by omega) hs
      obtain ⟨g1, g2, g3⟩ := hG.2 s (by omega) hs
      apply Nat.le_antisymm
      · rcases g3 with q | ⟨t, t1, t2⟩
        · omega
        · have := f2 t t1
          have lt := zgd_lt hs t1
          rw [ih _ lt (by omega)] at this
          omega
      · rcases f3 with q | ⟨t, t1, t2⟩
        · omega
        · have := g2 t t1
          have lt := zgd_lt hs t1
          rw [← ih _ lt (by omega)] at this
          omega
/-- the parts of a set, downwards, as the class goes through them -/
def zit (v : Nat) : Nat → Nat → List Nat
  | 0, _ => []
  | n + 1, w => if w = 0 then [0] else w :: zit v n ((w - 1) &&& v)
theorem zit_all : ∀ v : Fin 256, ∀ x : Fin 256, x.val &&& v.val = x.val → x.val ∈ zit v.val 256 v.val := by decide +kernel
