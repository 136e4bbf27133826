/-! ===== the counters' maths ===== -/
def zev (s : Nat) : List Nat := (List.range 8).filter fun e => s.testBit e
/-- an event each to a counter that is free and counts it -/
def zcan (k : Nat) (M : Nat → Nat) : List Nat → Nat → Bool
  | [], _ => true
  | e :: r, u => (List.range k).any fun c => !u.testBit c && (M c).testBit e && zcan k M r (u ||| 2 ^ c)
def zfits (k : Nat) (M : Nat → Nat) (s : Nat) : Bool := zcan k M (zev s) 0
/-- a round that may come first: within the set, with its least event -/
def zgd (k : Nat) (M : Nat → Nat) (s t : Nat) : Prop := t < 256 ∧ t &&& s = t ∧ (∃ e, e < 8 ∧ s.testBit e = true ∧ t.testBit e = true ∧ ∀ d, d < e → s.testBit d = false) ∧ zfits k M t = true
def zFew (k : Nat) (M F : Nat → Nat) : Prop := F 0 = 0 ∧ ∀ s, 0 < s → s < 256 → F s ≤ 100 ∧ (∀ t, zgd k M s t → F s ≤ F (s ^^^ t) + 1) ∧ (F s = 100 ∨ ∃ t, zgd k M s t ∧ F s = F (s ^^^ t) + 1)
def rBank (I : zI) : Prop := I 82 6 = nI 0 ∨ (I 82 6 = nI 1 ∧ ∃ (k : Nat) (M F : Nat → Nat), k ≤ 4 ∧ I 82 0 = nI k ∧ (∀ c, c < 4 → M c < 256 ∧ I 83 c = nI (M c)) ∧ zFew k M F ∧ ∀ s, s < 256 → I 86 s = nI (if zfits k M s then 1 else 0) ∧ I 87 s = nI (F s))
theorem rBank_c {I J : zI} (h : ∀ c k, (c = 82 ∧ (k = 0 ∨ k = 6)) ∨ c = 83 ∨ c = 86 ∨ c = 87 → J c k = I c k) (q : rBank I) : rBank J := by
  rcases q with q | ⟨q, k, M, F, h1, h2, h3, h4, h5⟩
  · exact Or.inl (by rw [h _ _ (by omega)]; exact q)
  · refine Or.inr ⟨by rw [h _ _ (by omega)]; exact q, k, M, F, h1, by rw [h _ _ (by omega)]; exact h2, ?_, h4, ?_⟩
    · intro c hc
      exact ⟨(h3 c hc).1, by rw [h _ _ (by omega)]; exact (h3 c hc).2⟩
    · intro s hs
      exact ⟨by rw [h _ _ (by omega)]; exact (h5 s hs).1, by rw [h _ _ (by omega)]; exact (h5 s hs).2⟩
/-- both answer the same, and stay beside each other -/
def zGood (A B : zS → Option (Int32 × zS)) : Prop := ∀ σ, zRel σ → rBank σ.1 → ∃ r σ1 σ2, A σ = some (r, σ1) ∧ B σ1 = some (r, σ2) ∧ zRel σ2 ∧ rBank σ2.1
