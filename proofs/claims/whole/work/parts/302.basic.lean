/-! ===== small pictures ===== -/
def zL (a : Int32) (k : Nat) : Prop := ∃ j : Nat, j < k ∧ a = nI j
theorem zL_iff {a : Int32} {k : Nat} (hk : k ≤ 2147483648) : zL a k ↔ 0 ≤ a.toInt ∧ a.toInt < k := by
  constructor
  · rintro ⟨j, h1, rfl⟩
    rw [nI_toInt (by omega)]
    omega
  · rintro ⟨h1, h2⟩
    have h0 : ¬ a < 0 := by
      rw [Int32.lt_iff_toInt_lt]
      show ¬ a.toInt < 0
      omega
    obtain ⟨j, hj, rfl⟩ := nI_of h0
    rw [nI_toInt hj] at h1 h2
    exact ⟨j, by omega, rfl⟩
theorem zL_y {α : Type} {a : Int32} {k : Nat} (h : zL a k) (hk : k < 2147483648) {x y : α} : (if a < (0 : Int32) then x else if nI k ≤ a then x else y) = y := by
  obtain ⟨j, hj, rfl⟩ := h
  rw [if_neg (nI_pos (by omega)), if_neg (nI_ge hj hk)]
theorem zL_n {α : Type} {a : Int32} {k : Nat} (h : ¬ zL a k) (hk : k < 2147483648) {x y : α} : (if a < (0 : Int32) then x else if nI k ≤ a then x else y) = x := by
  by_cases h0 : a < 0
  · rw [if_pos h0]
  · rw [if_neg h0, if_pos]
    obtain ⟨j, hj, rfl⟩ := nI_of h0
    exact nI_le (Nat.le_of_not_lt fun q => h ⟨j, q, rfl⟩) hj
theorem zinm_y {a : Int32} {k : Nat} {σ : zS} (h : zL a k) (hk : k < 1073741824) : J_X11_in a.toInt64 0 ((nI k - 1).toInt64) σ = some 1 := by
  have h1 := (zL_iff (by omega)).mp h
  rw [zin_eq, if_pos]
  rw [Int64.le_iff_toInt_le, Int64.le_iff_toInt_le, Int32.toInt_toInt64, Int32.toInt_toInt64, show (1 : Int32) = nI 1 from rfl, pk_sub_toInt hk (by decide)]
  show (0 : Int) ≤ _ ∧ _
  omega
theorem zinm_n {a : Int32} {k : Nat} {σ : zS} (h : ¬ zL a k) (hk : k < 1073741824) : J_X11_in a.toInt64 0 ((nI k - 1).toInt64) σ = some 0 := by
  rw [zin_eq, if_neg]
  rw [Int64.le_iff_toInt_le, Int64.le_iff_toInt_le, Int32.toInt_toInt64, Int32.toInt_toInt64, show (1 : Int32) = nI 1 from rfl, pk_sub_toInt hk (by decide)]
  intro q
  have q1 : (0 : Int) ≤ a.toInt := q.1
  exact h ((zL_iff (by omega)).mpr ⟨q1, by omega⟩)
theorem has_y {a : Int32} {k : Nat} {σ : zS} (hs : σ.1 82 0 = nI k) (h : zL a k) (hk : k < 2147483648) : J_X0_has a σ = some 1 := by
  unfold J_X0_has
  rw [hs]
  exact zL_y h hk
theorem has_n {a : Int32} {k : Nat} {σ : zS} (hs : σ.1 82 0 = nI k) (h : ¬ zL a k) (hk : k < 2147483648) : J_X0_has a σ = some 0 := by
  unfold J_X0_has
  rw [hs]
  exact zL_n h hk
theorem isCounter_y {a : Int32} {k : Nat} {σ : zS} (hs : σ.1 105 36 = nI k) (h : zL a k) (hk : k < 1073741824) : J_X11_isCounter a σ = some 1 := by
  unfold J_X11_isCounter
  rw [hs, zinm_y h hk]
  rfl
theorem isCounter_n {a : Int32} {k : Nat} {σ : zS} (hs : σ.1 105 36 = nI k) (h : ¬ zL a k) (hk : k < 1073741824) : J_X11_isCounter a σ = some 0 := by
  unfold J_X11_isCounter
  rw [hs, zinm_n h hk]
  rfl
theorem hasLine_y {a : Int32} {k p : Nat} {σ : zS} (hs : σ.1 p 0 = nI k) (h : zL a k) (hk : k < 2147483648) : J_X3_hasLine p a σ = some 1 := by
  unfold J_X3_hasLine
  rw [hs]
  exact zL_y h hk
theorem hasLine_n {a : Int32} {k p : Nat} {σ : zS} (hs : σ.1 p 0 = nI k) (h : ¬ zL a k) (hk : k < 2147483648) : J_X3_hasLine p a σ = some 0 := by
  unfold J_X3_hasLine
  rw [hs]
  exact zL_n h hk
theorem hasLoop_y {a : Int32} {k p : Nat} {σ : zS} (hs : σ.1 p 5 = nI k) (h : zL a k) (hk : k < 2147483648) : J_X3_hasLoop p a σ = some 1 := by
  unfold J_X3_hasLoop
  rw [hs]
  exact zL_y h hk
theorem hasLoop_n {a : Int32} {k p : Nat} {σ : zS} (hs : σ.1 p 5 = nI k) (h : ¬ zL a k) (hk : k < 2147483648) : J_X3_hasLoop p a σ = some 0 := by
  unfold J_X3_hasLoop
  rw [hs]
  exact zL_n h hk
theorem isLine_y {a : Int32} {k : Nat} {σ : zS} (hs : σ.1 105 0 = nI k) (h : zL a k) (hk : k < 1073741824) : J_X11_isLine a σ = some 1 := by
  unfold J_X11_isLine
  rw [hs, zinm_y h hk]
  rfl
theorem isLine_n {a : Int32} {k : Nat} {σ : zS} (hs : σ.1 105 0 = nI k) (h : ¬ zL a k) (hk : k < 1073741824) : J_X11_isLine a σ = some 0 := by
  unfold J_X11_isLine
  rw [hs, zinm_n h hk]
  rfl
theorem isEvent_y {a : Int32} {σ : zS} (h : zL a 8) : J_X10_isEvent a σ = some 1 := by
  unfold J_X10_isEvent
  exact zL_y (k := 8) h (by decide)
theorem isEvent_n {a : Int32} {σ : zS} (h : ¬ zL a 8) : J_X10_isEvent a σ = some 0 := by
  unfold J_X10_isEvent
  exact zL_n (k := 8) h (by decide)
theorem isEventM_y {a : Int32} {σ : zS} (h : zL a 8) : J_X11_isEvent a σ = some 1 := by
  unfold J_X11_isEvent
  have := zinm_y (σ := σ) h (by decide)
  rw [show (7 : Int64) = (nI 8 - 1).toInt64 from rfl, this]
  rfl
theorem isEventM_n {a : Int32} {σ : zS} (h : ¬ zL a 8) : J_X11_isEvent a σ = some 0 := by
  unfold J_X11_isEvent
  have := zinm_n (σ := σ) h (by decide)
  rw [show (7 : Int64) = (nI 8 - 1).toInt64 from rfl, this]
  rfl
theorem isSet_y {a : Int32} {σ : zS} (h : zL a 256) : J_X10_isSet a σ = some 1 := by
  unfold J_X10_isSet
  exact zL_y (k := 256) h (by decide)
theorem isSet_n {a : Int32} {σ : zS} (h : ¬ zL a 256) : J_X10_isSet a σ = some 0 := by
  unfold J_X10_isSet
  exact zL_n (k := 256) h (by decide)
theorem in255_y {a : Int32} {σ : zS} (h : zL a 256) : J_X11_in a.toInt64 0 255 σ = some 1 := zinm_y (k := 256) h (by decide)
theorem in255_n {a : Int32} {σ : zS} (h : ¬ zL a 256) : J_X11_in a.toInt64 0 255 σ = some 0 := zinm_n (k := 256) h (by decide)
theorem areEvents_y {a : Int32} {σ : zS} (h : zL a 256) : J_X11_areEvents a σ = some 1 := by
  unfold J_X11_areEvents
  rw [in255_y h]
  rfl
theorem areEvents_n {a : Int32} {σ : zS} (h : ¬ zL a 256) : J_X11_areEvents a σ = some 0 := by
  unfold J_X11_areEvents
  rw [in255_n h]
  rfl
/-- ten and more: an event behind ten -/
theorem z10_y {a : Int32} {σ : zS} (h : zL (a - 10) 8) : J_X11_in a.toInt64 10 17 σ = some 1 ∧ ∃ e, e < 8 ∧ a = nI (10 + e) ∧ a - 10 = nI e := by
  obtain ⟨e, he, h1⟩ := h
  have h2 : a = nI (10 + e) := by
    rw [← Int32.sub_add_cancel a 10, h1, Nat.add_comm]
    exact nI_add e 10
  exact ⟨zin_y (lo := 10) (hi := 17) ⟨10 + e, by omega, by omega, h2⟩ rfl rfl (by decide) (by decide), e, he, h2, h1⟩
theorem z10_n {a : Int32} {σ : zS} (h : ¬ zL (a - 10) 8) : J_X11_in a.toInt64 10 17 σ = some 0 := by
  refine zin_n (lo := 10) (hi := 17) ?_ rfl rfl (by decide) (by decide)
  rintro ⟨j, h1, h2, rfl⟩
  exact h ⟨j - 10, by omega, pk_sub h1⟩
