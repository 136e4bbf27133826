/-! ===== pure rows: what pictures are made of ===== -/
theorem zlet_eq {α β : Type} (x : α) (f : α → β) : zlet x f = f x := rfl
theorem zg_t {ρ : Type} {x : Option ρ} : zg true x = x := rfl
theorem zb_s {α ρ : Type} {a : α} {f : α → Option ρ} : zb (some a) f = f a := rfl
theorem zb2_s {α β ρ : Type} {a : α} {b : β} {f : α → β → Option ρ} : zb2 (some (a, b)) f = f a b := rfl
theorem zn_s {ρ : Type} {y : Int32} {x : Option ρ} (h : ¬ y = 0) : zn y x = x := if_neg h
theorem zn_nI {ρ : Type} {d : Nat} {x : Option ρ} (h0 : 0 < d) (h : d < 2147483648) : zn (nI d) x = x := if_neg (nI_ne0 h0 h)
theorem znl_lN {ρ : Type} {d : Nat} {x : Option ρ} (h0 : 0 < d) (h : d < 9223372036854775808) : znl (lN d) x = x := by
  unfold znl
  rw [if_neg]
  intro q
  have := (pk_lEQ (a := d) (b := 0) h (by decide)).mp q
  omega
theorem zi_nI {j N : Nat} (h : j < N) (hN : N < 2147483648) : zi (nI j) N = true := decide_eq_true (nI_in h hN)
theorem zbl_1 : zbl 1 = true := rfl
theorem zbl_0 : zbl 0 = true := rfl
theorem zcla {j : Nat} (h : j < 2147483648) : (nI j).toNatClampNeg = j := nI_clamp h
theorem z_le {a b : Nat} (ha : a < 2147483648) (hb : b < 2147483648) : (nI a ≤ nI b) = (a ≤ b) := propext (nI_leI ha hb)
theorem z_lt {a b : Nat} (ha : a < 2147483648) (hb : b < 2147483648) : (nI a < nI b) = (a < b) := propext (nI_ltI ha hb)
theorem z_eq {a b : Nat} (ha : a < 2147483648) (hb : b < 2147483648) : (nI a = nI b) = (a = b) := propext (nI_eq ha hb)
/-- a number between two -/
def zR (a : Int32) (lo hi : Nat) : Prop := ∃ j : Nat, lo ≤ j ∧ j ≤ hi ∧ a = nI j
theorem zR_iff {a : Int32} {lo hi : Nat} (hh : hi < 2147483648) : zR a lo hi ↔ (lo : Int) ≤ a.toInt ∧ a.toInt ≤ hi := by
  constructor
  · rintro ⟨j, h1, h2, rfl⟩
    rw [nI_toInt (by omega)]
    omega
  · rintro ⟨h1, h2⟩
    have h0 : ¬ a < 0 := by
      rw [Int32.lt_iff_toInt_lt]
      show ¬ a.toInt < 0
      omega
    obtain ⟨j, hj, rfl⟩ := nI_of h0
    rw [nI_toInt hj] at h1 h2
    exact ⟨j, by omega, by omega, rfl⟩
theorem zR_nI {j lo hi : Nat} (hj : j < 2147483648) (hh : hi < 2147483648) : zR (nI j) lo hi ↔ lo ≤ j ∧ j ≤ hi := by
  rw [zR_iff hh, nI_toInt hj]
  omega
theorem zin_eq (x y z : Int64) (σ : zS) : J_X11_in x y z σ = some (if y ≤ x ∧ x ≤ z then 1 else 0) := by
  unfold J_X11_in
  simp only [lg_cmp_lt, lg_cmp_gt]
  by_cases h1 : x < y
  · rw [if_pos h1, if_neg]
    rintro ⟨a, -⟩
    rw [Int64.lt_iff_toInt_lt] at h1
    rw [Int64.le_iff_toInt_le] at a
    omega
  · rw [if_neg h1]
    by_cases h2 : z < x
    · rw [if_pos h2, if_neg]
      rintro ⟨-, a⟩
      rw [Int64.lt_iff_toInt_lt] at h2
      rw [Int64.le_iff_toInt_le] at a
      omega
    · rw [if_neg h2, if_pos]
      rw [Int64.lt_iff_toInt_lt] at h1 h2
      rw [Int64.le_iff_toInt_le, Int64.le_iff_toInt_le]
      omega
theorem zin_c {a : Int32} {lo hi : Nat} (hh : hi < 2147483648) (hl : lo < 2147483648) : (lN lo ≤ a.toInt64 ∧ a.toInt64 ≤ lN hi) ↔ zR a lo hi := by
  rw [zR_iff hh, Int64.le_iff_toInt_le, Int64.le_iff_toInt_le, lN_toInt hh, lN_toInt hl, Int32.toInt_toInt64]
theorem zin_y {a : Int32} {lo hi : Nat} {y z : Int64} {σ : zS} (h : zR a lo hi) (hy : y = lN lo) (hz : z = lN hi) (hh : hi < 2147483648) (hl : lo < 2147483648) : J_X11_in a.toInt64 y z σ = some 1 := by
  rw [zin_eq, hy, hz, if_pos ((zin_c hh hl).mpr h)]
theorem zin_n {a : Int32} {lo hi : Nat} {y z : Int64} {σ : zS} (h : ¬ zR a lo hi) (hy : y = lN lo) (hz : z = lN hi) (hh : hi < 2147483648) (hl : lo < 2147483648) : J_X11_in a.toInt64 y z σ = some 0 := by
  rw [zin_eq, hy, hz, if_neg (fun q => h ((zin_c hh hl).mp q))]
theorem z10_eq : ((1 : Int32) = 0) = False := by decide
theorem zlt0 {a : Int32} {lo hi : Nat} (h : ¬ zR a lo hi) (hh : hi < 2147483648) (hl : lo < 2147483648) : a < nI lo ∨ nI hi < a := by
  rcases Int.lt_or_le a.toInt lo with h1 | h1
  · left
    rw [Int32.lt_iff_toInt_lt, nI_toInt hl]
    exact h1
  · right
    rw [Int32.lt_iff_toInt_lt, nI_toInt hh]
    exact Int.not_le.mp fun h2 => h ((zR_iff hh).mpr ⟨h1, h2⟩)
theorem z_nle {x y : Int32} (h : x < y) : ¬ y ≤ x := by
  rw [Int32.lt_iff_toInt_lt] at h
  rw [Int32.le_iff_toInt_le]
  omega
theorem z_nlt {x y : Int32} (h : x ≤ y) : ¬ y < x := by
  rw [Int32.le_iff_toInt_le] at h
  rw [Int32.lt_iff_toInt_lt]
  omega
theorem z_lt_of {x y : Int32} (h : ¬ y ≤ x) : x < y := by
  rw [Int32.le_iff_toInt_le] at h
  rw [Int32.lt_iff_toInt_lt]
  omega
theorem z_le_of {x y : Int32} (h : ¬ y < x) : x ≤ y := by
  rw [Int32.lt_iff_toInt_lt] at h
  rw [Int32.le_iff_toInt_le]
  omega
/-- the class asks from below and from above -/
theorem zcase {α : Type} {a : Int32} {lo hi : Nat} (h : ¬ zR a lo hi) (hh : hi < 2147483648) (hl : lo < 2147483648) {x y : α} : (if a < nI lo then x else if a ≤ nI hi then y else x) = x := by
  rcases zlt0 h hh hl with h1 | h1
  · rw [if_pos h1]
  · split
    · rfl
    · rw [if_neg (z_nle h1)]
theorem zcase_y {α : Type} {a : Int32} {lo hi : Nat} (h : zR a lo hi) (hh : hi < 2147483648) {x y : α} : (if a < nI lo then x else if a ≤ nI hi then y else x) = y := by
  obtain ⟨j, h1, h2, rfl⟩ := h
  rw [if_neg (nI_nlt h1 (by omega)), if_pos (nI_le h2 hh)]
/-- sums -/
def zsm (f : Nat → Nat) : Nat → Nat
  | 0 => 0
  | n + 1 => zsm f n + f n
theorem zsm_s (f : Nat → Nat) (n : Nat) : zsm f (n + 1) = zsm f n + f n := rfl
theorem zsm_0 (f : Nat → Nat) : zsm f 0 = 0 := rfl
theorem zsm_mono {f : Nat → Nat} {a b : Nat} (h : a ≤ b) : zsm f a ≤ zsm f b := by
  induction b with
  | zero => rw [Nat.le_zero.mp h]; exact Nat.le_refl _
  | succ b ih =>
    by_cases e : a = b + 1
    · rw [e]; exact Nat.le_refl _
    · exact Nat.le_trans (ih (by omega)) (Nat.le_add_right _ _)
theorem zsm_congr {f g : Nat → Nat} {n : Nat} (h : ∀ i, i < n → f i = g i) : zsm f n = zsm g n := by
  induction n with
  | zero => rfl
  | succ n ih => rw [zsm_s, zsm_s, ih (fun i hi => h i (by omega)), h n (by omega)]
theorem zsm_le {f g : Nat → Nat} {n : Nat} (h : ∀ i, i < n → f i ≤ g i) : zsm f n ≤ zsm g n := by
  induction n with
  | zero => exact Nat.le_refl _
  | succ n ih => rw [zsm_s, zsm_s]; exact Nat.add_le_add (ih (fun i hi => h i (by omega))) (h n (by omega))
theorem zsm_mul (c : Nat) (f : Nat → Nat) (n : Nat) : zsm (fun i => f i * c) n = zsm f n * c := by
  induction n with
  | zero => simp [zsm]
  | succ n ih => rw [zsm_s, zsm_s, ih, Nat.add_mul]
theorem zsm_add (f g : Nat → Nat) (n : Nat) : zsm (fun i => f i + g i) n = zsm f n + zsm g n := by
  induction n with
  | zero => rfl
  | succ n ih => rw [zsm_s, zsm_s, zsm_s, ih]; omega
theorem zsm_at {f : Nat → Nat} {i n : Nat} (h : i < n) : f i ≤ zsm f n := Nat.le_trans (by rw [zsm_s]; exact Nat.le_add_left _ _) (zsm_mono (f := f) (show i + 1 ≤ n from h))
