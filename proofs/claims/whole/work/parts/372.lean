set_option maxRecDepth 8000
/-! ===== words ===== -/
def wdc (k j : Nat) : Nat := ([[108, 105, 110, 101], [108, 111, 111, 112], [101, 110, 100]].getD k []).getD j 0
def Wd (b : Nat → Nat) (s p' k : Nat) : Prop := p' - s = zwn k ∧ ∀ j, j < zwn k → b (s + j) = wdc k j
theorem wdF : ∀ k : Fin 3, ∀ j : Fin 4, j.val < zwn k.val → zwc k.val j.val = nI (wdc k.val j.val) ∧ wdc k.val j.val < 128 := by decide
theorem wdN : ∀ k : Fin 3, zwn k.val ≤ 4 := by decide
theorem sb_c {x c : Nat} (hx : x < 256) (hc : c < 128) : zsb x = nI c ↔ x = c := by
  by_cases h : x < 128
  · rw [(sbF ⟨x, hx⟩).2.2.2.2 h]
    exact nI_eq (by omega) (by omega)
  · have neg : ∀ x : Fin 256, ¬ x.val < 128 → zsb x.val < 0 := by decide +kernel
    have := neg ⟨x, hx⟩ h
    constructor
    · intro q
      have this' : zsb x < 0 := this
      rw [q] at this'
      exact absurd this' (nI_pos (by omega))
    · intro q
      omega
theorem isw_ {n s p' v k1 : Nat} {b : Nat → Nat} {σ : zS} (B : bT n b) (hk : k1 < 3) (t : cT σ n b) (c : cB σ 0 s p' v) (hs : s ≤ p') (hp : p' ≤ n) : (Wd b s p' k1 → J_X4_isWord k1 σ = some 1) ∧ (¬ Wd b s p' k1 → J_X4_isWord k1 σ = some 0) := by
  have B1 := B.1
  have n4 : zwn k1 ≤ 4 := wdN ⟨k1, hk⟩
  have sub : nI p' - nI s = nI (p' - s) := pk_sub hs
  have L : p' - s = zwn k1 → ∀ q i N, i + q = zwn k1 → q < N → ((∀ j, i ≤ j → j < zwn k1 → b (s + j) = wdc k1 j) → L_X4_isWord_27 k1 σ N (nI i) = some 1) ∧ (¬ (∀ j, i ≤ j → j < zwn k1 → b (s + j) = wdc k1 j) → L_X4_isWord_27 k1 σ N (nI i) = some 0) := by
    intro hl q
    induction q with
    | zero =>
      intro i N h hN
      cases N with
      | zero => omega
      | succ N =>
        refine ⟨fun _ => ?_, fun h2 => absurd (fun j h3 h4 => by omega) h2⟩
        rw [L_X4_isWord_27, zlet_eq, if_pos (show zwlen k1 ≤ nI i from nI_le (a := zwn k1) (by omega) (by omega))]
    | succ q ih =>
      intro i N h hN
      cases N with
      | zero => omega
      | succ N =>
        have t4 : nI i + 1 = nI (i + 1) := nI_add i 1
        have a4 : nI s + nI i = nI (s + i) := nI_add s i
        obtain ⟨g1, g2⟩ := wdF ⟨k1, hk⟩ ⟨i, by omega⟩ (by show i < zwn k1; omega)
        have g1' : zwc k1 i = nI (wdc k1 i) := g1
        have g2' : wdc k1 i < 128 := g2
        obtain ⟨i1, i2⟩ := ih (i + 1) N (by omega) (by omega)
        rw [L_X4_isWord_27, zlet_eq, if_neg (show ¬ zwlen k1 ≤ nI i from nI_ge (b := zwn k1) (by omega) (by omega)), c.2.2.1, a4, zi_nI (by omega) (by omega), zg_t, zi_nI (by omega) (by omega), zg_t, zcla (by omega), zcla (by omega), t.2 _ (by omega), g1', t4]
        have e := sb_c (c := wdc k1 i) (B.2 (s + i) (by omega)) g2'
        by_cases hc : b (s + i) = wdc k1 i
        · rw [if_pos (e.mpr hc), zlet_eq]
          refine ⟨fun h2 => i1 fun j h3 h4 => h2 j (by omega) h4, fun h2 => i2 fun h3 => h2 fun j h4 h5 => ?_⟩
          by_cases ej : j = i
          · rw [ej]; exact hc
          · exact h3 j (by omega) h5
        · rw [if_neg (fun q => hc (e.mp q))]
          exact ⟨fun h2 => absurd (h2 i (Nat.le_refl _) (by omega)) hc, fun _ => rfl⟩
  unfold J_X4_isWord
  rw [c.2.1, if_pos (show nI 0 = 0 from rfl), c.2.2.2.1, c.2.2.1, sub]
  by_cases hl : p' - s = zwn k1
  · obtain ⟨l1, l2⟩ := L hl (zwn k1) 0 4294967296 (by omega) (by omega)
    rw [if_pos (show nI (p' - s) = zwlen k1 by rw [hl]; rfl)]
    exact ⟨fun h => l1 fun j _ h2 => h.2 j h2, fun h => l2 fun h2 => h ⟨hl, fun j hj => h2 j (Nat.zero_le _) hj⟩⟩
  · rw [if_neg (show ¬ nI (p' - s) = zwlen k1 from fun q => hl ((nI_eq (a := p' - s) (b := zwn k1) (by omega) (by omega)).mp q))]
    exact ⟨fun h => absurd h.1 hl, fun _ => rfl⟩
theorem isw_n {σ : zS} {k1 k s p' v : Nat} (c : cB σ k s p' v) (h0 : k ≠ 0) (h3 : k ≤ 3) : J_X4_isWord k1 σ = some 0 := by
  unfold J_X4_isWord
  rw [c.2.1, if_neg (nI_ne0 (by omega) (by omega))]
theorem mis_ {n s p' v A1 A2 A3 A4 k : Nat} {b : Nat → Nat} {σ : zS} (B : bT n b) (t : mT σ n b) (c : mB σ 0 s p' v) (hs : s ≤ p') (hp : p' ≤ n) (hk : k = 3 ∨ k = 4) (h1 : A1 < 256) (h2 : A2 < 256) (h3 : A3 < 256) (h4 : A4 < 256) : (p' - s = k ∧ b s = A1 ∧ b (s + 1) = A2 ∧ b (s + 2) = A3 ∧ (k = 4 → b (s + 3) = A4) → J_X11_is (nI k) (nI A1) (nI A2) (nI A3) (nI A4) σ = some 1) ∧ (¬ (p' - s = k ∧ b s = A1 ∧ b (s + 1) = A2 ∧ b (s + 2) = A3 ∧ (k = 4 → b (s + 3) = A4)) → J_X11_is (nI k) (nI A1) (nI A2) (nI A3) (nI A4) σ = some 0) := by
  have B1 := B.1
  have sub : nI p' - nI s = nI (p' - s) := pk_sub hs
  have a1 : nI s + 1 = nI (s + 1) := nI_add s 1
  have a2 : nI s + 2 = nI (s + 2) := nI_add s 2
  have a3 : nI s + 3 = nI (s + 3) := nI_add s 3
  unfold J_X11_is
  rw [c.2.2.1, c.2.2.2.1, sub, a1, a2, a3, look_ B t (by omega), look_ B t (by omega), look_ B t (by omega), look_ B t (by omega), zb_s, zb_s, zb_s, zb_s]
  by_cases hl : p' - s = k
  · have l0 : ztl n b s = nI (b s) := if_pos (by omega)
    have l1 : ztl n b (s + 1) = nI (b (s + 1)) := if_pos (by omega)
    have l2 : ztl n b (s + 2) = nI (b (s + 2)) := if_pos (by omega)
    have e0 : (nI (b s) = nI A1) = (b s = A1) := propext (nI_eq (by have := B.2 s (by omega); omega) (by omega))
    have e1 : (nI (b (s + 1)) = nI A2) = (b (s + 1) = A2) := propext (nI_eq (by have := B.2 (s + 1) (by omega); omega) (by omega))
    have e2 : (nI (b (s + 2)) = nI A3) = (b (s + 2) = A3) := propext (nI_eq (by have := B.2 (s + 2) (by omega); omega) (by omega))
    rw [if_pos (by rw [hl]), l0, l1, l2]
    simp only [e0, e1, e2]
    by_cases q0 : b s = A1
    · by_cases q1 : b (s + 1) = A2
      · by_cases q2 : b (s + 2) = A3
        · simp only [if_pos q0, if_pos q1, if_pos q2]
          rcases hk with rfl | rfl
          · rw [if_pos (show nI 3 < (4 : Int32) by decide)]
            exact ⟨fun _ => rfl, fun h => absurd ⟨hl, q0, q1, q2, fun h => by omega⟩ h⟩
          · have l3 : ztl n b (s + 3) = nI (b (s + 3)) := if_pos (by omega)
            have e3 : (nI (b (s + 3)) = nI A4) = (b (s + 3) = A4) := propext (nI_eq (by have := B.2 (s + 3) (by omega); omega) (by omega))
            rw [if_neg (show ¬ nI 4 < (4 : Int32) by decide), l3]
            simp only [e3]
            by_cases q3 : b (s + 3) = A4
            · rw [if_pos q3]
              exact ⟨fun _ => rfl, fun h => absurd ⟨hl, q0, q1, q2, fun _ => q3⟩ h⟩
            · rw [if_neg q3]
              exact ⟨fun h => absurd (h.2.2.2.2 (by trivial)) q3, fun _ => by trivial⟩
        · simp only [if_pos q0, if_pos q1, if_neg q2]
          exact ⟨fun h => absurd h.2.2.2.1 q2, fun _ => by trivial⟩
      · simp only [if_pos q0, if_neg q1]
        exact ⟨fun h => absurd h.2.2.1 q1, fun _ => by trivial⟩
    · simp only [if_neg q0]
      exact ⟨fun h => absurd h.2.1 q0, fun _ => by trivial⟩
  · rw [if_neg (show ¬ nI (p' - s) = nI k from fun q => hl ((nI_eq (by omega) (by omega)).mp q))]
    exact ⟨fun h => absurd h.1 hl, fun _ => rfl⟩
theorem Wd0 {b : Nat → Nat} {s p' : Nat} : Wd b s p' 0 ↔ p' - s = 4 ∧ b s = 108 ∧ b (s + 1) = 105 ∧ b (s + 2) = 110 ∧ (4 = 4 → b (s + 3) = 101) := by
  constructor
  · rintro ⟨h1, h2⟩
    exact ⟨h1, h2 0 (by decide), h2 1 (by decide), h2 2 (by decide), fun _ => h2 3 (by decide)⟩
  · rintro ⟨h1, h2, h3, h4, h5⟩
    refine ⟨h1, fun j hj => ?_⟩
    have hj' : j < 4 := hj
    match j, hj' with
    | 0, _ => exact h2
    | 1, _ => exact h3
    | 2, _ => exact h4
    | 3, _ => exact h5 rfl
theorem Wd1 {b : Nat → Nat} {s p' : Nat} : Wd b s p' 1 ↔ p' - s = 4 ∧ b s = 108 ∧ b (s + 1) = 111 ∧ b (s + 2) = 111 ∧ (4 = 4 → b (s + 3) = 112) := by
  constructor
  · rintro ⟨h1, h2⟩
    exact ⟨h1, h2 0 (by decide), h2 1 (by decide), h2 2 (by decide), fun _ => h2 3 (by decide)⟩
  · rintro ⟨h1, h2, h3, h4, h5⟩
    refine ⟨h1, fun j hj => ?_⟩
    have hj' : j < 4 := hj
    match j, hj' with
    | 0, _ => exact h2
    | 1, _ => exact h3
    | 2, _ => exact h4
    | 3, _ => exact h5 rfl
theorem Wd2 {b : Nat → Nat} {s p' : Nat} : Wd b s p' 2 ↔ p' - s = 3 ∧ b s = 101 ∧ b (s + 1) = 110 ∧ b (s + 2) = 100 ∧ (3 = 4 → b (s + 3) = 0) := by
  constructor
  · rintro ⟨h1, h2⟩
    exact ⟨h1, h2 0 (by decide), h2 1 (by decide), h2 2 (by decide), fun h => by omega⟩
  · rintro ⟨h1, h2, h3, h4, h5⟩
    refine ⟨h1, fun j hj => ?_⟩
    have hj' : j < 3 := hj
    match j, hj' with
    | 0, _ => exact h2
    | 1, _ => exact h3
    | 2, _ => exact h4
theorem name_ {n s p' v : Nat} {b : Nat → Nat} {σ : zS} (B : bT n b) (t : mT σ n b) (c : mB σ 0 s p' v) (hs : s ≤ p') (hp : p' ≤ n) : (Wd b s p' 0 → J_X11_nameNow σ = some 0) ∧ (¬ Wd b s p' 0 → Wd b s p' 1 → J_X11_nameNow σ = some 1) ∧ (¬ Wd b s p' 0 → ¬ Wd b s p' 1 → Wd b s p' 2 → J_X11_nameNow σ = some 2) ∧ (¬ Wd b s p' 0 → ¬ Wd b s p' 1 → ¬ Wd b s p' 2 → J_X11_nameNow σ = some (-4)) := by
  have m0 := mis_ (A1 := 108) (A2 := 105) (A3 := 110) (A4 := 101) (k := 4) B t c hs hp (Or.inr rfl) (by omega) (by omega) (by omega) (by omega)
  have m1 := mis_ (A1 := 108) (A2 := 111) (A3 := 111) (A4 := 112) (k := 4) B t c hs hp (Or.inr rfl) (by omega) (by omega) (by omega) (by omega)
  have m2 := mis_ (A1 := 101) (A2 := 110) (A3 := 100) (A4 := 0) (k := 3) B t c hs hp (Or.inl rfl) (by omega) (by omega) (by omega) (by omega)
  rw [← Wd0] at m0
  rw [← Wd1] at m1
  rw [← Wd2] at m2
  have y0 : Wd b s p' 0 → J_X11_is (4 : Int32) (108 : Int32) (105 : Int32) (110 : Int32) (101 : Int32) σ = some 1 := m0.1
  have n0 : ¬ Wd b s p' 0 → J_X11_is (4 : Int32) (108 : Int32) (105 : Int32) (110 : Int32) (101 : Int32) σ = some 0 := m0.2
  have y1 : Wd b s p' 1 → J_X11_is (4 : Int32) (108 : Int32) (111 : Int32) (111 : Int32) (112 : Int32) σ = some 1 := m1.1
  have n1 : ¬ Wd b s p' 1 → J_X11_is (4 : Int32) (108 : Int32) (111 : Int32) (111 : Int32) (112 : Int32) σ = some 0 := m1.2
  have y2 : Wd b s p' 2 → J_X11_is (3 : Int32) (101 : Int32) (110 : Int32) (100 : Int32) (0 : Int32) σ = some 1 := m2.1
  have n2 : ¬ Wd b s p' 2 → J_X11_is (3 : Int32) (101 : Int32) (110 : Int32) (100 : Int32) (0 : Int32) σ = some 0 := m2.2
  unfold J_X11_nameNow
  refine ⟨fun h => ?_, fun h0 h => ?_, fun h0 h1 h => ?_, fun h0 h1 h => ?_⟩
  · rw [y0 h, zb_s, if_neg (by decide)]
  · rw [n0 h0, zb_s, if_pos rfl, y1 h, zb_s, if_neg (by decide)]
  · rw [n0 h0, zb_s, if_pos rfl, n1 h1, zb_s, if_pos rfl, y2 h, zb_s, if_neg (by decide)]
  · rw [n0 h0, zb_s, if_pos rfl, n1 h1, zb_s, if_pos rfl, n2 h, zb_s, if_pos rfl]
