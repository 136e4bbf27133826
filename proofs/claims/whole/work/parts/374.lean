set_option maxRecDepth 8000
/-! ===== the walk ===== -/
def zag (τ σ : zS) : Prop := σ.2 = τ.2 ∧ ∀ c i, ¬ (c = 111 ∨ c = 122 ∨ c = 123 ∨ (c = 105 ∧ i = 7)) → σ.1 c i = τ.1 c i
def wEnv (τ : zS) (P : zM) (st : zST) : Prop := (∃ R, τ.1 105 22 = nI R ∧ zprl P ≤ R ∧ R ≤ 100) ∧ (∀ k, k < zprl P → τ.1 119 k = nI (zprw P k)) ∧ (∀ q, q < zpq P → τ.1 109 q = nI (zpte P q)) ∧ ∀ q, q < zpq P → dMem q st = false → ∃ r, (∀ σ, zag τ σ → J_X11_linesIn (nI q) σ = some r) ∧ (r = 0 ↔ zpfi P q = zpbe P q)
def zwk (τ : zS) (i j : Nat) (xs : List Nat) (Bq c : Nat) : Prop := i ≤ j ∧ ∃ m, m ≤ c * xs.length + (j - i) ∧ ∀ n σ s, zag τ σ → σ.1 105 7 = nI s → s + xs.length ≤ 6000 → ∃ σ', L_X11_walk_7 (n + m) (nI i) σ = L_X11_walk_7 n (nI j) σ' ∧ zag τ σ' ∧ σ'.1 105 7 = nI (s + xs.length) ∧ (∀ k, k < xs.length → σ'.1 111 (s + k) = nI (xs.getD k 0)) ∧ (∀ k, k < s → σ'.1 111 k = σ.1 111 k) ∧ ∀ q, q < Bq → σ'.1 122 q = σ.1 122 q ∧ σ'.1 123 q = σ.1 123 q
def zwS (τ : zS) (P : zM) : zST → List Nat → Nat → Prop
  | [], cur, j => zwk τ 0 j cur 0 404
  | (q, sv) :: r, cur, j => zprs P q < j ∧ zprw P (zprs P q) = 100 + q ∧ zwk τ (zprs P q + 1) j cur (q + 1) (101 * (3 - r.length)) ∧ zwS τ P r sv (zprs P q)
def wkW (P : zM) (st : zST) (cur : List Nat) : Prop := ∀ τ, wEnv τ P st → zwS τ P st cur (zprl P)
theorem zwk_0 (τ : zS) (i Bq c : Nat) : zwk τ i i [] Bq c := ⟨Nat.le_refl _, 0, Nat.zero_le _, fun n σ s h1 h2 _ => ⟨σ, rfl, h1, h2, fun k hk => absurd hk (Nat.not_lt_zero k), fun _ _ => rfl, fun _ _ => ⟨rfl, rfl⟩⟩⟩
theorem zwk_w {τ : zS} {i j B B' c c' : Nat} {xs : List Nat} (hB : B' ≤ B) (hc : c ≤ c') (h : zwk τ i j xs B c) : zwk τ i j xs B' c' := by
  obtain ⟨h1, m, h2, h3⟩ := h
  refine ⟨h1, m, Nat.le_trans h2 (Nat.add_le_add_right (Nat.mul_le_mul_right _ hc) _), fun n σ s a b d => ?_⟩
  obtain ⟨σ', x1, x2, x3, x4, x5, x6⟩ := h3 n σ s a b d
  exact ⟨σ', x1, x2, x3, x4, x5, fun q hq => x6 q (by omega)⟩
theorem zwk_t {τ : zS} {i j k B c : Nat} {xs ys : List Nat} (h : zwk τ i j xs B c) (g : zwk τ j k ys B c) : zwk τ i k (xs ++ ys) B c := by
  obtain ⟨h1, m, h2, h3⟩ := h
  obtain ⟨g1, m', g2, g3⟩ := g
  refine ⟨by omega, m' + m, ?_, fun n σ s a b d => ?_⟩
  · rw [List.length_append, Nat.mul_add]
    omega
  · rw [List.length_append] at d
    obtain ⟨σ', x1, x2, x3, x4, x5, x6⟩ := h3 (n + m') σ s a b (by omega)
    obtain ⟨σ2, y1, y2, y3, y4, y5, y6⟩ := g3 n σ' (s + xs.length) x2 x3 (by omega)
    refine ⟨σ2, by rw [← Nat.add_assoc, x1, y1], y2, by rw [y3, List.length_append, Nat.add_assoc], fun z hz => ?_, fun z hz => by rw [y5 z (by omega), x5 z hz], fun q hq => ⟨(y6 q hq).1.trans (x6 q hq).1, (y6 q hq).2.trans (x6 q hq).2⟩⟩
    rw [List.length_append] at hz
    by_cases hl : z < xs.length
    · rw [y5 _ (by omega), x4 z hl, gd_l hl]
    · have := y4 (z - xs.length) (by omega)
      rw [show s + xs.length + (z - xs.length) = s + z by omega] at this
      rw [this, gd_r (by omega)]
/-- a line's step -/
theorem zwk_l {τ : zS} {j l R B c : Nat} (hR : τ.1 105 22 = nI R) (hj : j < R) (hR1 : R ≤ 100) (hl : l < 100) (hrow : τ.1 119 j = nI l) : zwk τ j (j + 1) [l] B c := by
  refine ⟨by omega, 1, by simp, fun n σ s a b d => ?_⟩
  have d' : s + 1 ≤ 6000 := d
  have e22 : σ.1 105 22 = nI R := by rw [a.2 _ _ (by omega)]; exact hR
  have e119 : σ.1 119 j = nI l := by rw [a.2 _ _ (by omega)]; exact hrow
  have t4 : nI j + 1 = nI (j + 1) := nI_add j 1
  have s4 : nI s + 1 = nI (s + 1) := nI_add s 1
  have y7 : (zsI σ 111 s (nI l)).1 105 7 = nI s := by rw [zI_n (by omega)]; exact b
  refine ⟨zsI (zsI σ 111 s (nI l)) 105 7 (nI (s + 1)), ?_, ⟨a.1, fun c' i' hc => by rw [zI_n (by omega), zI_n (by omega)]; exact a.2 c' i' hc⟩, zI_y, fun k hk => ?_, fun k hk => by rw [zI_n (by omega), zI_n (by omega)], fun q _ => ⟨by rw [zI_n (by omega), zI_n (by omega)], by rw [zI_n (by omega), zI_n (by omega)]⟩⟩
  · rw [L_X11_walk_7, zlet_eq, e22, if_neg (nI_ge hj (by omega)), zi_nI (by omega) (by omega), zg_t, zcla (by omega), e119, zlet_eq, if_neg (show ¬ (100 : Int32) ≤ nI l from nI_ge (b := 100) hl (by omega)), b, zi_nI (by omega) (by omega), zg_t, zcla (by omega), zlet_eq, y7, s4, zlet_eq, t4, zlet_eq]
  · have hk' : k < 1 := hk
    obtain rfl : k = 0 := by omega
    rw [zI_n (by omega)]
    exact zI_y
/-- a loop, so often as it tells -/
theorem zwk_p {τ : zS} {a j q R c te : Nat} {xs : List Nat} {r : Int32} (hR : τ.1 105 22 = nI R) (hj : j < R) (hR1 : R ≤ 100) (hq : q < 40) (ha : a < j) (h1 : τ.1 119 a = nI (100 + q)) (h2 : τ.1 119 j = nI (200 + q)) (ht : τ.1 109 q = nI te) (t1 : 1 ≤ te) (t2 : te ≤ 99) (hl : ∀ σ, zag τ σ → J_X11_linesIn (nI q) σ = some r) (hr : r = 0 ↔ xs = []) (body : zwk τ (a + 1) j xs (q + 1) c) : zwk τ a (j + 1) (dRep te xs) q (c + 101) := by
  obtain ⟨b1, m, b2, b3⟩ := body
  have t4 : nI j + 1 = nI (j + 1) := nI_add j 1
  have a4 : nI a + 1 = nI (a + 1) := nI_add a 1
  have s2 : nI (200 + q) - 200 = nI q := by
    have := pk_sub (a := 200 + q) (b := 200) (by omega)
    rw [Nat.add_sub_cancel_left] at this
    exact this
  have s1 : nI (100 + q) - 100 = nI q := by
    have := pk_sub (a := 100 + q) (b := 100) (by omega)
    rw [Nat.add_sub_cancel_left] at this
    exact this
  -- behind the loop's beginning, with so many rounds left
  have L : ∀ k, 1 ≤ k → k ≤ 99 → ∀ n σ s, zag τ σ → σ.1 105 7 = nI s → s + k * xs.length ≤ 6000 → σ.1 122 q = nI k → σ.1 123 q = nI a → ∃ σ', L_X11_walk_7 (n + k * (m + 1)) (nI (a + 1)) σ = L_X11_walk_7 n (nI (j + 1)) σ' ∧ zag τ σ' ∧ σ'.1 105 7 = nI (s + k * xs.length) ∧ (∀ z, z < k * xs.length → σ'.1 111 (s + z) = nI ((dRep k xs).getD z 0)) ∧ (∀ z, z < s → σ'.1 111 z = σ.1 111 z) ∧ ∀ x, x < q → σ'.1 122 x = σ.1 122 x ∧ σ'.1 123 x = σ.1 123 x := by
    intro k
    induction k with
    | zero => intro h; omega
    | succ k ih =>
      intro _ k9 n σ s za e7 hs e122 e123
      have sm : (k + 1) * xs.length = k * xs.length + xs.length := Nat.succ_mul _ _
      rw [sm] at hs
      rw [Nat.succ_mul k (m + 1), sm]
      obtain ⟨σ1, x1, x2, x3, x4, x5, x6⟩ := b3 (n + k * (m + 1) + 1) σ s za e7 (by omega)
      have e22 : σ1.1 105 22 = nI R := by rw [x2.2 _ _ (by omega)]; exact hR
      have e119 : σ1.1 119 j = nI (200 + q) := by rw [x2.2 _ _ (by omega)]; exact h2
      have f122 : σ1.1 122 q = nI (k + 1) := by rw [(x6 q (by omega)).1]; exact e122
      have f123 : σ1.1 123 q = nI a := by rw [(x6 q (by omega)).2]; exact e123
      have pm : nI (k + 1) - 1 = nI k := nI_pred k
      have z3 : (zsI σ1 122 q (nI k)).1 123 q = nI a := by rw [zI_n (by omega)]; exact f123
      have zg1 : zag τ (zsI σ1 122 q (nI k)) := ⟨x2.1, fun c' i' hc => by rw [zI_n (by omega)]; exact x2.2 c' i' hc⟩
      have step : L_X11_walk_7 (n + k * (m + 1) + 1) (nI j) σ1 = if nI k ≤ (0 : Int32) then L_X11_walk_7 (n + k * (m + 1)) (nI (j + 1)) (zsI σ1 122 q (nI k)) else L_X11_walk_7 (n + k * (m + 1)) (nI (a + 1)) (zsI σ1 122 q (nI k)) := by
        rw [L_X11_walk_7, zlet_eq, e22, if_neg (nI_ge hj (by omega)), zi_nI (by omega) (by omega), zg_t, zcla (by omega), e119, zlet_eq, if_pos (show (100 : Int32) ≤ nI (200 + q) from nI_le (a := 100) (by omega) (by omega)), if_pos (show (200 : Int32) ≤ nI (200 + q) from nI_le (a := 200) (by omega) (by omega)), s2, zi_nI (by omega) (by omega), zg_t, zg_t, zcla (by omega), f122, pm, zlet_eq, zg_t, zI_y, zg_t, z3, t4, zlet_eq, zlet_eq, a4, zlet_eq]
      have split : dRep (k + 1) xs = xs ++ dRep k xs := rfl
      by_cases hk : k = 0
      · subst hk
        rw [if_pos (show nI 0 ≤ (0 : Int32) by decide)] at step
        refine ⟨zsI σ1 122 q (nI 0), ?_, zg1, ?_, fun z hz => ?_, fun z hz => ?_, fun x hx => ⟨?_, ?_⟩⟩
        · rw [show n + (0 * (m + 1) + (m + 1)) = n + 0 * (m + 1) + 1 + m by omega, x1, step]
          congr 1
          omega
        · rw [zI_n (by omega), x3, Nat.zero_mul, Nat.zero_add]
        · rw [Nat.zero_mul, Nat.zero_add] at hz
          rw [zI_n (by omega), x4 z hz, split, gd_l hz]
        · rw [zI_n (by omega), x5 z hz]
        · rw [zI_n (by omega), (x6 x (by omega)).1]
        · rw [zI_n (by omega), (x6 x (by omega)).2]
      · rw [if_neg (nI_nle (by omega) (by omega))] at step
        obtain ⟨σ', y1, y2, y3, y4, y5, y6⟩ := ih (by omega) (by omega) n (zsI σ1 122 q (nI k)) (s + xs.length) zg1 (by rw [zI_n (by omega)]; exact x3) (by omega) zI_y z3
        refine ⟨σ', ?_, y2, ?_, fun z hz => ?_, fun z hz => ?_, fun x hx => ⟨?_, ?_⟩⟩
        · rw [show n + (k * (m + 1) + (m + 1)) = n + k * (m + 1) + 1 + m by omega, x1, step, y1]
        · rw [y3]
          congr 1
          omega
        · rw [split]
          by_cases hz2 : z < xs.length
          · rw [gd_l hz2, y5 _ (by omega), zI_n (by omega), x4 z hz2]
          · have := y4 (z - xs.length) (by omega)
            rw [show s + xs.length + (z - xs.length) = s + z by omega] at this
            rw [this, gd_r (by omega)]
        · rw [y5 z (by omega), zI_n (by omega), x5 z hz]
        · rw [(y6 x hx).1, zI_n (by omega), (x6 x (by omega)).1]
        · rw [(y6 x hx).2, zI_n (by omega), (x6 x (by omega)).2]
  -- the beginning
  have S : ∀ n σ s, zag τ σ → σ.1 105 7 = nI s → ∃ σ', L_X11_walk_7 (n + 1) (nI a) σ = L_X11_walk_7 n (nI (a + 1)) σ' ∧ zag τ σ' ∧ σ'.1 105 7 = nI s ∧ σ'.1 122 q = nI (if xs = [] then 1 else te) ∧ σ'.1 123 q = nI a ∧ (∀ z, σ'.1 111 z = σ.1 111 z) ∧ ∀ x, x < q → σ'.1 122 x = σ.1 122 x ∧ σ'.1 123 x = σ.1 123 x := by
    intro n σ s za e7
    have e22 : σ.1 105 22 = nI R := by rw [za.2 _ _ (by omega)]; exact hR
    have e119 : σ.1 119 a = nI (100 + q) := by rw [za.2 _ _ (by omega)]; exact h1
    have e109 : σ.1 109 q = nI te := by rw [za.2 _ _ (by omega)]; exact ht
    refine ⟨zsI (zsI σ 122 q (nI (if xs = [] then 1 else te))) 123 q (nI a), ?_, ⟨za.1, fun c' i' hc => by rw [zI_n (by omega), zI_n (by omega)]; exact za.2 c' i' hc⟩, by rw [zI_n (by omega), zI_n (by omega)]; exact e7, by rw [zI_n (by omega), zI_y], zI_y, fun z => by rw [zI_n (by omega), zI_n (by omega)], fun x hx => ⟨by rw [zI_n (by omega), zI_n (by omega)], by rw [zI_n (by omega), zI_n (by omega)]⟩⟩
    have D : ∀ x0, D_X11_walk_90 (L_X11_walk_7 n) (nI a) σ (nI (100 + q)) (nI q) x0 = L_X11_walk_7 n (nI (a + 1)) (zsI (zsI σ 122 q x0) 123 q (nI a)) := by
      intro x0
      unfold D_X11_walk_90
      rw [s1, zi_nI (by omega) (by omega), zg_t, zcla (by omega), zlet_eq, zg_t, zlet_eq, a4, zlet_eq]
    rw [L_X11_walk_7, zlet_eq, e22, if_neg (nI_ge (by omega) (by omega)), zi_nI (by omega) (by omega), zg_t, zcla (by omega), e119, zlet_eq, if_pos (show (100 : Int32) ≤ nI (100 + q) from nI_le (a := 100) (by omega) (by omega)), if_neg (show ¬ (200 : Int32) ≤ nI (100 + q) from nI_ge (b := 200) (by omega) (by omega)), s1, hl σ za, zb_s, zlet_eq, zlet_eq]
    by_cases hx : xs = []
    · rw [if_pos (hr.mpr hx), D, if_pos hx]
      rfl
    · rw [if_neg (fun w => hx (hr.mp w)), zi_nI (by omega) (by omega), zg_t, zcla (by omega), e109, D, if_neg hx]
  by_cases hx : xs = []
  · subst hx
    have e : dRep te ([] : List Nat) = [] := by
      have := dRep_l ([] : List Nat) te
      exact List.eq_nil_of_length_eq_zero (by rw [this]; simp)
    rw [e]
    refine ⟨by omega, m + 2, ?_, fun n σ s za e7 hs => ?_⟩
    · have b2' : m ≤ c * 0 + (j - (a + 1)) := b2
      show m + 2 ≤ (c + 101) * 0 + (j + 1 - a)
      omega
    · obtain ⟨σ1, x1, x2, x3, x4, x5, x6, x7⟩ := S (n + (m + 1)) σ s za e7
      obtain ⟨σ', y1, y2, y3, y4, y5, y6⟩ := L 1 (Nat.le_refl _) (by omega) n σ1 s x2 x3 (by simpa using hs) x4 x5
      refine ⟨σ', ?_, y2, y3, fun k hk => absurd hk (Nat.not_lt_zero k), fun k hk => by rw [y5 k hk, x6], fun x hx => ⟨(y6 x hx).1.trans (x7 x hx).1, (y6 x hx).2.trans (x7 x hx).2⟩⟩
      rw [show n + (m + 2) = n + (m + 1) + 1 by omega, x1]
      rw [Nat.one_mul] at y1
      exact y1
  · have pos : 1 ≤ xs.length := by
      cases xs with
      | nil => exact absurd rfl hx
      | cons y ys => rw [List.length_cons]; omega
    rw [if_neg hx] at S
    have dl := dRep_l xs te
    refine ⟨by omega, te * (m + 1) + 1, ?_, fun n σ s za e7 hs => ?_⟩
    · rw [dl]
      have x1 : te ≤ te * xs.length := Nat.le_mul_of_pos_right _ (by omega)
      have x2 : te * (m + 1) ≤ te * (c * xs.length + 100) := Nat.mul_le_mul_left _ (by omega)
      have x3 : te * (c * xs.length + 100) = c * (te * xs.length) + te * 100 := by
        rw [Nat.mul_add]
        congr 1
        rw [Nat.mul_left_comm]
      rw [Nat.add_mul]
      omega
    · rw [dl] at hs
      obtain ⟨σ1, x1, x2, x3, x4, x5, x6, x7⟩ := S (n + te * (m + 1)) σ s za e7
      obtain ⟨σ', y1, y2, y3, y4, y5, y6⟩ := L te t1 t2 n σ1 s x2 x3 hs x4 x5
      refine ⟨σ', ?_, y2, by rw [dl]; exact y3, fun k hk => ?_, fun k hk => by rw [y5 k hk, x6], fun x hx => ⟨(y6 x hx).1.trans (x7 x hx).1, (y6 x hx).2.trans (x7 x hx).2⟩⟩
      · rw [← Nat.add_assoc, x1, y1]
      · rw [dl] at hk
        exact y4 k hk
