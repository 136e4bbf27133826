set_option maxRecDepth 8000
/-! ===== the class times the steps ===== -/
theorem ts9 {p : Nat} {P : zM} {cur : List Nat} (h6 : cur.length ≤ 6000) (hc : ∀ x, x ∈ cur → x < zpn P) (hn : zpn P ≤ 16) : ∀ q i N σ, i + q = cur.length → q < N → σ.1 p 15 = nI cur.length → (∀ j, j < cur.length → σ.1 (p + 28) j = nI (cur.getD j 0)) → (∀ l, l < zpn P → σ.1 (p + 1) l = nI (zptk P l)) → σ.1 (p + 29) i = nI (zsm (fun i => zptk P (cur.getD i 0)) i) → ∃ σ', L_X3_timeSteps_9 p N (nI i) σ = some σ' ∧ σ'.2 = σ.2 ∧ (∀ c j, ¬ (c = p + 29 ∧ i < j) → σ'.1 c j = σ.1 c j) ∧ ∀ j, i < j → j ≤ cur.length → σ'.1 (p + 29) j = nI (zsm (fun i => zptk P (cur.getD i 0)) j) := by
  intro q
  induction q with
  | zero =>
    intro i N σ h hN h15 h28 h1 h29
    cases N with
    | zero => omega
    | succ N =>
      obtain rfl : i = cur.length := by omega
      refine ⟨σ, ?_, rfl, fun _ _ _ => rfl, fun j h1 h2 => by omega⟩
      rw [L_X3_timeSteps_9, zlet_eq, h15, if_pos (nI_le (Nat.le_refl _) (by omega))]
  | succ q ih =>
    intro i N σ h hN h15 h28 h1 h29
    cases N with
    | zero => omega
    | succ N =>
      have t4 : nI i + 1 = nI (i + 1) := nI_add i 1
      have lo := hc _ (gd_m (a := cur) (i := i) (by omega))
      have e28 := h28 i (by omega)
      have a1 : nI (zsm (fun i => zptk P (cur.getD i 0)) i) + nI (zptk P (cur.getD i 0)) = nI (zsm (fun i => zptk P (cur.getD i 0)) (i + 1)) := nI_add _ _
      obtain ⟨σ', e1, e2, e3, e4⟩ := ih (i + 1) N (zsI σ (p + 29) (i + 1) (nI (zsm (fun i => zptk P (cur.getD i 0)) (i + 1)))) (by omega) (by omega) (by rw [zI_n (by omega)]; exact h15) (fun j hj => by rw [zI_n (by omega)]; exact h28 j hj) (fun l hl => by rw [zI_n (by omega)]; exact h1 l hl) zI_y
      refine ⟨σ', ?_, e2, fun c j hc => by rw [e3 c j (by omega), zI_n (by omega)], fun j h1 h2 => ?_⟩
      · rw [L_X3_timeSteps_9, zlet_eq, h15, if_neg (nI_ge (by omega) (by omega)), zi_nI (by omega) (by omega), zg_t, zi_nI (by omega) (by omega), zg_t, zcla (by omega), e28, zi_nI (by omega) (by omega), zg_t, t4, zi_nI (by omega) (by omega), zg_t, zcla (by omega), zcla (by omega), h29, h1 _ lo, a1, zlet_eq, zlet_eq]
        exact e1
      · by_cases ej : j = i + 1
        · rw [ej, e3 _ _ (by omega), zI_y]
        · exact e4 j (by omega) h2
theorem ts_ {p : Nat} {P : zM} {cur : List Nat} {σ : zS} (w : wD P [] cur) (h6 : cur.length ≤ 6000) (c : cD σ.1 p P [] cur) : ∃ σ', J_X3_timeSteps p σ = some σ' ∧ cPr σ'.1 p (dFin P cur) ∧ σ'.2 = σ.2 ∧ ∀ c i, ¬ (c = p + 29) → σ'.1 c i = σ.1 c i := by
  obtain ⟨f1, f2, f3, ftk, ftm, fin, fpa, fte, fad, fco, ffi, fbe, fou, fev, flo, ftt⟩ := dFin_f (P := P) (cur := cur)
  obtain ⟨c1, c2, c3, c4, c5, c6, c7, s, c8, c9, c10, c11, c12⟩ := c
  obtain ⟨g1, g2, g3⟩ := c10 h6
  have g1' : s = cur.length := g1
  rw [g1'] at c9
  have g3' : ∀ i, i < cur.length → σ.1 (p + 28) i = nI (cur.getD i 0) := fun i hi => g3 i (by omega)
  have hc : ∀ x, x ∈ cur → x < zpn P := w.2.2.2.2.2.2.2.2
  obtain ⟨σ', e1, e2, e3, e4⟩ := ts9 (p := p) h6 hc w.1 cur.length 0 4294967296 (zsI σ (p + 29) 0 (0 : Int32)) (by omega) (by omega) (by rw [zI_n (by omega)]; exact c9) (fun j hj => by rw [zI_n (by omega)]; exact g3' j hj) (fun l hl => by rw [zI_n (by omega)]; exact (c5 l hl).1) zI_y
  have fr : ∀ c i, ¬ (c = p + 29) → σ'.1 c i = σ.1 c i := fun c i h => by rw [e3 _ _ (by omega), zI_n (by omega)]
  refine ⟨σ', ?_, ⟨?_, ?_, ?_, fun l hl => ?_, fun q hq => ?_, fun i hi => ?_, fun i hi => ?_⟩, e2, fr⟩
  · unfold J_X3_timeSteps
    rw [show zi (0 : Int32) 6001 = true from rfl, zg_t, zlet_eq]
    exact e1
  · rw [fr _ _ (by omega), f1]; exact c1
  · rw [fr _ _ (by omega), f2]; exact c2
  · rw [fr _ _ (by omega), f3]; exact c9
  · rw [f1] at hl
    obtain ⟨d1, d2, d3, d4⟩ := c5 l hl
    rw [ftk, ftm, fin, fr _ _ (by omega), fr _ _ (by omega), fr _ _ (by omega)]
    exact ⟨d1, d2, d3, fun e he => by rw [fev, fr _ _ (by have := w.1; omega)]; exact d4 e he⟩
  · rw [f2] at hq
    rw [fte, fad, fco, ffi, fbe, fr _ _ (by omega), fr _ _ (by omega), fr _ _ (by omega), fr _ _ (by omega), fr _ _ (by omega)]
    exact c6 q hq
  · rw [f3] at hi
    rw [fr _ _ (by omega), flo]
    exact g3' i hi
  · rw [f3] at hi
    rw [ftt]
    by_cases h0 : i = 0
    · rw [h0, e3 _ _ (by omega), zI_y]
      rfl
    · exact e4 i (by omega) hi
/-! ===== the reference's times ===== -/
theorem dt_ {P : zM} {σ : zS} (hq : zpq P ≤ 40) (hl : ∀ q, q < zpq P → wQ P q) (h1 : ∀ q, q < zpq P → σ.1 116 q = nI (zpte P q) ∧ σ.1 117 q = zco (zpou P q)) : ∀ f k N acc, k ≤ f → k ≤ zpq P → f < N → L_X11_dTimes_10 σ N (lN acc) (zco k) = some (lN (acc * zpr (zpou P) (zpte P) f k)) := by
  intro f
  induction f with
  | zero =>
    intro k N acc hk hkq hN
    obtain rfl : k = 0 := by omega
    cases N with
    | zero => omega
    | succ N =>
      rw [L_X11_dTimes_10, zlet_eq, if_pos (show zco 0 = -4 from rfl), zpr, Nat.mul_one]
  | succ f ih =>
    intro k N acc hk hkq hN
    cases N with
    | zero => omega
    | succ N =>
      rw [L_X11_dTimes_10, zlet_eq, zpr]
      by_cases h0 : k = 0
      · rw [h0, if_pos (show zco 0 = -4 from rfl), if_pos rfl, Nat.mul_one]
      · have e1 : zco k = nI (k - 1) := if_neg h0
        have ne : ¬ nI (k - 1) = -4 := of_eq_false (z_ng (a := k - 1) (b := 4) (by omega) (by omega) (by omega))
        obtain ⟨g1, g2⟩ := h1 (k - 1) (by omega)
        have te := hl (k - 1) (by omega)
        have te2 := te.2.1
        have te3 := te.2.2.1
        rw [e1, if_neg ne, zi_nI (by omega) (by omega), zg_t, zcla (by omega), g1, nI_l (by omega), lN_mul, zlet_eq, zg_t, g2, zlet_eq, if_neg h0, ih (zpou P (k - 1)) N _ (by omega) (by omega) (by omega), Nat.mul_assoc]
theorem dTi {P : zM} {st : zST} {cur : List Nat} {σ : zS} (w : wD P st cur) (h1 : ∀ q, q < zpq P → σ.1 116 q = nI (zpte P q) ∧ σ.1 117 q = zco (zpou P q)) {l : Nat} (hl : l < zpn P) (h2 : σ.1 115 l = zco (zpar P l)) : J_X11_dTimes (nI l) σ = some (lN (zptm P l)) := by
  have wl := w.2.2.2.2.1 l hl
  have w2 := w.2.1
  have w1 := w.1
  unfold J_X11_dTimes
  have D := dt_ (σ := σ) w2 w.2.2.2.2.2.1 h1 41 (zpar P l) 4294967296 1 (by have := wl.2.2.2.2.1; omega) wl.2.2.2.2.1 (by omega)
  have D' : L_X11_dTimes_10 σ 4294967296 (1 : Int64) (zco (zpar P l)) = _ := D
  rw [zi_nI (by omega) (by omega), zg_t, zcla (by omega), h2, zlet_eq, D', Nat.one_mul, ← wl.2.2.2.2.2.2.2.1]
theorem k31 {P : zM} {st : zST} {cur : List Nat} {K : zS → Option zS} (w : wD P st cur) : ∀ q l N σ, l + q = zpn P → q < N → σ.1 105 0 = nI (zpn P) → (∀ x, x < zpn P → σ.1 113 x = nI (zptk P x) ∧ σ.1 115 x = zco (zpar P x)) → (∀ q, q < zpq P → σ.1 116 q = nI (zpte P q) ∧ σ.1 117 q = zco (zpou P q)) → σ.1 105 10 = nI (zsm (fun l => zptk P l * zptm P l) l) → ∃ σ', L_X11_keepProgram_31 K N (nI l) σ = K σ' ∧ σ'.2 = σ.2 ∧ (∀ c i, ¬ ((c = 106 ∨ c = 108 ∨ c = 112) ∧ l ≤ i) → ¬ (c = 105 ∧ i = 10) → σ'.1 c i = σ.1 c i) ∧ σ'.1 105 10 = nI (zsm (fun l => zptk P l * zptm P l) (zpn P)) ∧ ∀ x, l ≤ x → x < zpn P → σ'.1 106 x = nI (zptk P x) ∧ σ'.1 108 x = zco (zpar P x) ∧ σ'.1 112 x = nI (zptm P x) := by
  have w1 := w.1
  intro q
  induction q with
  | zero =>
    intro l N σ h hN h0 h1 h2 h10
    cases N with
    | zero => omega
    | succ N =>
      obtain rfl : l = zpn P := by omega
      refine ⟨σ, ?_, rfl, fun _ _ _ _ => rfl, h10, fun x h1 h2 => by omega⟩
      rw [L_X11_keepProgram_31, zlet_eq, h0, if_pos (nI_le (Nat.le_refl _) (by omega))]
  | succ q ih =>
    intro l N σ h hN h0 h1 h2 h10
    cases N with
    | zero => omega
    | succ N =>
      have t4 : nI l + 1 = nI (l + 1) := nI_add l 1
      have l16 : l < 16 := by omega
      obtain ⟨g1, g2⟩ := h1 l (by omega)
      obtain ⟨τ, hτ⟩ : ∃ τ, τ = zsI (zsI σ 106 l (nI (zptk P l))) 108 l (zco (zpar P l)) := ⟨_, rfl⟩
      have o : ∀ c i, ¬ ((c = 106 ∨ c = 108) ∧ i = l) → τ.1 c i = σ.1 c i := fun c i hc => by rw [hτ, zI_n (by omega), zI_n (by omega)]
      have D := dTi (σ := τ) w (fun q hq => by rw [o _ _ (by omega), o _ _ (by omega)]; exact h2 q hq) (show l < zpn P by omega) (by rw [o _ _ (by omega)]; exact g2)
      have m1 : nI (zptk P l) * nI (zptm P l) = nI (zptk P l * zptm P l) := pk_mul _ _
      have a1 : nI (zsm (fun l => zptk P l * zptm P l) l) + nI (zptk P l * zptm P l) = nI (zsm (fun l => zptk P l * zptm P l) (l + 1)) := nI_add _ _
      obtain ⟨υ, hυ⟩ : ∃ υ, υ = zsI (zsI τ 112 l (nI (zptm P l))) 105 10 (nI (zsm (fun l => zptk P l * zptm P l) (l + 1))) := ⟨_, rfl⟩
      have o2 : ∀ c i, ¬ ((c = 106 ∨ c = 108 ∨ c = 112) ∧ i = l) → ¬ (c = 105 ∧ i = 10) → υ.1 c i = σ.1 c i := fun c i h1 h2 => by rw [hυ, zI_n h2, zI_n (by omega), o _ _ (by omega)]
      obtain ⟨σ', e1, e2, e3, e4, e5⟩ := ih (l + 1) N υ (by omega) (by omega) (by rw [o2 _ _ (by omega) (by omega)]; exact h0) (fun x hx => by rw [o2 _ _ (by omega) (by omega), o2 _ _ (by omega) (by omega)]; exact h1 x hx) (fun q hq => by rw [o2 _ _ (by omega) (by omega), o2 _ _ (by omega) (by omega)]; exact h2 q hq) (by rw [hυ, zI_y])
      have v106 : τ.1 106 l = nI (zptk P l) := by rw [hτ, zI_n (by omega), zI_y]
      refine ⟨σ', ?_, e2.trans (by rw [hυ, hτ]; rfl), fun c i h1 h2 => by rw [e3 c i (by omega) h2, o2 c i (by omega) h2], e4, fun x hx hx2 => ?_⟩
      · have y115 : (zsI σ 106 l (nI (zptk P l))).1 115 l = zco (zpar P l) := by rw [zI_n (by omega)]; exact g2
        have y10 : (zsI τ 112 l (nI (zptm P l))).1 105 10 = nI (zsm (fun l => zptk P l * zptm P l) l) := by rw [zI_n (by omega), o _ _ (by omega)]; exact h10
        have y106 : (zsI τ 112 l (nI (zptm P l))).1 106 l = nI (zptk P l) := by rw [zI_n (by omega)]; exact v106
        rw [L_X11_keepProgram_31, zlet_eq, h0, if_neg (nI_ge (by omega) (by omega)), zi_nI l16 (by omega), zg_t, zg_t, zcla (by omega), g1, zlet_eq, zg_t, zg_t, y115, zlet_eq, ← hτ, D, zb_s, zg_t, lN_i, zlet_eq, zg_t, zg_t, y10, y106, zI_y, m1, a1, ← hυ, zlet_eq, t4, zlet_eq]
        exact e1
      · by_cases ex : x = l
        · subst ex
          rw [e3 _ _ (by omega) (by omega), e3 _ _ (by omega) (by omega), e3 _ _ (by omega) (by omega), hυ]
          refine ⟨?_, ?_, ?_⟩
          · rw [zI_n (by omega), zI_n (by omega)]; exact v106
          · rw [zI_n (by omega), zI_n (by omega), hτ, zI_y]
          · rw [zI_n (by omega), zI_y]
        · exact e5 x (by omega) hx2
theorem k105 {K : zS → Option zS} : ∀ q l N σ, l + q = 128 → q < N → ∃ σ', L_X11_keepProgram_105 K N (nI l) σ = K σ' ∧ σ'.2 = σ.2 ∧ (∀ c i, ¬ (c = 107 ∧ l ≤ i) → σ'.1 c i = σ.1 c i) ∧ ∀ x, l ≤ x → x < 128 → σ'.1 107 x = σ.1 114 x := by
  intro q
  induction q with
  | zero =>
    intro l N σ h hN
    cases N with
    | zero => omega
    | succ N =>
      obtain rfl : l = 128 := by omega
      refine ⟨σ, ?_, rfl, fun _ _ _ => rfl, fun x h1 h2 => by omega⟩
      rw [L_X11_keepProgram_105, zlet_eq, if_pos (show (128 : Int32) ≤ nI 128 by decide)]
  | succ q ih =>
    intro l N σ h hN
    cases N with
    | zero => omega
    | succ N =>
      have t4 : nI l + 1 = nI (l + 1) := nI_add l 1
      obtain ⟨σ', e1, e2, e3, e4⟩ := ih (l + 1) N (zsI σ 107 l (σ.1 114 l)) (by omega) (by omega)
      refine ⟨σ', ?_, e2, fun c i hc => by rw [e3 c i (by omega), zI_n (by omega)], fun x h1 h2 => ?_⟩
      · rw [L_X11_keepProgram_105, zlet_eq, if_neg (show ¬ (128 : Int32) ≤ nI l from nI_ge (b := 128) (by omega) (by omega)), zi_nI (by omega) (by omega), zg_t, zg_t, zcla (by omega), zlet_eq, t4, zlet_eq]
        exact e1
      · by_cases ex : x = l
        · rw [ex, e3 _ _ (by omega), zI_y]
        · rw [e4 x (by omega) h2, zI_n (by omega)]
theorem k132 {Q : Nat} (hQ : Q ≤ 40) {K : zS → Option zS} : ∀ q l N σ, l + q = Q → q < N → σ.1 105 4 = nI Q → ∃ σ', L_X11_keepProgram_132 K N (nI l) σ = K σ' ∧ σ'.2 = σ.2 ∧ (∀ c i, ¬ ((c = 109 ∨ c = 110) ∧ l ≤ i) → σ'.1 c i = σ.1 c i) ∧ ∀ x, l ≤ x → x < Q → σ'.1 109 x = σ.1 116 x ∧ σ'.1 110 x = σ.1 117 x := by
  intro q
  induction q with
  | zero =>
    intro l N σ h hN h4
    cases N with
    | zero => omega
    | succ N =>
      obtain rfl : l = Q := by omega
      refine ⟨σ, ?_, rfl, fun _ _ _ => rfl, fun x h1 h2 => by omega⟩
      rw [L_X11_keepProgram_132, zlet_eq, h4, if_pos (nI_le (Nat.le_refl _) (by omega))]
  | succ q ih =>
    intro l N σ h hN h4
    cases N with
    | zero => omega
    | succ N =>
      have t4 : nI l + 1 = nI (l + 1) := nI_add l 1
      obtain ⟨σ', e1, e2, e3, e4⟩ := ih (l + 1) N (zsI (zsI σ 109 l (σ.1 116 l)) 110 l (σ.1 117 l)) (by omega) (by omega) (by rw [zI_n (by omega), zI_n (by omega)]; exact h4)
      refine ⟨σ', ?_, e2, fun c i hc => by rw [e3 c i (by omega), zI_n (by omega), zI_n (by omega)], fun x h1 h2 => ?_⟩
      · have y : (zsI σ 109 l (σ.1 116 l)).1 117 l = σ.1 117 l := zI_n (by omega)
        rw [L_X11_keepProgram_132, zlet_eq, h4, if_neg (nI_ge (by omega) (by omega)), zi_nI (by omega) (by omega), zg_t, zg_t, zcla (by omega), zlet_eq, zg_t, zg_t, y, zlet_eq, t4, zlet_eq]
        exact e1
      · by_cases ex : x = l
        · subst ex
          rw [e3 _ _ (by omega), e3 _ _ (by omega), zI_y, zI_n (by omega), zI_y]
          exact ⟨rfl, rfl⟩
        · obtain ⟨a, b⟩ := e4 x (by omega) h2
          rw [a, b]
          exact ⟨by rw [zI_n (by omega), zI_n (by omega)], by rw [zI_n (by omega), zI_n (by omega)]⟩
theorem k172 {R : Nat} (hR : R ≤ 100) {K : zS → Option zS} : ∀ q l N σ, l + q = R → q < N → σ.1 105 22 = nI R → ∃ σ', L_X11_keepProgram_172 K N (nI l) σ = K σ' ∧ σ'.2 = σ.2 ∧ (∀ c i, ¬ (c = 119 ∧ l ≤ i) → σ'.1 c i = σ.1 c i) ∧ ∀ x, l ≤ x → x < R → σ'.1 119 x = σ.1 120 x := by
  intro q
  induction q with
  | zero =>
    intro l N σ h hN h4
    cases N with
    | zero => omega
    | succ N =>
      obtain rfl : l = R := by omega
      refine ⟨σ, ?_, rfl, fun _ _ _ => rfl, fun x h1 h2 => by omega⟩
      rw [L_X11_keepProgram_172, zlet_eq, h4, if_pos (nI_le (Nat.le_refl _) (by omega))]
  | succ q ih =>
    intro l N σ h hN h4
    cases N with
    | zero => omega
    | succ N =>
      have t4 : nI l + 1 = nI (l + 1) := nI_add l 1
      obtain ⟨σ', e1, e2, e3, e4⟩ := ih (l + 1) N (zsI σ 119 l (σ.1 120 l)) (by omega) (by omega) (by rw [zI_n (by omega)]; exact h4)
      refine ⟨σ', ?_, e2, fun c i hc => by rw [e3 c i (by omega), zI_n (by omega)], fun x h1 h2 => ?_⟩
      · rw [L_X11_keepProgram_172, zlet_eq, h4, if_neg (nI_ge (by omega) (by omega)), zi_nI (by omega) (by omega), zg_t, zg_t, zcla (by omega), zlet_eq, t4, zlet_eq]
        exact e1
      · by_cases ex : x = l
        · rw [ex, e3 _ _ (by omega), zI_y]
        · rw [e4 x (by omega) h2, zI_n (by omega)]
