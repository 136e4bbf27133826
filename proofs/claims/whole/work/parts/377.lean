set_option maxRecDepth 8000
/-! ===== the reference takes a program ===== -/
theorem iw_cg {σ σ' : zS} {q : Int32} (h : ∀ i, σ'.1 110 i = σ.1 110 i) : ∀ n x y, L_X11_isWithin_5 q σ' n x y = L_X11_isWithin_5 q σ n x y := by
  intro n
  induction n with
  | zero => intro x y; rfl
  | succ n ih =>
    intro x y
    rw [L_X11_isWithin_5, L_X11_isWithin_5]
    simp only [zlet_eq, h, ih]
theorem li_cg {σ σ' : zS} {q : Int32} (h : ∀ i, σ'.1 110 i = σ.1 110 i) (g : ∀ i, σ'.1 108 i = σ.1 108 i) (e : σ'.1 105 0 = σ.1 105 0) : J_X11_linesIn q σ' = J_X11_linesIn q σ := by
  have L : ∀ n x y, L_X11_linesIn_4 q σ' n x y = L_X11_linesIn_4 q σ n x y := by
    intro n
    induction n with
    | zero => intro x y; rfl
    | succ n ih =>
      intro x y
      rw [L_X11_linesIn_4, L_X11_linesIn_4]
      unfold J_X11_isWithin
      simp only [zlet_eq, g, e, ih, iw_cg h]
  exact L _ _ _
theorem bo_0 : ∀ a b n : Fin 17, a.val ≤ b.val → b.val ≤ n.val → (bO (ivl a.val b.val) n.val = 0 ↔ a.val = b.val) := by decide +kernel
theorem kp_ {P : zM} {cur : List Nat} {σ : zS} (w : wD P [] cur) (h6 : cur.length ≤ 6000) (hw : wkW P [] cur) (m : mD σ.1 P []) : ∃ σ', J_X11_keepProgram σ = some σ' ∧ mPr σ'.1 (dFin P cur) ∧ σ'.1 105 49 = nI 0 ∧ σ'.2 = σ.2 ∧ ∀ c i, ¬ (c = 105 ∧ (i = 0 ∨ i = 4 ∨ i = 7 ∨ i = 10 ∨ i = 22 ∨ i = 49)) → ¬ (106 ≤ c ∧ c ≤ 112) → ¬ c = 119 → ¬ (c = 122 ∨ c = 123) → σ'.1 c i = σ.1 c i := by
  obtain ⟨f1, f2, f3, ftk, ftm, fin, fpa, fte, fad, fco, ffi, fbe, fou, fev, flo, ftt⟩ := dFin_f (P := P) (cur := cur)
  have wF := dFin_w w h6
  obtain ⟨m1, m2, m3, m4, m5, m6, m7, m8⟩ := m
  have w1 := w.1
  have w2 := w.2.1
  have wrl : zprl P + 0 = zpn P + 2 * zpq P := w.2.2.2.1
  obtain ⟨τ0, hτ⟩ : ∃ τ0, τ0 = zsI (zsI (zsI (zsI σ 105 0 (nI (zpn P))) 105 4 (nI (zpq P))) 105 22 (nI (zprl P))) 105 10 (0 : Int32) := ⟨_, rfl⟩
  have o0 : ∀ c i, ¬ (c = 105 ∧ (i = 0 ∨ i = 4 ∨ i = 22 ∨ i = 10)) → τ0.1 c i = σ.1 c i := fun c i h => by
    rw [hτ]
    simp (disch := omega) only [zI_n]
  have y0 : τ0.1 105 0 = nI (zpn P) := by rw [hτ]; simp (disch := omega) only [zI_n, zI_y]
  have y4 : τ0.1 105 4 = nI (zpq P) := by rw [hτ]; simp (disch := omega) only [zI_n, zI_y]
  have y22 : τ0.1 105 22 = nI (zprl P) := by rw [hτ]; simp (disch := omega) only [zI_n, zI_y]
  have y10 : τ0.1 105 10 = nI 0 := by rw [hτ, zI_y]; rfl
  obtain ⟨τ1, a1, a2, a3, a4, a5⟩ := k31 (K := D_X11_keepProgram_103) w (zpn P) 0 4294967296 τ0 (by omega) (by omega) y0 (fun x hx => by rw [o0 _ _ (by omega), o0 _ _ (by omega)]; exact ⟨(m5 x hx).1, (m5 x hx).2.1⟩) (fun q hq => by rw [o0 _ _ (by omega), o0 _ _ (by omega)]; exact m6 q hq) y10
  obtain ⟨τ2, b1, b2, b3, b4⟩ := k105 (K := D_X11_keepProgram_130) 128 0 4294967296 τ1 (by omega) (by omega)
  obtain ⟨τ3, c1, c2, c3, c4⟩ := k132 w2 (K := D_X11_keepProgram_170) (zpq P) 0 4294967296 τ2 (by omega) (by omega) (by rw [b3 _ _ (by omega), a3 _ _ (by omega) (by omega)]; exact y4)
  obtain ⟨τ4, d1, d2, d3, d4⟩ := k172 (R := zprl P) (by omega) (K := D_X11_keepProgram_198) (zprl P) 0 4294967296 τ3 (by omega) (by omega) (by rw [c3 _ _ (by omega), b3 _ _ (by omega), a3 _ _ (by omega) (by omega)]; exact y22)
  have E : J_X11_keepProgram σ = D_X11_keepProgram_198 τ4 := by
    have x0 : (zsI σ 105 0 (nI (zpn P))).1 105 15 = nI (zpq P) := by rw [zI_n (by omega)]; exact m2
    have x1 : (zsI (zsI σ 105 0 (nI (zpn P))) 105 4 (nI (zpq P))).1 105 23 = nI (zprl P) := by rw [zI_n (by omega), zI_n (by omega)]; exact m4
    unfold J_X11_keepProgram
    rw [m1, zlet_eq, x0, zlet_eq, x1, zlet_eq, zlet_eq, zlet_eq, ← hτ]
    refine a1.trans ?_
    unfold D_X11_keepProgram_103
    rw [zlet_eq]
    refine b1.trans ?_
    unfold D_X11_keepProgram_130
    rw [zlet_eq]
    refine c1.trans ?_
    unfold D_X11_keepProgram_170
    rw [zlet_eq]
    exact d1
  -- what the walk finds there
  have z0 : τ4.1 105 0 = nI (zpn P) := by rw [d3 _ _ (by omega), c3 _ _ (by omega), b3 _ _ (by omega), a3 _ _ (by omega) (by omega)]; exact y0
  have z4 : τ4.1 105 4 = nI (zpq P) := by rw [d3 _ _ (by omega), c3 _ _ (by omega), b3 _ _ (by omega), a3 _ _ (by omega) (by omega)]; exact y4
  have z22 : τ4.1 105 22 = nI (zprl P) := by rw [d3 _ _ (by omega), c3 _ _ (by omega), b3 _ _ (by omega), a3 _ _ (by omega) (by omega)]; exact y22
  have z10 : τ4.1 105 10 = nI (zptt (dFin P cur) (zps (dFin P cur))) := by
    rw [d3 _ _ (by omega), c3 _ _ (by omega), b3 _ _ (by omega), a4, f3, ftt]
    have := wF.2.2.2.2.2.2.2.2 (zptk P)
    rw [f3, f1, ftm] at this
    have l : zsm (fun i => zptk P (zplo (dFin P cur) i)) cur.length = zsm (fun i => zptk P (cur.getD i 0)) cur.length := rfl
    rw [← l, this]
    congr 1
    exact zsm_congr fun l _ => Nat.mul_comm _ _
  have zl : ∀ l, l < zpn P → τ4.1 106 l = nI (zptk P l) ∧ τ4.1 112 l = nI (zptm P l) ∧ τ4.1 108 l = zco (zpar P l) ∧ ∀ e, e < 8 → τ4.1 107 (8 * l + e) = nI (zpev P l e) := by
    intro l hl
    obtain ⟨g1, g2, g3⟩ := a5 l (Nat.zero_le _) hl
    refine ⟨?_, ?_, ?_, fun e he => ?_⟩
    · rw [d3 _ _ (by omega), c3 _ _ (by omega), b3 _ _ (by omega)]; exact g1
    · rw [d3 _ _ (by omega), c3 _ _ (by omega), b3 _ _ (by omega)]; exact g3
    · rw [d3 _ _ (by omega), c3 _ _ (by omega), b3 _ _ (by omega)]; exact g2
    · rw [d3 _ _ (by omega), c3 _ _ (by omega), b4 _ (Nat.zero_le _) (by omega), a3 _ _ (by omega) (by omega), o0 _ _ (by omega)]
      exact (m5 l hl).2.2 e he
  have zq : ∀ q, q < zpq P → τ4.1 109 q = nI (zpte P q) ∧ τ4.1 110 q = zco (zpou P q) := by
    intro q hq
    obtain ⟨g1, g2⟩ := c4 q (Nat.zero_le _) hq
    rw [d3 _ _ (by omega), d3 _ _ (by omega), g1, g2, b3 _ _ (by omega), b3 _ _ (by omega), a3 _ _ (by omega) (by omega), a3 _ _ (by omega) (by omega), o0 _ _ (by omega), o0 _ _ (by omega)]
    exact m6 q hq
  have zr : ∀ k, k < zprl P → τ4.1 119 k = nI (zprw P k) := by
    intro k hk
    rw [d4 k (Nat.zero_le _) hk, c3 _ _ (by omega), b3 _ _ (by omega), a3 _ _ (by omega) (by omega), o0 _ _ (by omega)]
    exact m8 k hk
  have env : wEnv τ4 P [] := by
    refine ⟨⟨zprl P, z22, Nat.le_refl _, by omega⟩, zr, fun q hq => (zq q hq).1, fun q hq _ => ⟨bO (ivl (zpfi P q) (zpbe P q)) (zpn P), fun σ1 za => ?_, ?_⟩⟩
    · obtain ⟨σ0, hσ⟩ : ∃ σ0 : zS, σ0 = (fun c i => if c = 111 then nI (zplo (dFin P cur) i) else if c = 105 ∧ i = 7 then nI (zps (dFin P cur)) else if c = 105 ∧ i = 10 then nI (zptt (dFin P cur) (zps (dFin P cur))) else σ1.1 c i, σ1.2) := ⟨_, rfl⟩
      have s0 : ∀ c i, ¬ c = 111 → ¬ (c = 105 ∧ i = 7) → ¬ (c = 105 ∧ i = 10) → σ0.1 c i = σ1.1 c i := fun c i h1 h2 h3 => by
        rw [hσ]
        show (if c = 111 then _ else if c = 105 ∧ i = 7 then _ else if c = 105 ∧ i = 10 then _ else σ1.1 c i) = _
        rw [if_neg h1, if_neg h2, if_neg h3]
      have mm : mPr σ0.1 (dFin P cur) := by
        refine ⟨?_, ?_, ?_, ?_, fun l hl => ?_, fun q hq => ?_, fun i hi => ?_⟩
        · rw [s0 _ _ (by omega) (by omega) (by omega), za.2 _ _ (by omega), f1]; exact z0
        · rw [s0 _ _ (by omega) (by omega) (by omega), za.2 _ _ (by omega), f2]; exact z4
        · rw [hσ]; rfl
        · rw [hσ]; rfl
        · rw [f1] at hl
          obtain ⟨g1, g2, g3, g4⟩ := zl l hl
          rw [ftk, ftm, fpa, s0 _ _ (by omega) (by omega) (by omega), s0 _ _ (by omega) (by omega) (by omega), s0 _ _ (by omega) (by omega) (by omega), za.2 _ _ (by omega), za.2 _ _ (by omega), za.2 _ _ (by omega)]
          exact ⟨g1, g2, g3, fun e he => by rw [fev, s0 _ _ (by omega) (by omega) (by omega), za.2 _ _ (by omega)]; exact g4 e he⟩
        · rw [f2] at hq
          rw [fte, fou, s0 _ _ (by omega) (by omega) (by omega), s0 _ _ (by omega) (by omega) (by omega), za.2 _ _ (by omega), za.2 _ _ (by omega)]
          exact zq q hq
        · rw [hσ]; rfl
      have L := li11 (σ := σ0) mm wF (q := q) (by rw [f2]; exact hq)
      rw [ffi, fbe, f1] at L
      rw [← L]
      exact li_cg (fun i => (s0 _ _ (by omega) (by omega) (by omega)).symm) (fun i => (s0 _ _ (by omega) (by omega) (by omega)).symm) (s0 _ _ (by omega) (by omega) (by omega)).symm
    · have g := w.2.2.2.2.2.1 q hq
      have g1 := g.2.2.2.1
      have g2 := g.2.2.2.2.1
      exact bo_0 ⟨zpfi P q, by omega⟩ ⟨zpbe P q, by omega⟩ ⟨zpn P, by omega⟩ g1 g2
  obtain ⟨-, mm, e2, e3⟩ := hw τ4 env
  have m404 : 404 * cur.length ≤ 404 * 6000 := Nat.mul_le_mul_left _ h6
  obtain ⟨τ6, g1, g2, g3, g4, g5, g6⟩ := e3 (4294967296 - mm) (zsI τ4 105 7 (0 : Int32)) 0 ⟨rfl, fun c i hc => zI_n (by omega)⟩ zI_y (by omega)
  rw [show 4294967296 - mm + mm = 4294967296 by omega] at g1
  have x22 : τ6.1 105 22 = nI (zprl P) := by rw [g2.2 _ _ (by omega)]; exact z22
  have stop : L_X11_walk_7 (4294967296 - mm) (nI (zprl P)) τ6 = some τ6 := by
    obtain ⟨x, hx⟩ : ∃ x, 4294967296 - mm = x + 1 := ⟨4294967296 - mm - 1, by omega⟩
    rw [hx, L_X11_walk_7, zlet_eq, x22, if_pos (nI_le (Nat.le_refl _) (by omega))]
  have fr : ∀ c i, ¬ (c = 105 ∧ (i = 7 ∨ i = 49)) → ¬ c = 111 → ¬ (c = 122 ∨ c = 123) → (zsI τ6 105 49 (0 : Int32)).1 c i = τ4.1 c i := fun c i h1 h2 h3 => by rw [zI_n (by omega), g2.2 _ _ (by omega)]
  refine ⟨zsI τ6 105 49 (0 : Int32), ?_, ⟨?_, ?_, ?_, ?_, fun l hl => ?_, fun q hq => ?_, fun i hi => ?_⟩, zI_y, g2.1.trans (d2.trans (c2.trans (b2.trans (a2.trans (by rw [hτ]; rfl))))), fun c i h1 h2 h3 h4 => ?_⟩
  · rw [E]
    unfold D_X11_keepProgram_198 J_X11_walk
    have g1' : L_X11_walk_7 4294967296 (0 : Int32) (zsI τ4 105 7 (0 : Int32)) = L_X11_walk_7 (4294967296 - mm) (nI (zprl P)) τ6 := g1
    rw [zlet_eq, g1', stop, zb_s, zlet_eq]
  · rw [fr _ _ (by omega) (by omega) (by omega), f1]; exact z0
  · rw [fr _ _ (by omega) (by omega) (by omega), f2]; exact z4
  · rw [zI_n (by omega), g3, f3, Nat.zero_add]
  · rw [fr _ _ (by omega) (by omega) (by omega)]; exact z10
  · rw [f1] at hl
    obtain ⟨x1, x2, x3, x4⟩ := zl l hl
    rw [ftk, ftm, fpa, fr _ _ (by omega) (by omega) (by omega), fr _ _ (by omega) (by omega) (by omega), fr _ _ (by omega) (by omega) (by omega)]
    exact ⟨x1, x2, x3, fun e he => by rw [fev, fr _ _ (by omega) (by omega) (by omega)]; exact x4 e he⟩
  · rw [f2] at hq
    rw [fte, fou, fr _ _ (by omega) (by omega) (by omega), fr _ _ (by omega) (by omega) (by omega)]
    exact zq q hq
  · rw [f3] at hi
    have := g4 i hi
    rw [Nat.zero_add] at this
    rw [zI_n (by omega), flo]
    exact this
  · rw [fr _ _ (by omega) (by omega) (by omega), d3 _ _ (by omega), c3 _ _ (by omega), b3 _ _ (by omega), a3 _ _ (by omega) (by omega), o0 _ _ (by omega)]
