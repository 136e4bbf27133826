set_option maxRecDepth 8000
/-! ===== hot ===== -/
theorem fw_ {p : Nat} {P : zM} {σ : zS} {e T : Nat} (hr : σ.2.2 0 1 = p) (hz : zP p = true) (c : cPr σ.1 p P) (w : wPr P) (he : e < 8) (hT : T < 2147483648) : ∀ q m n, m + q = zpn P → q < n → 1 ≤ m → (∀ s, pcn s (zpn P) < m → ¬ T ≤ zms (zf P e) s (zpn P)) → ∃ r, L_X10_fewestLines_2 (nI e) (nI T) σ n (nI m) = some (nI r) ∧ m ≤ r ∧ r ≤ zpn P ∧ (∀ s, pcn s (zpn P) < r → ¬ T ≤ zms (zf P e) s (zpn P)) ∧ (r = zpn P ∨ ∃ s, s < 2 ^ zpn P ∧ pcn s (zpn P) ≤ r ∧ T ≤ zms (zf P e) s (zpn P)) := by
  have w1 := w.1
  intro q
  induction q with
  | zero =>
    intro m n h hn h1 hm
    cases n with
    | zero => omega
    | succ n =>
      refine ⟨zpn P, ?_, by omega, Nat.le_refl _, fun s hs => hm s (by omega), Or.inl rfl⟩
      rw [L_X10_fewestLines_2]
      simp only [zlet_eq, hr, hz, zg_t, c.1]
      rw [if_pos (nI_le (by omega) (by omega))]
  | succ q ih =>
    intro m n h hn h1 hm
    cases n with
    | zero => omega
    | succ n =>
      have t4 : nI m + 1 = nI (m + 1) := nI_add m 1
      obtain ⟨g, g1, g2, g3, g4⟩ := most_ (σ := σ) (m := m) c w he (Nat.le_refl _) (by omega)
      have gl : zms (zf P e) g (zpn P) ≤ 594000 := Nat.le_trans (zms_le _) (zto_le w he)
      rw [L_X10_fewestLines_2]
      simp only [zlet_eq, hr, hz, zg_t, c.1]
      rw [if_neg (nI_ge (by omega) (by omega)), g1, zb_s, t4]
      by_cases hc : zms (zf P e) g (zpn P) < T
      · rw [if_pos (nI_lt hc hT)]
        obtain ⟨r, r1, r2, r3⟩ := ih (m + 1) n (by omega) (by omega) (by omega) (fun s hs => by
          have := g4 s (by omega)
          omega)
        exact ⟨r, r1, by omega, r3⟩
      · rw [if_neg (nI_nlt (by omega) (by omega))]
        exact ⟨m, rfl, Nat.le_refl _, by omega, hm, Or.inr ⟨g, g2, g3, by omega⟩⟩
theorem m1_eq (x : Int32) : x + (-1) = x - 1 := (Int32.sub_eq_add_neg x 1).symm
theorem ll_ {p : Nat} {P : zM} {σ : zS} {e T B : Nat} (hr : σ.2.2 0 1 = p) (hz : zP p = true) (c : cPr σ.1 p P) (w : wPr P) (he : e < 8) (hT : T < 2147483648) (hB : B < 2 ^ zpn P) (hBT : T ≤ zms (zf P e) B (zpn P)) (hmin : ∀ s, s < 2 ^ zpn P → pcn s (zpn P) ≤ pcn B (zpn P) → T ≤ zms (zf P e) s (zpn P) → B ≤ s) : ∀ l N mk cc, l ≤ zpn P → l < N → mk + zms (zf P e) B l = zms (zf P e) B (zpn P) → (∀ i, cc.testBit i = (decide (l ≤ i) && B.testBit i)) → L_X10_leastLines_20 (nI e) (nI T) σ N (nI cc) (nI mk) (nI (pcn B l)) (nI l - 1) = some (nI B) := by
  have w1 := w.1
  intro l
  induction l with
  | zero =>
    intro N mk cc hl hn hmk hc
    cases N with
    | zero => omega
    | succ N =>
      have : cc = B := Nat.eq_of_testBit_eq fun i => by rw [hc i]; simp
      rw [L_X10_leastLines_20, zlet_eq, if_pos (by decide), this]
  | succ l ih =>
    intro N mk cc hl hn hmk hc
    cases N with
    | zero => omega
    | succ N =>
      have p1 : nI (l + 1) - 1 = nI l := nI_pred l
      have pl := pcn_le B (l + 1)
      have mkl : mk ≤ 594000 := by
        have := zms_le (v := zf P e) (s := B) (zpn P)
        have : zsm (zf P e) (zpn P) ≤ 594000 := zto_le w he
        omega
      rw [L_X10_leastLines_20, zlet_eq, p1, if_neg (nI_pos (by omega))]
      by_cases h0 : pcn B (l + 1) = 0
      · have no : ∀ i, i < l + 1 → B.testBit i = false := by
          intro i hi
          cases hx : B.testBit i
          · rfl
          · have := pcn_1 hi hx
            omega
        have : cc = B := Nat.eq_of_testBit_eq fun i => by
          rw [hc i]
          by_cases hi : l + 1 ≤ i
          · simp [hi]
          · rw [no i (by omega), Bool.and_false]
        rw [h0, if_pos (by decide), this]
      · obtain ⟨g, g1, g2, g3, g4⟩ := most_ (σ := σ) (m := pcn B (l + 1)) c w he (show l ≤ zpn P by omega) (by omega)
        have gl : zms (zf P e) g l ≤ 594000 := Nat.le_trans (zms_le _) (Nat.le_trans (zsm_mono (show l ≤ zpn P by omega)) (zto_le w he))
        have a1 : nI mk + nI (zms (zf P e) g l) = nI (mk + zms (zf P e) g l) := nI_add _ _
        rw [if_neg (nI_nle (by omega) (by omega))]
        simp only [zlet_eq, hr, hz, zg_t]
        rw [g1, zb_s, a1, m1_eq]
        by_cases hc2 : T ≤ mk + zms (zf P e) g l
        · rw [if_pos (nI_le hc2 (by omega))]
          -- the lines below do it, so the least goes without
          have glow : ∀ i, l ≤ i → g.testBit i = false := fun i hi => Nat.testBit_lt_two_pow (Nat.lt_of_lt_of_le g2 (Nat.pow_le_pow_right (by omega) hi))
          have sb : ∀ i, (cc ||| g).testBit i = if i < l + 1 then (if i < l then g.testBit i else false) else B.testBit i := by
            intro i
            rw [Nat.testBit_or, hc i]
            by_cases hi : i < l + 1
            · rw [if_pos hi, decide_eq_false (by omega), Bool.false_and, Bool.false_or]
              by_cases hi2 : i < l
              · rw [if_pos hi2]
              · rw [if_neg hi2, glow i (by omega)]
            · rw [if_neg hi, decide_eq_true (by omega), Bool.true_and, glow i (by omega), Bool.or_false]
          have hiS : ∀ i, l + 1 ≤ i → (cc ||| g).testBit i = B.testBit i := fun i hi => by rw [sb i, if_neg (by omega)]
          have sl : (cc ||| g).testBit l = false := by rw [sb l, if_pos (by omega), if_neg (by omega)]
          have z1 := zms_hi (v := zf P e) hiS (zpn P) hl
          have z2 := zms_hi (v := fun _ => 1) hiS (zpn P) hl
          have low : ∀ v : Nat → Nat, zms v (cc ||| g) (l + 1) = zms v g l := by
            intro v
            rw [zms_s, sl, zms_cg (v := v) (s := cc ||| g) (t := g) l (fun i hi => by rw [sb i, if_pos (by omega), if_pos hi])]
            rfl
          rw [low] at z1 z2
          have z2' : pcn (cc ||| g) (zpn P) + pcn B (l + 1) = pcn B (zpn P) + pcn g l := z2
          have S2 : (cc ||| g) < 2 ^ zpn P := by
            apply Nat.lt_pow_two_of_testBit
            intro i hi
            rw [hiS i (by omega)]
            exact Nat.testBit_lt_two_pow (Nat.lt_of_lt_of_le hB (Nat.pow_le_pow_right (by omega) hi))
          have le := hmin (cc ||| g) S2 (by omega) (by omega)
          have bl : B.testBit l = false := by
            cases hx : B.testBit l
            · rfl
            · have := bits_lt hx sl (fun i hi => hiS i (by omega))
              omega
          have u1 : zms (zf P e) B (l + 1) = zms (zf P e) B l := by rw [zms_s, bl]; rfl
          have u2 : pcn B (l + 1) = pcn B l := by
            have u : pcn B (l + 1) = pcn B l + (if B.testBit l then 1 else 0) := rfl
            rw [u, bl]
            rfl
          rw [u2]
          refine ih N mk cc (by omega) (by omega) (by omega) (fun i => ?_)
          rw [hc i]
          by_cases hi : i = l
          · rw [hi, bl, Bool.and_false, Bool.and_false]
          · congr 1
            exact decide_eq_decide.mpr (by omega)
        · have bl : B.testBit l = true := by
            cases hx : B.testBit l
            · exfalso
              have u1 : zms (zf P e) B (l + 1) = zms (zf P e) B l := by rw [zms_s, hx]; rfl
              have u2 : pcn B (l + 1) = pcn B l := by
                have u : pcn B (l + 1) = pcn B l + (if B.testBit l then 1 else 0) := rfl
                rw [u, hx]
                rfl
              have := g4 B (by omega)
              omega
            · rfl
          have u1 : zms (zf P e) B (l + 1) = zms (zf P e) B l + zf P e l := by rw [zms_s, bl]; rfl
          have u2 : pcn B (l + 1) = pcn B l + 1 := by
            have u : pcn B (l + 1) = pcn B l + (if B.testBit l then 1 else 0) := rfl
            rw [u, bl]
            rfl
          have m1 := made3 (e := e) c w.1 (show l < 16 by omega) he
          rw [if_pos (by omega)] at m1
          have sh : ((1 : Int32) <<< (nI l &&& 31)) = nI (2 ^ l) := shl16 ⟨l, by omega⟩
          have a2 : nI mk + nI (zf P e l) = nI (mk + zf P e l) := nI_add _ _
          have p2 : nI (pcn B (l + 1)) + -1 = nI (pcn B l) := by rw [m1_eq, u2]; exact nI_pred _
          rw [if_neg (nI_ge (by omega) hT), sh, nI_or, m1, zb_s, a2, p2]
          refine ih N (mk + zf P e l) (cc ||| 2 ^ l) (by omega) (by omega) (by omega) (fun i => ?_)
          rw [Nat.testBit_or, two_b, hc i]
          by_cases hi : l = i
          · subst hi
            rw [bl]
            simp
          · rw [decide_eq_false hi, Bool.or_false]
            congr 1
            exact decide_eq_decide.mpr (by omega)
/-! ===== the reference goes through all choices ===== -/
theorem h87 {P : zM} {σ : zS} {e s : Nat} {k : Int32 → Option Int32} (m : mPr σ.1 P) (w : wPr P) (he : e < 8) (hs : s < 65536) : ∀ q l n, l + q = zpn P → q < n → L_X11_hot_87 (nI e) σ (nI s) k n (nI (zms (zf P e) s l)) (nI l) = k (nI (zms (zf P e) s (zpn P))) := by
  have w1 := w.1
  intro q
  induction q with
  | zero =>
    intro l n h hn
    cases n with
    | zero => omega
    | succ n =>
      obtain rfl : l = zpn P := by omega
      rw [L_X11_hot_87, zlet_eq, m.1, if_pos (nI_le (Nat.le_refl _) (by omega))]
  | succ q ih =>
    intro l n h hn
    cases n with
    | zero => omega
    | succ n =>
      have t4 : nI l + 1 = nI (l + 1) := nI_add l 1
      have tb := tb31 (s := s) (e := l) (by omega) (by omega)
      have I := ih (l + 1) n (by omega) (by omega)
      rw [L_X11_hot_87, zlet_eq, m.1, if_neg (nI_ge (by omega) (by omega)), tb, t4]
      rw [zms_s] at I
      cases hb : s.testBit l
      · rw [hb] at I
        rw [if_neg (by decide)]
        have a0 : nI (zms (zf P e) s l) + 0 = nI (zms (zf P e) s l + 0) := nI_add _ 0
        rw [a0, zlet_eq, zlet_eq]
        exact I
      · rw [hb] at I
        have mm : nI (zptm P l) * nI (zpev P l e) = nI (zf P e l) := pk_mul _ _
        have a0 : nI (zms (zf P e) s l) + nI (zf P e l) = nI (zms (zf P e) s l + zf P e l) := nI_add _ _
        have q112 := (m.2.2.2.2.1 l (by omega)).2.1
        rw [if_pos (by decide), zi_nI (by omega) (by omega), zg_t, made11 m w.1 (by omega) he, zb_s, zcla (by omega), q112, mm, a0, zlet_eq, zlet_eq]
        exact I
def zob : Option Nat → Int32
  | none => -4
  | some b => nI b
def zbs (P : zM) (e T : Nat) (x : Option Nat) (u : Nat) : Prop := (x = none → ∀ s, 1 ≤ s → s < u → ¬ T ≤ zms (zf P e) s (zpn P)) ∧ ∀ b, x = some b → 1 ≤ b ∧ b < u ∧ T ≤ zms (zf P e) b (zpn P) ∧ ∀ s, 1 ≤ s → s < u → T ≤ zms (zf P e) s (zpn P) → pcn b 16 < pcn s 16 ∨ (pcn b 16 = pcn s 16 ∧ b ≤ s)
theorem h45 {P : zM} {σ : zS} {e x all : Nat} {K : Int32 → Option Int32} (m : mPr σ.1 P) (w : wPr P) (he : e < 8) (hx : x ≤ 100) (ha0 : 0 < all) (ha : all ≤ 594000) : ∀ q u n y, u + q = 2 ^ zpn P → q < n → 1 ≤ u → zbs P e ((x * all + 99) / 100) y u → ∃ y', L_X11_hot_45 (nI e) (nI x) σ (nI all) K n (zob y) (nI u) = K (zob y') ∧ zbs P e ((x * all + 99) / 100) y' (2 ^ zpn P) := by
  have w1 := w.1
  have p16 : 2 ^ zpn P ≤ 2 ^ 16 := Nat.pow_le_pow_right (by omega) (by omega)
  have sh : ((1 : Int32) <<< (nI (zpn P) &&& 31)) = nI (2 ^ zpn P) := shl16 ⟨zpn P, by omega⟩
  have xa : x * all ≤ 100 * 594000 := Nat.mul_le_mul hx ha
  intro q
  induction q with
  | zero =>
    intro u n y h hn hu hy
    cases n with
    | zero => omega
    | succ n =>
      obtain rfl : u = 2 ^ zpn P := by omega
      refine ⟨y, ?_, hy⟩
      rw [L_X11_hot_45, zlet_eq, m.1, sh, if_pos (nI_le (Nat.le_refl _) (by omega))]
  | succ q ih =>
    intro u n y h hn hu hy
    cases n with
    | zero => omega
    | succ n =>
      have t4 : nI u + 1 = nI (u + 1) := nI_add u 1
      have sl : zms (zf P e) u (zpn P) ≤ 594000 := Nat.le_trans (zms_le _) (zto_le w he)
      have k81 : D_X11_hot_81 (nI e) (nI x) σ (nI all) (L_X11_hot_45 (nI e) (nI x) σ (nI all) K n) (zob y) (nI u) = L_X11_hot_45 (nI e) (nI x) σ (nI all) K n (if (x * all + 99) / 100 ≤ zms (zf P e) u (zpn P) then nI u else zob y) (nI (u + 1)) := by
        have H : L_X11_hot_87 (nI e) σ (nI u) (D_X11_hot_137 (nI x) (nI all) (L_X11_hot_45 (nI e) (nI x) σ (nI all) K n) (zob y) (nI u)) 4294967296 0 0 = _ := h87 m w he (by omega) (zpn P) 0 4294967296 (by omega) (by omega)
        unfold D_X11_hot_81
        rw [zlet_eq, H]
        unfold D_X11_hot_137
        have c1 : (100 : Int64) * (nI (zms (zf P e) u (zpn P))).toInt64 = lN (100 * zms (zf P e) u (zpn P)) := by
          rw [nI_l (by omega), show (100 : Int64) = lN 100 from rfl, lN_mul]
        have c2 : (nI x).toInt64 * (nI all).toInt64 = lN (x * all) := by
          rw [nI_l (by omega), nI_l (by omega), lN_mul]
        rw [c1, c2, t4]
        by_cases hc : 100 * zms (zf P e) u (zpn P) < x * all
        · have d : (lg_cmp (lN (100 * zms (zf P e) u (zpn P))) (lN (x * all)) < (0 : Int32)) = True := lc_lt_t hc (by omega)
          rw [if_pos (of_eq_true d), if_neg (by omega), zlet_eq, zlet_eq]
        · have d : (lg_cmp (lN (100 * zms (zf P e) u (zpn P))) (lN (x * all)) < (0 : Int32)) = False := lc_lt_f (by omega) (by omega)
          rw [if_neg (of_eq_false d), if_pos (by omega), zlet_eq, zlet_eq]
      rw [L_X11_hot_45, zlet_eq, m.1, sh, if_neg (nI_ge (by omega) (by omega)), if_neg (nI_nle (by omega) (by omega)), zlet_eq, k81, t4]
      cases y with
      | none =>
        have I1 := ih (u + 1) n (some u) (by omega) (by omega) (by omega)
        have I2 := ih (u + 1) n none (by omega) (by omega) (by omega)
        rw [if_pos (show zob none = -4 from rfl)]
        by_cases hc : (x * all + 99) / 100 ≤ zms (zf P e) u (zpn P)
        · rw [if_pos hc]
          refine I1 ⟨fun q => (by cases q), fun b hb => ?_⟩
          cases hb
          refine ⟨hu, by omega, hc, fun s h1 h2 h3 => ?_⟩
          by_cases es : s = u
          · rw [es]; exact Or.inr ⟨rfl, Nat.le_refl _⟩
          · exact absurd h3 (hy.1 rfl s h1 (by omega))
        · rw [if_neg hc]
          refine I2 ⟨fun _ s h1 h2 => ?_, fun b hb => by cases hb⟩
          by_cases es : s = u
          · rw [es]; exact hc
          · exact hy.1 rfl s h1 (by omega)
      | some b =>
        obtain ⟨b1, b2, b3, b4⟩ := hy.2 b rfl
        have I1 := ih (u + 1) n (some u) (by omega) (by omega) (by omega)
        have I2 := ih (u + 1) n (some b) (by omega) (by omega) (by omega)
        have ne : ¬ nI b = -4 := of_eq_false (z_ng (a := b) (b := 4) (by omega) (by omega) (by omega))
        have pu := pcn_le u 16
        have pb := pcn_le b 16
        show ∃ y', (if nI b = -4 then _ else _) = _ ∧ _
        rw [if_neg ne, cof (by omega), zb_s]
        have cb : J_X11_countOf (zob (some b)) σ = some (nI (pcn b 16)) := cof (by omega)
        rw [cb, zb_s]
        by_cases hp : pcn b 16 ≤ pcn u 16
        · rw [if_pos (nI_le hp (by omega)), zlet_eq]
          refine I2 ⟨fun q => (by cases q), fun b' hb => ?_⟩
          cases hb
          refine ⟨b1, by omega, b3, fun s h1 h2 h3 => ?_⟩
          by_cases es : s = u
          · rw [es]
            by_cases hpe : pcn b 16 = pcn u 16
            · exact Or.inr ⟨hpe, by omega⟩
            · exact Or.inl (by omega)
          · exact b4 s h1 (by omega) h3
        · rw [if_neg (nI_ge (by omega) (by omega))]
          by_cases hc : (x * all + 99) / 100 ≤ zms (zf P e) u (zpn P)
          · rw [if_pos hc]
            refine I1 ⟨fun q => (by cases q), fun b' hb => ?_⟩
            cases hb
            refine ⟨hu, by omega, hc, fun s h1 h2 h3 => ?_⟩
            by_cases es : s = u
            · rw [es]; exact Or.inr ⟨rfl, Nat.le_refl _⟩
            · rcases b4 s h1 (by omega) h3 with z | z
              · exact Or.inl (by omega)
              · exact Or.inl (by omega)
          · rw [if_neg hc]
            refine I2 ⟨fun q => (by cases q), fun b' hb => ?_⟩
            cases hb
            refine ⟨b1, by omega, b3, fun s h1 h2 h3 => ?_⟩
            by_cases es : s = u
            · rw [es] at h3
              exact absurd h3 hc
            · exact b4 s h1 (by omega) h3
