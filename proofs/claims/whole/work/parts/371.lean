set_option maxRecDepth 8000
theorem tkd {n s1 p1 k1 v1 : Nat} {σ σ' : zS} (a1 : J_X4_takeToken σ = some σ') (c : cB σ' k1 s1 p1 v1) (hk : k1 ≤ 3) : (k1 = 2 → J_X4_takeKind (2 : Int32) σ = some σ') ∧ (k1 ≠ 2 → ∃ σ2, J_X4_takeKind (2 : Int32) σ = some σ2 ∧ cF σ2 2 s1 ∧ cfr σ' σ2) := by
  unfold J_X4_takeKind
  rw [a1, zb_s, c.1, if_pos (show nI 0 = 0 from rfl), c.2.1]
  refine ⟨fun h => by rw [h, if_pos (show nI 2 = 2 from rfl)], fun h => ?_⟩
  have ne : ¬ nI k1 = (2 : Int32) := fun q => h ((nI_eq (a := k1) (b := 2) (by omega) (by omega)).mp q)
  obtain ⟨σ2, x1, x2, x3⟩ := cfail 2 σ' c.2.2.1
  have x1' : J_X4_fail (2 : Int32) σ' = some σ2 := x1
  exact ⟨σ2, by rw [if_neg ne, x1', zb_s], x2, x3⟩
theorem tkdf {s1 : Nat} {σ σ' : zS} (a1 : J_X4_takeToken σ = some σ') (c : cF σ' 1 s1) : J_X4_takeKind (2 : Int32) σ = some σ' := by
  unfold J_X4_takeKind
  rw [a1, zb_s, c.1, if_neg (show ¬ nI 1 = 0 by decide)]
/-- a loop stands in the reference's draft -/
def mPx (r6 : Int32) (σ7 : zS) : Option zS := if (σ7.1 105 30) = (0 : Int32) then (zg (zi (σ7.1 105 15) 40) (zlet (zsI σ7 116 (σ7.1 105 15).toNatClampNeg r6) fun σ10 => zlet (σ10.1 105 15) fun v11 => zlet (D_X11_readLoop_78 σ10 v11) fun k78 => if (σ10.1 105 19) = (0 : Int32) then (k78 (-4 : Int32)) else (zg (zi ((σ10.1 105 19) - (1 : Int32)) 5) (k78 (σ10.1 118 ((σ10.1 105 19) - (1 : Int32)).toNatClampNeg))))) else (some σ7)
theorem mPo {t : Nat} {P : zM} {st : zST} {cur : List Nat} {σ : zS} (w : wD P st cur) (hq : zpq P < 40) (hs : st.length < 4) (hrl : zprl P < 100) (h0 : σ.1 105 30 = nI 0) (m : mD σ.1 P st) : ∃ σ', mPx (nI t) σ = some σ' ∧ mD σ'.1 (dLp P st t) ((zpq P, cur) :: st) ∧ σ'.2 = σ.2 ∧ (∀ c i, ¬ (c = 105 ∧ (i = 15 ∨ i = 19 ∨ i = 23)) → ¬ (116 ≤ c ∧ c ≤ 118) → ¬ c = 120 → σ'.1 c i = σ.1 c i) := by
  obtain ⟨c1, c2, c3, c4, c5, c6, c7, c8⟩ := m
  obtain ⟨f1, f2, f3, ⟨f4, f5, f6, f7, f8, f9, f10⟩, fq, ⟨ftk, ftm, fin, fpa, fc, fev⟩, fr1, fr2⟩ := Lp_f (P := P) (st := st) (t := t)
  obtain ⟨z1, z2⟩ := zco_hd c7
  have q4 : nI (zpq P) + 1 = nI (zpq P + 1) := nI_add _ 1
  have r4 : nI (zprl P) + 1 = nI (zprl P + 1) := nI_add _ 1
  have s4 : nI st.length + 1 = nI (st.length + 1) := nI_add _ 1
  have h4 : 100 + nI (zpq P) = nI (100 + zpq P) := nI_add 100 _
  obtain ⟨τ, hτ⟩ : ∃ τ, τ = zsI (zsI (zsI (zsI (zsI (zsI (zsI σ 116 (zpq P) (nI t)) 117 (zpq P) (zco (dHd st))) 118 st.length (nI (zpq P))) 120 (zprl P) (nI (100 + zpq P))) 105 23 (nI (zprl P + 1))) 105 15 (nI (zpq P + 1))) 105 19 (nI (st.length + 1)) := ⟨_, rfl⟩
  have o : ∀ c i, ¬ (c = 105 ∧ (i = 15 ∨ i = 19 ∨ i = 23)) → ¬ ((c = 116 ∨ c = 117) ∧ i = zpq P) → ¬ (c = 118 ∧ i = st.length) → ¬ (c = 120 ∧ i = zprl P) → τ.1 c i = σ.1 c i := fun c i h1 h2 h3 h4 => by
    rw [hτ]
    simp (disch := omega) only [zI_n]
  have K : D_X11_readLoop_78 (zsI σ 116 (zpq P) (nI t)) (nI (zpq P)) (zco (dHd st)) = some τ := by
    unfold D_X11_readLoop_78
    simp (disch := omega) only [zlet_eq, zi_nI, zg_t, zcla, zI_n, zI_y, c2, c3, c4, q4, r4, s4, h4]
    rw [hτ]
  refine ⟨τ, ?_, ⟨?_, ?_, ?_, ?_, fun l hl => ?_, fun q hq' => ?_, ⟨?_, ?_⟩, fun k hk => ?_⟩, by rw [hτ]; rfl, fun c i h1 h2 h3 => o c i h1 (fun q => by omega) (fun q => by omega) (fun q => h3 q.1)⟩
  · have y2 : (zsI σ 116 (zpq P) (nI t)).1 105 15 = nI (zpq P) := by rw [zI_n (by omega)]; exact c2
    have y3 : (zsI σ 116 (zpq P) (nI t)).1 105 19 = nI st.length := by rw [zI_n (by omega)]; exact c3
    unfold mPx
    rw [h0, if_pos (show nI 0 = 0 from rfl), c2, zi_nI (by omega) (by omega), zg_t, zcla (by omega), zlet_eq, y2, zlet_eq, zlet_eq, y3]
    by_cases hs0 : st.length = 0
    · rw [hs0, if_pos (show nI 0 = 0 from rfl), ← z1 hs0]
      exact K
    · have pm : nI st.length - 1 = nI (st.length - 1) := pk_sub (b := 1) (by omega)
      rw [if_neg (nI_ne0 (by omega) (by omega)), pm, zi_nI (by omega) (by omega), zg_t, zcla (by omega), zI_n (by omega), z2 (by omega)]
      exact K
  · rw [o _ _ (by omega) (by omega) (by omega) (by omega), f1]; exact c1
  · rw [hτ, f2]
    simp (disch := omega) only [zI_n, zI_y]
  · rw [hτ, zI_y, List.length_cons]
  · rw [hτ, f3]
    simp (disch := omega) only [zI_n, zI_y]
  · rw [f1] at hl
    obtain ⟨d1, d2, d3⟩ := c5 l hl
    rw [ftk, fpa, o _ _ (by omega) (by omega) (by omega) (by omega), o _ _ (by omega) (by omega) (by omega) (by omega)]
    exact ⟨d1, d2, fun e he => by rw [fev, o _ _ (by omega) (by omega) (by omega) (by omega)]; exact d3 e he⟩
  · by_cases e : q = zpq P
    · subst e
      rw [f4, f9, hτ]
      simp (disch := omega) only [zI_n, zI_y, and_self]
    · rw [f2] at hq'
      rw [(fq q e).1, (fq q e).2.2.2.2.2.1, o _ _ (by omega) (by omega) (by omega) (by omega), o _ _ (by omega) (by omega) (by omega) (by omega)]
      exact c6 q (by omega)
  · rw [hτ]
    simp (disch := omega) only [zI_n, zI_y]
  · exact mOp_lt (I := σ.1) st st.length (Nat.le_refl _) (fun k hk => o _ _ (by omega) (by omega) (by omega) (by omega)) c7
  · rw [f3] at hk
    by_cases e : k = zprl P
    · rw [e, fr1, hτ]
      simp (disch := omega) only [zI_n, zI_y]
    · rw [fr2 k e, o _ _ (by omega) (by omega) (by omega) (by omega)]
      exact c8 k (by omega)
theorem stP (W : zM → zST → List Nat → Prop) (hW : ∀ P st cur t, wD P st cur → zpq P < 40 → st.length < 4 → 1 ≤ t → W P st cur → W (dLp P st t) ((zpq P, cur) :: st) []) {n : Nat} {b : Nat → Nat} (B : bT n b) {p : Nat} (hp : p = 3 ∨ p = 33) (hz : zP p = true) {P : zM} {st : zST} {cur : List Nat} {s p' v : Nat} (w : wD P st cur) (tb : tB n 0 s p' v) (hpos : 10 * zpq P ≤ s + 4 * st.length) (h4 : p' = s + 4) : zSt W n b p P st cur 0 s p' v J_X4_readLoop J_X11_readLoop := by
  have B1 := B.1
  have w1 := w.1
  have w3 := w.2.2.1
  have wrl := w.2.2.2.1
  obtain ⟨tb1, tb2, tb3, tb4, tb5, tb6⟩ := tb
  by_cases hs : st.length < 4
  · have hq : zpq P < 40 := by omega
    have M0 : ∀ σ, mI n b P st 0 s p' v σ → J_X11_readLoop σ = zb (J_X11_next σ) fun σ5 => zb2 (J_X11_readNumber (1 : Int32) (99 : Int32) σ5) mPx := by
      rintro σ ⟨t, c, d⟩
      unfold J_X11_readLoop
      rw [d.2.2.1, if_neg (show ¬ (4 : Int32) ≤ nI st.length from nI_ge (b := 4) hs (by omega)), zlet_eq, want1, zb_s]
      rfl
    rcases num_ (lo := 1) (hi := 99) B tb2 (by omega) (by omega) with ⟨s1, p1, v1, T1, S1, V1, V2, C, Mm⟩ | ⟨f, fp, F1, F2, F3, C, Mm⟩
    · have w' := Lp_w (t := v1) w hq hs V1 V2
      have fq' := (Lp_f (P := P) (st := st) (t := v1)).2.1
      have fn' := (Lp_f (P := P) (st := st) (t := v1)).1
      have Cn : ∀ σ, cI n b p P st cur 0 s p' v σ → ∃ σ2, (J_X4_readLoop σ = zb (J_X4_takeKind (2 : Int32) σ2) fun σ12 => some σ12) ∧ cT σ2 n b ∧ σ2.2.2 63 1 = p ∧ cB σ2 1 s1 p1 v1 ∧ cD σ2.1 p (dLp P st v1) ((zpq P, cur) :: st) [] ∧ cf2 p σ σ2 := by
        rintro σ ⟨t, hr, c, d⟩
        obtain ⟨σ1, a1, a2, a3⟩ := C σ t c.1 c.2.2.2.1
        have a1' : J_X4_takeNumber (1 : Int32) (99 : Int32) σ = some σ1 := a1
        have hr1 : σ1.2.2 63 1 = p := by rw [a3.1]; exact hr
        obtain ⟨σ2, g1, g2, g3⟩ := coL (t := v1) w hq hs (cD_f hp w1 a3 d)
        have f2 := cf2_t (cf2_c (p := p) a3) (cf2_p g3)
        refine ⟨σ2, ?_, cT_2 hp f2 t, by rw [g3.1]; exact hr1, ⟨by rw [g3.2 _ _ (by omega)]; exact a2.1, by rw [g3.2 _ _ (by omega)]; exact a2.2.1, by rw [g3.2 _ _ (by omega)]; exact a2.2.2.1, by rw [g3.2 _ _ (by omega)]; exact a2.2.2.2.1, fun q => by rw [g3.2 _ _ (by omega)]; exact a2.2.2.2.2 q⟩, g2, f2⟩
        unfold J_X4_readLoop
        rw [hr, zlet_eq, hz, zg_t, d.2.2.1, if_pos (show nI st.length < (4 : Int32) from nI_lt (b := 4) hs (by omega)), a1', zb_s, a2.1, if_pos (show nI 0 = 0 from rfl), zlet_eq, hr1, hz, zg_t, a2.2.2.2.2 rfl, g1, zb_s]
      have Mn : ∀ σ, mI n b P st 0 s p' v σ → ∃ σ1, mT σ1 n b ∧ mB σ1 1 s1 p1 v1 ∧ mD σ1.1 P st ∧ mfr σ σ1 ∧ J_X11_readLoop σ = zb (J_X11_next σ1) fun σ3 => mPx (nI v1) σ3 := by
        intro σ h
        obtain ⟨t, c, d⟩ := id h
        obtain ⟨σ1, a2, a3, a1⟩ := Mm σ t c.1 c.2.2.2.1
        exact ⟨σ1, mT_f a3 t, a2, mD_f a3 d, a3, (M0 σ h).trans (a1 _)⟩
      rcases tok_ B T1.2.1 with ⟨k2, s2, p2, v2, T2, S2, C2, M2⟩ | ⟨s2, S2, C2, M2⟩
      · have Mx : ∀ σ, mI n b P st 0 s p' v σ → ∃ σ', J_X11_readLoop σ = some σ' ∧ mI n b (dLp P st v1) ((zpq P, cur) :: st) k2 s2 p2 v2 σ' ∧ mf2 σ σ' := by
          intro σ h
          obtain ⟨σ1, x1, x2, x3, x4, x5⟩ := Mn σ h
          obtain ⟨σ3, y1, y2, y3⟩ := M2 σ1 x1 x2.1 x2.2.2.2.1
          obtain ⟨σ', g1, g2, g3, g4⟩ := mPo (t := v1) w hq hs (by omega) y2.1 (mD_f y3 x3)
          have f4 : mf2 σ3 σ' := ⟨g3, fun c i h1 h2 h3 => g4 c i (by omega) (by omega) h3⟩
          refine ⟨σ', by rw [x5, y1, zb_s, g1], ⟨mT_2 f4 (mT_f y3 x1), ⟨by rw [g4 _ _ (by omega) (by omega) (by omega)]; exact y2.1, by rw [g4 _ _ (by omega) (by omega) (by omega)]; exact y2.2.1, by rw [g4 _ _ (by omega) (by omega) (by omega)]; exact y2.2.2.1, by rw [g4 _ _ (by omega) (by omega) (by omega)]; exact y2.2.2.2.1, fun q => by rw [g4 _ _ (by omega) (by omega) (by omega)]; exact y2.2.2.2.2 q⟩, g2⟩, mf2_t (mf2_m (mfr_t x4 y3)) f4⟩
        by_cases hk : k2 = 2
        · subst hk
          left
          have s12 := T1.2.2.2.2.1 (by omega)
          have s22 := T2.2.2.2.2.1 (by omega)
          refine ⟨dLp P st v1, (zpq P, cur) :: st, [], s2, p2, w', hW P st cur v1 w hq hs V1, ⟨T2.1, T2.2.1, T2.2.2.1, fun q => by omega, T2.2.2.2.2.1, fun q => by omega⟩, by omega, by rw [fq', List.length_cons]; omega, fun σ h => ?_, fun σ h => ?_⟩
          · obtain ⟨σ2, x1, x2, x3, x4, x5, x6⟩ := Cn σ h
            obtain ⟨σ3, y1, y2, y3⟩ := C2 σ2 x2 x4.1 x4.2.2.2.1
            have tk := (tkd (n := n) y1 y2 T2.2.2.1).1 rfl
            exact ⟨σ3, by rw [x1, tk, zb_s], ⟨cT_f y3 x2, by rw [y3.1]; exact x3, ⟨y2.1, y2.2.1, y2.2.2.1, y2.2.2.2.1, fun q => by omega⟩, cD_f hp (by rw [fn']; omega) y3 x5⟩, cf2_t x6 (cf2_c y3)⟩
          · obtain ⟨σ', x1, ⟨x2, x3, x4⟩, x5⟩ := Mx σ h
            exact ⟨σ', x1, ⟨x2, ⟨x3.1, x3.2.1, x3.2.2.1, x3.2.2.2.1, fun q => by omega⟩, x4⟩, x5⟩
        · right; right
          refine ⟨k2, s2, p2, v2, dLp P st v1, (zpq P, cur) :: st, [], hk, T2, w', fun σ h => ?_, Mx⟩
          obtain ⟨σ2, x1, x2, x3, x4, x5, x6⟩ := Cn σ h
          obtain ⟨σ3, y1, y2, y3⟩ := C2 σ2 x2 x4.1 x4.2.2.2.1
          obtain ⟨σ4, z1, z2, z3⟩ := (tkd (n := n) y1 y2 T2.2.2.1).2 hk
          exact ⟨σ4, by rw [x1, z1, zb_s], z2, cf2_t x6 (cf2_t (cf2_c y3) (cf2_c z3))⟩
      · right; left
        refine ⟨1, s2, P, st, cur, by omega, by omega, S2, w, fun σ h => ?_, fun σ h => ?_⟩
        · obtain ⟨σ2, x1, x2, x3, x4, x5, x6⟩ := Cn σ h
          obtain ⟨σ3, y1, y2, y3⟩ := C2 σ2 x2 x4.1 x4.2.2.2.1
          exact ⟨σ3, by rw [x1, tkdf y1 y2, zb_s], y2, cf2_t x6 (cf2_c y3)⟩
        · obtain ⟨σ1, x1, x2, x3, x4, x5⟩ := Mn σ h
          obtain ⟨σ3, y1, y2, y3⟩ := M2 σ1 x1 x2.1 x2.2.2.2.1
          refine ⟨σ3, ?_, y2, mD_f y3 x3, mf2_m (mfr_t x4 y3)⟩
          rw [x5, y1, zb_s]
          unfold mPx
          rw [y2.1, if_neg (show ¬ nI 1 = 0 by decide)]
    · right; left
      refine ⟨f, fp, P, st, cur, F1, F2, F3, w, ?_, fun σ h => ?_⟩
      · rintro σ ⟨t, hr, c, d⟩
        obtain ⟨σ1, a1, a2, a3⟩ := C σ t c.1 c.2.2.2.1
        have a1' : J_X4_takeNumber (1 : Int32) (99 : Int32) σ = some σ1 := a1
        refine ⟨σ1, ?_, a2, cf2_c a3⟩
        unfold J_X4_readLoop
        rw [hr, zlet_eq, hz, zg_t, d.2.2.1, if_pos (show nI st.length < (4 : Int32) from nI_lt (b := 4) hs (by omega)), a1', zb_s, a2.1, if_neg (show ¬ nI f = 0 from nI_ne0 (by omega) (by omega))]
      · obtain ⟨t, c, d⟩ := id h
        obtain ⟨σ1, r, a2, a3, a1⟩ := Mm σ t c.1 c.2.2.2.1
        refine ⟨σ1, ?_, a2, mD_f a3 d, mf2_m a3⟩
        rw [M0 σ h]
        refine (a1 mPx).trans ?_
        unfold mPx
        rw [a2.1, if_neg (nI_ne0 (by omega) (by omega))]
  · have e4 : st.length = 4 := by omega
    right; left
    refine ⟨5, s, P, st, cur, by omega, by omega, by omega, w, ?_, ?_⟩
    · rintro σ ⟨t, hr, c, d⟩
      obtain ⟨σ2, k1, k2, k3⟩ := cfail 5 σ c.2.2.1
      have k1' : J_X4_fail (5 : Int32) σ = some σ2 := k1
      refine ⟨σ2, ?_, k2, cf2_c k3⟩
      unfold J_X4_readLoop
      rw [hr, zlet_eq, hz, zg_t, d.2.2.1, e4, if_neg (show ¬ nI 4 < (4 : Int32) by decide), k1', zb_s]
    · rintro σ ⟨t, c, d⟩
      obtain ⟨σ2, k1, k2, k3⟩ := mfail 5 σ c.1 c.2.2.1
      have k1' : J_X11_wants (0 : Int32) (5 : Int32) σ = some σ2 := k1
      refine ⟨σ2, ?_, k2, mD_f k3 d, mf2_m k3⟩
      unfold J_X11_readLoop
      rw [d.2.2.1, e4, if_pos (show (4 : Int32) ≤ nI 4 by decide), zlet_eq, k1', zb_s, nx_f k2.1 (by omega) (by omega), zb_s, rn_f _ _ k2.1 (by omega) (by omega), zb2_s, k2.1, if_neg (show ¬ nI 5 = 0 by decide)]
/-! ===== the end of a loop ===== -/
def cSe (σ : zS) : Option zS := zb (J_X4_takeKind (2 : Int32) σ) fun σ33 => zlet (σ33.2.2 63 1) fun p34 => zg (zP p34) (zb (J_X3_closeLoop p34 σ33) fun σ37 => some σ37)
theorem mEo {q : Nat} {P : zM} {sv : List Nat} {st : zST} {cur : List Nat} {σ : zS} (w : wD P ((q, sv) :: st) cur) (hrl : zprl P < 100) (h0 : σ.1 105 30 = nI 0) (m : mD σ.1 P ((q, sv) :: st)) : ∃ σ', (J_X11_readEnd σ = zb (J_X11_next σ') fun σ5 => some σ5) ∧ mD σ'.1 (dCl P q) st ∧ σ'.2 = σ.2 ∧ (∀ c i, ¬ (c = 105 ∧ (i = 19 ∨ i = 23)) → ¬ c = 120 → σ'.1 c i = σ.1 c i) := by
  obtain ⟨c1, c2, c3, c4, c5, c6, ⟨c7, c7'⟩, c8⟩ := m
  obtain ⟨f1, f2, f3, f4, f5, f6, ⟨fte, fad, fco, ffi, fou, frs⟩, ⟨ftk, ftm, fin, fpa, fev⟩, fr1, fr2⟩ := Cl_f (P := P) (q := q)
  have w3 := w.2.2.1
  rw [List.length_cons] at w3 c3
  have pm : nI (st.length + 1) - 1 = nI st.length := nI_pred _
  have r4 : nI (zprl P) + 1 = nI (zprl P + 1) := nI_add _ 1
  have h2 : 200 + nI q = nI (200 + q) := nI_add 200 _
  obtain ⟨τ, hτ⟩ : ∃ τ, τ = zsI (zsI (zsI σ 105 19 (nI st.length)) 120 (zprl P) (nI (200 + q))) 105 23 (nI (zprl P + 1)) := ⟨_, rfl⟩
  have o : ∀ c i, ¬ (c = 105 ∧ (i = 19 ∨ i = 23)) → ¬ (c = 120 ∧ i = zprl P) → τ.1 c i = σ.1 c i := fun c i h1 h2 => by
    rw [hτ]
    simp (disch := omega) only [zI_n]
  refine ⟨τ, ?_, ⟨?_, ?_, ?_, ?_, fun l hl => ?_, fun x hx => ?_, ?_, fun k hk => ?_⟩, by rw [hτ]; rfl, fun c i h1 h3 => o c i h1 (fun q => h3 q.1)⟩
  · unfold J_X11_readEnd
    have c7x : σ.1 118 st.length = nI q := c7
    rw [c3, if_neg (nI_nle (by omega) (by omega)), zlet_eq, want1, zb_s, zlet_eq, h0, if_pos (show nI 0 = 0 from rfl), c3, pm]
    simp (disch := omega) only [zlet_eq, zi_nI, zg_t, zcla, zI_n, zI_y, c4, c7x, r4, h2]
    rw [hτ]
    rfl
  · rw [o _ _ (by omega) (by omega), f1]; exact c1
  · rw [o _ _ (by omega) (by omega), f2]; exact c2
  · rw [hτ]
    simp (disch := omega) only [zI_n, zI_y]
  · rw [hτ, f3, zI_y]
  · rw [f1] at hl
    obtain ⟨d1, d2, d3⟩ := c5 l hl
    rw [ftk, fpa, o _ _ (by omega) (by omega), o _ _ (by omega) (by omega)]
    exact ⟨d1, d2, fun e he => by rw [fev, o _ _ (by omega) (by omega)]; exact d3 e he⟩
  · rw [f2] at hx
    rw [fte, fou, o _ _ (by omega) (by omega), o _ _ (by omega) (by omega)]
    exact c6 x hx
  · exact mOp_lt (I := σ.1) st st.length (Nat.le_refl _) (fun k hk => o _ _ (by omega) (by omega)) c7'
  · rw [f3] at hk
    by_cases e : k = zprl P
    · rw [e, fr1, hτ]
      simp (disch := omega) only [zI_n, zI_y]
    · rw [fr2 k e, o _ _ (by omega) (by omega)]
      exact c8 k (by omega)
theorem stE (W : zM → zST → List Nat → Prop) (hW : ∀ P q sv r cur, wD P ((q, sv) :: r) cur → W P ((q, sv) :: r) cur → W (dCl P q) r (sv ++ dRep (zpte P q) cur)) {n : Nat} {b : Nat → Nat} (B : bT n b) {p : Nat} (hp : p = 3 ∨ p = 33) (hz : zP p = true) {P : zM} {q : Nat} {sv : List Nat} {st : zST} {cur : List Nat} {s p' v : Nat} (w : wD P ((q, sv) :: st) cur) (tb : tB n 0 s p' v) (hpos : 10 * zpq P ≤ s + 4 * (st.length + 1)) (h3 : p' = s + 3) : zSt W n b p P ((q, sv) :: st) cur 0 s p' v cSe J_X11_readEnd := by
  have B1 := B.1
  have w1 := w.1
  have w3 := w.2.2.1
  have wrl := w.2.2.2.1
  rw [List.length_cons] at w3 wrl
  obtain ⟨tb1, tb2, tb3, tb4, tb5, tb6⟩ := tb
  have w' := Cl_w w
  have fq' := (Cl_f (P := P) (q := q)).2.1
  have fn' := (Cl_f (P := P) (q := q)).1
  have CC : ∀ σ : zS, σ.2.2 63 1 = p → cD σ.1 p P ((q, sv) :: st) cur → ∃ σ', (zlet (σ.2.2 63 1) fun p34 => zg (zP p34) (zb (J_X3_closeLoop p34 σ) fun σ37 => some σ37)) = some σ' ∧ cD σ'.1 p (dCl P q) st (sv ++ dRep (zpte P q) cur) ∧ pfr p σ σ' := by
    intro σ hr d
    obtain ⟨σ', x1, x2, x3⟩ := ccL w d
    exact ⟨σ', by rw [hr, zlet_eq, hz, zg_t, x1, zb_s], x2, x3⟩
  have cFp : ∀ {σ σ' : zS} {f fp : Nat}, pfr p σ σ' → cF σ f fp → cF σ' f fp := fun h c => ⟨by rw [h.2 _ _ (by omega)]; exact c.1, by rw [h.2 _ _ (by omega)]; exact c.2⟩
  rcases tok_ B tb2 with ⟨k2, s2, p2, v2, T2, S2, C2, M2⟩ | ⟨s2, S2, C2, M2⟩
  · have Mx : ∀ σ, mI n b P ((q, sv) :: st) 0 s p' v σ → ∃ σ', J_X11_readEnd σ = some σ' ∧ mI n b (dCl P q) st k2 s2 p2 v2 σ' ∧ mf2 σ σ' := by
      rintro σ ⟨t, c, d⟩
      obtain ⟨σ1, x1, x2, x3, x4⟩ := mEo w (by omega) c.1 d
      have f1 : mf2 σ σ1 := ⟨x3, fun c i h1 h2 h3 => x4 c i (by omega) h3⟩
      have t1 := mT_2 f1 t
      obtain ⟨σ3, y1, y2, y3⟩ := M2 σ1 t1 (by rw [x4 _ _ (by omega) (by omega)]; exact c.1) (by rw [x4 _ _ (by omega) (by omega)]; exact c.2.2.2.1)
      exact ⟨σ3, by rw [x1, y1, zb_s], ⟨mT_f y3 t1, y2, mD_f y3 x2⟩, mf2_t f1 (mf2_m y3)⟩
    by_cases hk : k2 = 2
    · subst hk
      left
      have s22 := T2.2.2.2.2.1 (by omega)
      refine ⟨dCl P q, st, sv ++ dRep (zpte P q) cur, s2, p2, w', hW P q sv st cur w, ⟨T2.1, T2.2.1, T2.2.2.1, fun q => by omega, T2.2.2.2.2.1, fun q => by omega⟩, by omega, by rw [fq']; omega, ?_, fun σ h => ?_⟩
      · rintro σ ⟨t, hr, c, d⟩
        obtain ⟨σ3, y1, y2, y3⟩ := C2 σ t c.1 c.2.2.2.1
        have tk := (tkd (n := n) y1 y2 T2.2.2.1).1 rfl
        have hr3 : σ3.2.2 63 1 = p := by rw [y3.1]; exact hr
        obtain ⟨σ', x1, x2, x3⟩ := CC σ3 hr3 (cD_f hp w1 y3 d)
        refine ⟨σ', ?_, ⟨cT_2 hp (cf2_p x3) (cT_f y3 t), by rw [x3.1]; exact hr3, ⟨by rw [x3.2 _ _ (by omega)]; exact y2.1, by rw [x3.2 _ _ (by omega)]; exact y2.2.1, by rw [x3.2 _ _ (by omega)]; exact y2.2.2.1, by rw [x3.2 _ _ (by omega)]; exact y2.2.2.2.1, fun q => by omega⟩, x2⟩, cf2_t (cf2_c y3) (cf2_p x3)⟩
        unfold cSe
        rw [tk, zb_s, x1]
      · obtain ⟨σ', x1, ⟨x2, x3, x4⟩, x5⟩ := Mx σ h
        exact ⟨σ', x1, ⟨x2, ⟨x3.1, x3.2.1, x3.2.2.1, x3.2.2.2.1, fun q => by omega⟩, x4⟩, x5⟩
    · right; right
      refine ⟨k2, s2, p2, v2, dCl P q, st, sv ++ dRep (zpte P q) cur, hk, T2, w', ?_, Mx⟩
      rintro σ ⟨t, hr, c, d⟩
      obtain ⟨σ3, y1, y2, y3⟩ := C2 σ t c.1 c.2.2.2.1
      obtain ⟨σ4, z1, z2, z3⟩ := (tkd (n := n) y1 y2 T2.2.2.1).2 hk
      have f4 := cfr_t y3 z3
      obtain ⟨σ', x1, x2, x3⟩ := CC σ4 (by rw [f4.1]; exact hr) (cD_f hp w1 f4 d)
      refine ⟨σ', ?_, cFp x3 z2, cf2_t (cf2_c f4) (cf2_p x3)⟩
      unfold cSe
      rw [z1, zb_s, x1]
  · right; left
    refine ⟨1, s2, dCl P q, st, sv ++ dRep (zpte P q) cur, by omega, by omega, S2, w', ?_, ?_⟩
    · rintro σ ⟨t, hr, c, d⟩
      obtain ⟨σ3, y1, y2, y3⟩ := C2 σ t c.1 c.2.2.2.1
      obtain ⟨σ', x1, x2, x3⟩ := CC σ3 (by rw [y3.1]; exact hr) (cD_f hp w1 y3 d)
      refine ⟨σ', ?_, cFp x3 y2, cf2_t (cf2_c y3) (cf2_p x3)⟩
      unfold cSe
      rw [tkdf y1 y2, zb_s, x1]
    · rintro σ ⟨t, c, d⟩
      obtain ⟨σ1, x1, x2, x3, x4⟩ := mEo w (by omega) c.1 d
      have f1 : mf2 σ σ1 := ⟨x3, fun c i h1 h2 h3 => x4 c i (by omega) h3⟩
      have t1 := mT_2 f1 t
      obtain ⟨σ3, y1, y2, y3⟩ := M2 σ1 t1 (by rw [x4 _ _ (by omega) (by omega)]; exact c.1) (by rw [x4 _ _ (by omega) (by omega)]; exact c.2.2.2.1)
      exact ⟨σ3, by rw [x1, y1, zb_s], y2, mD_f y3 x2, mf2_t f1 (mf2_m y3)⟩
