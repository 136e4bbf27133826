set_option maxRecDepth 8000
/-! ===== statements ===== -/
def cI (n : Nat) (b : Nat → Nat) (p : Nat) (P : zM) (st : zST) (cur : List Nat) (k s p' v : Nat) (σ : zS) : Prop := cT σ n b ∧ σ.2.2 63 1 = p ∧ cB σ k s p' v ∧ cD σ.1 p P st cur
def mI (n : Nat) (b : Nat → Nat) (P : zM) (st : zST) (k s p' v : Nat) (σ : zS) : Prop := mT σ n b ∧ mB σ k s p' v ∧ mD σ.1 P st
def zSt (W : zM → zST → List Nat → Prop) (n : Nat) (b : Nat → Nat) (p : Nat) (P : zM) (st : zST) (cur : List Nat) (k s p' v : Nat) (CS MS : zS → Option zS) : Prop :=
  (∃ (P' : zM) (st' : zST) (cur' : List Nat) (s1 p1 : Nat), wD P' st' cur' ∧ (W P st cur → W P' st' cur') ∧ tB n 2 s1 p1 0 ∧ s < p1 ∧ 10 * zpq P' ≤ p1 + 4 * st'.length ∧ (∀ σ, cI n b p P st cur k s p' v σ → ∃ σ', CS σ = some σ' ∧ cI n b p P' st' cur' 2 s1 p1 0 σ' ∧ cf2 p σ σ') ∧ ∀ σ, mI n b P st k s p' v σ → ∃ σ', MS σ = some σ' ∧ mI n b P' st' 2 s1 p1 0 σ' ∧ mf2 σ σ') ∨
  (∃ (f fp : Nat) (P' : zM) (st' : zST) (cur' : List Nat), 1 ≤ f ∧ f ≤ 6 ∧ fp ≤ n ∧ wD P' st' cur' ∧ (∀ σ, cI n b p P st cur k s p' v σ → ∃ σ', CS σ = some σ' ∧ cF σ' f fp ∧ cf2 p σ σ') ∧ ∀ σ, mI n b P st k s p' v σ → ∃ σ', MS σ = some σ' ∧ mF σ' f fp ∧ mD σ'.1 P' st' ∧ mf2 σ σ') ∨
  ∃ (k1 s1 p1 v1 : Nat) (P' : zM) (st' : zST) (cur' : List Nat), k1 ≠ 2 ∧ tB n k1 s1 p1 v1 ∧ wD P' st' cur' ∧ (∀ σ, cI n b p P st cur k s p' v σ → ∃ σ', CS σ = some σ' ∧ cF σ' 2 s1 ∧ cf2 p σ σ') ∧ ∀ σ, mI n b P st k s p' v σ → ∃ σ', MS σ = some σ' ∧ mI n b P' st' k1 s1 p1 v1 σ' ∧ mf2 σ σ'
theorem m33f {K : zS → Option zS} {f : Nat} {σ : zS} (h : σ.1 105 30 = nI f) (h1 : 1 ≤ f) (h6 : f ≤ 6) : L_X11_readLine_33 K 4294967296 (0 : Int32) σ = K σ := by
  rw [L_X11_readLine_33, zlet_eq, if_neg (by decide), h, if_neg (nI_ne0 (by omega) (by omega))]
theorem m67f {r : Int32} {f : Nat} {σ : zS} (h : σ.1 105 30 = nI f) (h1 : 1 ≤ f) (h6 : f ≤ 6) : D_X11_readLine_67 r σ = some σ := by
  have e : ¬ nI f = 0 := nI_ne0 (by omega) (by omega)
  have E : J_X11_readEvents σ = some σ := by
    unfold J_X11_readEvents
    rw [L_X11_readEvents_2, zlet_eq, h, if_neg e]
  unfold D_X11_readLine_67
  rw [E, zb_s, h, if_neg e]
theorem stL (W : zM → zST → List Nat → Prop) (hW : ∀ P st cur t ev, wD P st cur → zpn P < 16 → W P st cur → W (dLn P st t ev) st (cur ++ [zpn P])) {n : Nat} {b : Nat → Nat} (B : bT n b) {p : Nat} (hp : p = 3 ∨ p = 33) (hz : zP p = true) {P : zM} {st : zST} {cur : List Nat} {s p' v : Nat} (w : wD P st cur) (tb : tB n 0 s p' v) (hpos : 10 * zpq P ≤ s + 4 * st.length) : zSt W n b p P st cur 0 s p' v J_X4_readLine J_X11_readLine := by
  have B1 := B.1
  have w1 := w.1
  have w3 := w.2.2.1
  have w7 := w.2.2.2.2.2.2.1
  have wrl := w.2.2.2.1
  obtain ⟨tb1, tb2, tb3, tb4, tb5, tb6⟩ := tb
  have slt := tb5 (by omega)
  by_cases hm : zpn P < 16
  · have M0 : ∀ σ, mI n b P st 0 s p' v σ → J_X11_readLine σ = zb (J_X11_next σ) fun σ5 => zb2 (J_X11_readNumber (1 : Int32) (20 : Int32) σ5) fun r6 σ7 => zlet (D_X11_readLine_67 r6) fun k67 => L_X11_readLine_33 k67 4294967296 (0 : Int32) σ7 := by
      rintro σ ⟨t, c, d⟩
      unfold J_X11_readLine
      rw [d.1, if_neg (show ¬ (16 : Int32) ≤ nI (zpn P) from nI_ge (b := 16) hm (by omega)), zlet_eq, want1, zb_s]
    rcases num_ (lo := 1) (hi := 20) B tb2 (by omega) (by omega) with ⟨s1, p1, v1, T1, S1, V1, V2, C, Mm⟩ | ⟨f, fp, F1, F2, F3, C, Mm⟩
    · have Cn : ∀ σ, cI n b p P st cur 0 s p' v σ → ∃ σ2, (J_X4_readLine σ = zb (J_X4_takeToken σ2) fun σ12 => L_X4_readLine_52 4294967296 (0 : Int32) (0 : Int32) σ12) ∧ cT σ2 n b ∧ σ2.2.2 63 1 = p ∧ cB σ2 1 s1 p1 v1 ∧ cD σ2.1 p (dLn P st v1 fun _ => 0) st (cur ++ [zpn P]) ∧ cf2 p σ σ2 := by
        rintro σ ⟨t, hr, c, d⟩
        obtain ⟨σ1, a1, a2, a3⟩ := C σ t c.1 c.2.2.2.1
        have a1' : J_X4_takeNumber (1 : Int32) (20 : Int32) σ = some σ1 := a1
        have hr1 : σ1.2.2 63 1 = p := by rw [a3.1]; exact hr
        obtain ⟨σ2, g1, g2, g3⟩ := caL (t := v1) w hm (cD_f hp w1 a3 d)
        have f2 := cf2_t (cf2_c (p := p) a3) (cf2_p g3)
        refine ⟨σ2, ?_, cT_2 hp f2 t, by rw [g3.1]; exact hr1, ⟨by rw [g3.2 _ _ (by omega)]; exact a2.1, by rw [g3.2 _ _ (by omega)]; exact a2.2.1, by rw [g3.2 _ _ (by omega)]; exact a2.2.2.1, by rw [g3.2 _ _ (by omega)]; exact a2.2.2.2.1, fun q => by rw [g3.2 _ _ (by omega)]; exact a2.2.2.2.2 q⟩, g2, f2⟩
        unfold J_X4_readLine
        rw [hr, zlet_eq, hz, zg_t, d.1, if_pos (show nI (zpn P) < (16 : Int32) from nI_lt (b := 16) hm (by omega)), a1', zb_s, a2.1, if_pos (show nI 0 = 0 from rfl), zlet_eq, hr1, hz, zg_t, a2.2.2.2.2 rfl, g1, zb_s]
      have Mn : ∀ σ, mI n b P st 0 s p' v σ → ∃ σ1, mT σ1 n b ∧ mB σ1 1 s1 p1 v1 ∧ mD σ1.1 P st ∧ mfr σ σ1 ∧ J_X11_readLine σ = zb (J_X11_next σ1) fun σ3 => zlet (D_X11_readLine_67 (nI v1)) fun k67 => L_X11_readLine_33 k67 4294967296 (0 : Int32) σ3 := by
        intro σ h
        obtain ⟨t, c, d⟩ := id h
        obtain ⟨σ1, a2, a3, a1⟩ := Mm σ t c.1 c.2.2.2.1
        exact ⟨σ1, mT_f a3 t, a2, mD_f a3 d, a3, (M0 σ h).trans (a1 _)⟩
      rcases tok_ B T1.2.1 with ⟨k2, s2, p2, v2, T2, S2, C2, M2⟩ | ⟨s2, S2, C2, M2⟩
      · have z0 : nI 0 = (0 : Int32) := rfl
        have p0 : pcn 0 8 = 0 := by decide
        have EV := ev_ (t := v1) (cur := cur ++ [zpn P]) B hp hz w7 hm 8 0 0 (fun _ => 0) k2 s2 p2 v2 4294967296 4294967296 (by omega) (by omega) (by omega) (by omega) p0 T2 (fun e he => by omega)
        have Cx : ∀ σ, cI n b p P st cur 0 s p' v σ → ∃ σ3, (J_X4_readLine σ = L_X4_readLine_52 4294967296 (nI 0) (nI 0) σ3) ∧ cT σ3 n b ∧ σ3.2.2 63 1 = p ∧ cB σ3 k2 s2 p2 v2 ∧ cD σ3.1 p (dLn P st v1 fun _ => 0) st (cur ++ [zpn P]) ∧ cf2 p σ σ3 := by
          intro σ h
          obtain ⟨σ2, x1, x2, x3, x4, x5, x6⟩ := Cn σ h
          obtain ⟨σ3, y1, y2, y3⟩ := C2 σ2 x2 x4.1 x4.2.2.2.1
          refine ⟨σ3, by rw [x1, y1, zb_s]; rfl, cT_f y3 x2, by rw [y3.1]; exact x3, y2, cD_f hp (by rw [(Ln_f (P := P) (st := st) (t := v1) (ev := fun _ => 0) w1).1]; omega) y3 x5, cf2_t x6 (cf2_c y3)⟩
        have Mx : ∀ σ, mI n b P st 0 s p' v σ → ∃ σ4, mT σ4 n b ∧ mB σ4 k2 s2 p2 v2 ∧ mD σ4.1 P st ∧ (∀ e, e < 8 → σ4.1 114 (8 * zpn P + e) = nI 0) ∧ mf2 σ σ4 ∧ J_X11_readLine σ = D_X11_readLine_67 (nI v1) σ4 := by
          intro σ h
          obtain ⟨σ1, x1, x2, x3, x4, x5⟩ := Mn σ h
          obtain ⟨σ3, y1, y2, y3⟩ := M2 σ1 x1 x2.1 x2.2.2.2.1
          have d3 := mD_f y3 x3
          obtain ⟨σ4, g1, g2, g3, g4⟩ := m33 (K := D_X11_readLine_67 (nI v1)) hm 8 0 4294967296 σ3 (by omega) (by omega) d3.1 y2.1
          have f4 : mf2 σ3 σ4 := ⟨g2, fun c i h1 h2 h3 => g3 c i (by omega)⟩
          have t3 := mT_f y3 x1
          refine ⟨σ4, mT_2 f4 t3, ⟨by rw [g3 _ _ (by omega)]; exact y2.1, by rw [g3 _ _ (by omega)]; exact y2.2.1, by rw [g3 _ _ (by omega)]; exact y2.2.2.1, by rw [g3 _ _ (by omega)]; exact y2.2.2.2.1, fun q => by rw [g3 _ _ (by omega)]; exact y2.2.2.2.2 q⟩, mD_cg (I := σ3.1) (fun c i hc => g3 c i (by omega)) d3, fun e he => g4 e (by omega) he, mf2_t (mf2_m (mfr_t x4 y3)) f4, ?_⟩
          rw [x5, y1, zb_s, zlet_eq]
          exact g1
        have pw : ∀ ev' : Nat → Nat, (∀ e, e < 8 → ev' e ≤ 99) → wD (dLn P st v1 ev') st (cur ++ [zpn P]) := fun ev' hev => Ln_w w hm V1 V2 hev
        have fq : ∀ ev' : Nat → Nat, zpq (dLn P st v1 ev') = zpq P := fun ev' => (Ln_f (P := P) (st := st) (t := v1) (ev := ev') w1).2.1
        rcases EV with ⟨s3, p3, ev3, J1, J2, J3, J4, J5⟩ | ⟨f, fp, J1, J2, J3, J4, J5⟩ | ⟨k3, s3, p3, v3, ev3, J1, J2, J3, J4, J5⟩
        · left
          have s23 := J2.2.2.2.2.1 (by omega)
          have := T1.1
          refine ⟨dLn P st v1 ev3, st, cur ++ [zpn P], s3, p3, pw ev3 J3, hW P st cur v1 ev3 w hm, J2, by omega, by rw [fq]; omega, fun σ h => ?_, fun σ h => ?_⟩
          · obtain ⟨σ3, x1, x2, x3, x4, x5, x6⟩ := Cx σ h
            obtain ⟨σ', y1, y2, y3, y4⟩ := J4 σ3 x2 x3 x4 x5
            exact ⟨σ', x1.trans y1, ⟨cT_2 hp y4 x2, by rw [y4.1]; exact x3, y2, y3⟩, cf2_t x6 y4⟩
          · obtain ⟨σ4, x1, x2, x3, x4, x5, x6⟩ := Mx σ h
            obtain ⟨σ9, y1, y2, y3, y4, y5⟩ := J5 σ4 x1 x2 x3 x4
            obtain ⟨σ', g1, g2, g3, g4⟩ := m67 (t := v1) w hm (by omega) y1 y2.1 y3 y4
            have f9 : mf2 σ9 σ' := ⟨g3, fun c i h1 h2 h3 => g4 c i (by omega) (by omega) (by omega)⟩
            exact ⟨σ', x6.trans g1, ⟨mT_2 (mf2_t y5 f9) x1, ⟨by rw [g4 _ _ (by omega) (by omega) (by omega)]; exact y2.1, by rw [g4 _ _ (by omega) (by omega) (by omega)]; exact y2.2.1, by rw [g4 _ _ (by omega) (by omega) (by omega)]; exact y2.2.2.1, by rw [g4 _ _ (by omega) (by omega) (by omega)]; exact y2.2.2.2.1, fun q => by omega⟩, g2⟩, mf2_t x5 (mf2_t y5 f9)⟩
        · right; left
          refine ⟨f, fp, P, st, cur, J1, J2, J3, w, fun σ h => ?_, fun σ h => ?_⟩
          · obtain ⟨σ3, x1, x2, x3, x4, x5, x6⟩ := Cx σ h
            obtain ⟨σ', y1, y2, y3⟩ := J4 σ3 x2 x3 x4 x5
            exact ⟨σ', x1.trans y1, y2, cf2_t x6 y3⟩
          · obtain ⟨σ4, x1, x2, x3, x4, x5, x6⟩ := Mx σ h
            obtain ⟨σ9, y1, y2, y3, y4⟩ := J5 σ4 x1 x2 x3 x4
            refine ⟨σ9, ?_, y2, y3, mf2_t x5 y4⟩
            have y1' : J_X11_readEvents σ4 = some σ9 := y1
            rw [x6]
            unfold D_X11_readLine_67
            rw [y1', zb_s, y2.1, if_neg (nI_ne0 (by omega) (by omega))]
        · right; right
          refine ⟨k3, s3, p3, v3, dLn P st v1 ev3, st, cur ++ [zpn P], by omega, J2, pw ev3 J3, fun σ h => ?_, fun σ h => ?_⟩
          · obtain ⟨σ3, x1, x2, x3, x4, x5, x6⟩ := Cx σ h
            obtain ⟨σ', y1, y2, y3⟩ := J4 σ3 x2 x3 x4 x5
            exact ⟨σ', x1.trans y1, y2, cf2_t x6 y3⟩
          · obtain ⟨σ4, x1, x2, x3, x4, x5, x6⟩ := Mx σ h
            obtain ⟨σ9, y1, y2, y3, y4, y5⟩ := J5 σ4 x1 x2 x3 x4
            obtain ⟨σ', g1, g2, g3, g4⟩ := m67 (t := v1) w hm (by omega) y1 y2.1 y3 y4
            have f9 : mf2 σ9 σ' := ⟨g3, fun c i h1 h2 h3 => g4 c i (by omega) (by omega) (by omega)⟩
            exact ⟨σ', x6.trans g1, ⟨mT_2 (mf2_t y5 f9) x1, ⟨by rw [g4 _ _ (by omega) (by omega) (by omega)]; exact y2.1, by rw [g4 _ _ (by omega) (by omega) (by omega)]; exact y2.2.1, by rw [g4 _ _ (by omega) (by omega) (by omega)]; exact y2.2.2.1, by rw [g4 _ _ (by omega) (by omega) (by omega)]; exact y2.2.2.2.1, fun q => by rw [g4 _ _ (by omega) (by omega) (by omega)]; exact y2.2.2.2.2 q⟩, g2⟩, mf2_t x5 (mf2_t y5 f9)⟩
      · right; left
        refine ⟨1, s2, P, st, cur, by omega, by omega, S2, w, fun σ h => ?_, fun σ h => ?_⟩
        · obtain ⟨σ2, x1, x2, x3, x4, x5, x6⟩ := Cn σ h
          obtain ⟨σ3, y1, y2, y3⟩ := C2 σ2 x2 x4.1 x4.2.2.2.1
          refine ⟨σ3, ?_, y2, cf2_t x6 (cf2_c y3)⟩
          rw [x1, y1, zb_s, L_X4_readLine_52, zlet_eq, if_neg (by decide), y2.1, if_neg (show ¬ nI 1 = 0 by decide)]
        · obtain ⟨σ1, x1, x2, x3, x4, x5⟩ := Mn σ h
          obtain ⟨σ3, y1, y2, y3⟩ := M2 σ1 x1 x2.1 x2.2.2.2.1
          refine ⟨σ3, ?_, y2, mD_f y3 x3, mf2_m (mfr_t x4 y3)⟩
          rw [x5, y1, zb_s, zlet_eq, m33f y2.1 (by omega) (by omega), m67f y2.1 (by omega) (by omega)]
    · right; left
      refine ⟨f, fp, P, st, cur, F1, F2, F3, w, ?_, fun σ h => ?_⟩
      · rintro σ ⟨t, hr, c, d⟩
        obtain ⟨σ1, a1, a2, a3⟩ := C σ t c.1 c.2.2.2.1
        have a1' : J_X4_takeNumber (1 : Int32) (20 : Int32) σ = some σ1 := a1
        refine ⟨σ1, ?_, a2, cf2_c a3⟩
        unfold J_X4_readLine
        rw [hr, zlet_eq, hz, zg_t, d.1, if_pos (show nI (zpn P) < (16 : Int32) from nI_lt (b := 16) hm (by omega)), a1', zb_s, a2.1, if_neg (show ¬ nI f = 0 from nI_ne0 (by omega) (by omega))]
      · obtain ⟨t, c, d⟩ := id h
        obtain ⟨σ1, r, a2, a3, a1⟩ := Mm σ t c.1 c.2.2.2.1
        refine ⟨σ1, ?_, a2, mD_f a3 d, mf2_m a3⟩
        have a1' := a1 (fun r6 σ7 => zlet (D_X11_readLine_67 r6) fun k67 => L_X11_readLine_33 k67 4294967296 (0 : Int32) σ7)
        rw [M0 σ h]
        refine a1'.trans ?_
        rw [zlet_eq, m33f a2.1 F1 F2, m67f a2.1 F1 F2]
  · -- the 17th line
    have e16 : zpn P = 16 := by omega
    right; left
    refine ⟨5, s, P, st, cur, by omega, by omega, by omega, w, ?_, ?_⟩
    · rintro σ ⟨t, hr, c, d⟩
      obtain ⟨σ2, k1, k2, k3⟩ := cfail 5 σ c.2.2.1
      have k1' : J_X4_fail (5 : Int32) σ = some σ2 := k1
      refine ⟨σ2, ?_, k2, cf2_c k3⟩
      unfold J_X4_readLine
      rw [hr, zlet_eq, hz, zg_t, d.1, e16, if_neg (show ¬ nI 16 < (16 : Int32) by decide), k1', zb_s]
    · rintro σ ⟨t, c, d⟩
      obtain ⟨σ2, k1, k2, k3⟩ := mfail 5 σ c.1 c.2.2.1
      have k1' : J_X11_wants (0 : Int32) (5 : Int32) σ = some σ2 := k1
      refine ⟨σ2, ?_, k2, mD_f k3 d, mf2_m k3⟩
      unfold J_X11_readLine
      rw [d.1, e16, if_pos (show (16 : Int32) ≤ nI 16 by decide), zlet_eq, k1', zb_s, nx_f k2.1 (by omega) (by omega), zb_s, rn_f _ _ k2.1 (by omega) (by omega), zb2_s, zlet_eq, m33f k2.1 (by omega) (by omega), m67f k2.1 (by omega) (by omega)]
