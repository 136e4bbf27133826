set_option maxRecDepth 8000
/-! ===== the whole text, on both sides ===== -/
theorem s76 {P : zM} {st : zST} {cur : List Nat} {σ : zS} {K : Int64 → Option (Int32 × zS)} (w : wD P st cur) (m : mD σ.1 P st) : ∀ q l N, l + q = zpn P → q < N → L_X11_program_76 σ K N (lN (zsm (zptm P) l)) (nI l) = K (lN (zsm (zptm P) (zpn P))) := by
  have w1 := w.1
  intro q
  induction q with
  | zero =>
    intro l N h hN
    cases N with
    | zero => omega
    | succ N =>
      obtain rfl : l = zpn P := by omega
      rw [L_X11_program_76, zlet_eq, m.1, if_pos (nI_le (Nat.le_refl _) (by omega))]
  | succ q ih =>
    intro l N h hN
    cases N with
    | zero => omega
    | succ N =>
      have t4 : nI l + 1 = nI (l + 1) := nI_add l 1
      have D := dTi (σ := σ) w m.2.2.2.2.2.1 (show l < zpn P by omega) (m.2.2.2.2.1 l (by omega)).2.1
      have a1 : lN (zsm (zptm P) l) + lN (zptm P l) = lN (zsm (zptm P) (l + 1)) := lN_add _ _
      rw [L_X11_program_76, zlet_eq, m.1, if_neg (nI_ge (by omega) (by omega)), D, zb_s, a1, zlet_eq, t4, zlet_eq]
      exact ih (l + 1) N (by omega) (by omega)
theorem m55 {P : zM} {st : zST} {cur : List Nat} {σ : zS} (w : wD P st cur) (m : mD σ.1 P st) : D_X11_program_55 σ = zlet (if (σ.1 105 19) = (0 : Int32) then (1 : Int32) else (0 : Int32)) fun v9 => zb (J_X11_wants v9 (2 : Int32) σ) fun σ11 => zlet (D_X11_program_98 σ11) fun k98 => L_X11_program_76 σ11 k98 4294967296 (0 : Int64) (0 : Int32) := rfl
theorem m55f {f fp : Nat} {P : zM} {st : zST} {cur : List Nat} {σ : zS} (w : wD P st cur) (m : mD σ.1 P st) (h : mF σ f fp) (h1 : 1 ≤ f) (h6 : f ≤ 6) : D_X11_program_55 σ = D_X11_program_127 σ := by
  have S : ∀ K, L_X11_program_76 σ K 4294967296 (0 : Int64) (0 : Int32) = K (lN (zsm (zptm P) (zpn P))) := fun K => s76 w m (zpn P) 0 4294967296 (by omega) (by have := w.1; omega)
  unfold D_X11_program_55
  rw [zlet_eq, wt_f _ _ h.1 h1 h6, zb_s, zlet_eq, S]
  unfold D_X11_program_98
  rw [zlet_eq, h.1, if_neg (nI_ne0 (by omega) (by omega))]
def dP0 : zM := fun _ _ => 0
theorem dP0_w : wD dP0 [] [] := by
  refine ⟨Nat.zero_le _, Nat.zero_le _, Nat.zero_le _, rfl, fun l hl => absurd hl (Nat.not_lt_zero l), fun q hq => absurd hq (Nat.not_lt_zero q), trivial, fun f => rfl, fun x hx => by cases hx⟩
theorem dP0_k : wkW dP0 [] [] := fun τ _ => zwk_0 τ 0 0 404
theorem prog_ {n : Nat} {b : Nat → Nat} (B : bT n b) {p : Nat} (hp : p = 3 ∨ p = 33) (hz : zP p = true) : (∃ (P : zM) (cur : List Nat), wD P [] cur ∧ wkW P [] cur ∧ cur.length ≤ 6000 ∧ (∀ σ, cT σ n b → ∃ σ', J_X4_readInto p σ = some σ' ∧ cD σ'.1 p P [] cur ∧ σ'.1 63 6 = nI 0 ∧ cf2 p (zsR σ 63 1 p) σ') ∧ ∀ σ, mT σ n b → ∃ σ', J_X11_program σ = D_X11_program_127 σ' ∧ mD σ'.1 P [] ∧ σ'.1 105 30 = nI 0 ∧ mf2 σ σ') ∨ ∃ f fp, 1 ≤ f ∧ f ≤ 6 ∧ fp ≤ n ∧ (∀ σ, cT σ n b → ∃ σ', J_X4_readInto p σ = some σ' ∧ cF σ' f fp ∧ cf2 p (zsR σ 63 1 p) σ') ∧ ∀ σ, mT σ n b → ∃ σ', J_X11_program σ = D_X11_program_127 σ' ∧ mF σ' f fp ∧ mf2 σ σ' := by
  have B1 := B.1
  -- both at the text's beginning
  have C0 : ∀ σ, cT σ n b → ∃ τ, (J_X4_readInto p σ = zb (J_X4_takeToken τ) fun σ10 => L_X4_readInto_33 D_X4_readInto_143 4294967296 (0 : Int32) σ10) ∧ cT τ n b ∧ τ.2.2 63 1 = p ∧ τ.1 63 6 = nI 0 ∧ τ.1 63 2 = nI 0 ∧ cD τ.1 p dP0 [] [] ∧ cf2 p (zsR σ 63 1 p) τ := by
    intro σ t
    obtain ⟨τ, hτ⟩ : ∃ τ, τ = zsI (zsI (zsI (zsI (zsI (zsI (zsI (zsI (zsI (zsR σ 63 1 p) p 0 (0 : Int32)) p 5 (0 : Int32)) p 13 (0 : Int32)) p 14 (1 : Int32)) p 15 (0 : Int32)) p 16 (0 : Int32)) 63 2 (0 : Int32)) 63 6 (0 : Int32)) 63 7 (0 : Int32) := ⟨_, rfl⟩
    have o : ∀ c i, ¬ (c = 63 ∧ 2 ≤ i ∧ i ≤ 7) → ¬ (p ≤ c ∧ c < p + 30) → τ.1 c i = σ.1 c i := fun c i h1 h2 => by
      rw [hτ]
      simp (disch := omega) only [zI_n]
      rfl
    have r1 : (zsR σ 63 1 p).2.2 63 1 = p := by
      show (if 63 = 63 ∧ 1 = 1 then p else σ.2.2 63 1) = p
      exact if_pos ⟨rfl, rfl⟩
    have r2 : τ.2.2 = (zsR σ 63 1 p).2.2 := by rw [hτ]; rfl
    refine ⟨τ, ?_, ⟨by rw [o _ _ (by omega) (by omega)]; exact t.1, fun j hj => by rw [o _ _ (by omega) (by omega)]; exact t.2 j hj⟩, by rw [r2]; exact r1, ?_, ?_, ⟨?_, ?_, ?_, ?_, fun l hl => absurd hl (Nat.not_lt_zero l), fun q hq => absurd hq (Nat.not_lt_zero q), trivial, 0, by omega, ?_, fun _ => ⟨rfl, ?_, fun i hi => by omega⟩, fun h => absurd h (by simp [dFl]), trivial⟩, by rw [hτ]; rfl, fun c i h1 h2 => by rw [o c i h1 h2]; rfl⟩
    · unfold J_X4_readInto J_X3_begin
      rw [zlet_eq, r1, zlet_eq, hz, zg_t]
      simp only [zlet_eq, zb_s]
      rw [← hτ]
    · rw [hτ]; simp (disch := omega) only [zI_n, zI_y]; rfl
    · rw [hτ]; simp (disch := omega) only [zI_n, zI_y]; rfl
    · rw [hτ]; simp (disch := omega) only [zI_n, zI_y]; rfl
    · rw [hτ]; simp (disch := omega) only [zI_n, zI_y]; rfl
    · rw [hτ]; simp (disch := omega) only [zI_n, zI_y]; rfl
    · rw [hτ]; simp (disch := omega) only [zI_n, zI_y]; rfl
    · rw [hτ]; simp (disch := omega) only [zI_n, zI_y]; rfl
    · rw [hτ]; simp (disch := omega) only [zI_n, zI_y]; rfl
  have M0 : ∀ σ, mT σ n b → ∃ τ, (J_X11_program σ = zb (J_X11_next τ) fun σ8 => L_X11_program_34 D_X11_program_55 4294967296 σ8) ∧ mT τ n b ∧ τ.1 105 30 = nI 0 ∧ τ.1 105 26 = nI 0 ∧ mD τ.1 dP0 [] ∧ mf2 σ τ := by
    intro σ t
    obtain ⟨τ, hτ⟩ : ∃ τ, τ = zsI (zsI (zsI (zsI (zsI (zsI σ 105 30 (0 : Int32)) 105 26 (0 : Int32)) 105 11 (0 : Int32)) 105 15 (0 : Int32)) 105 23 (0 : Int32)) 105 19 (0 : Int32) := ⟨_, rfl⟩
    have o : ∀ c i, ¬ (c = 105 ∧ (i = 11 ∨ i = 15 ∨ i = 19 ∨ i = 23 ∨ i = 26 ∨ i = 30)) → τ.1 c i = σ.1 c i := fun c i h1 => by
      rw [hτ]
      simp (disch := omega) only [zI_n]
    refine ⟨τ, ?_, ⟨by rw [o _ _ (by omega)]; exact t.1, fun j hj => by rw [o _ _ (by omega)]; exact t.2 j hj⟩, ?_, ?_, ⟨?_, ?_, ?_, ?_, fun l hl => absurd hl (Nat.not_lt_zero l), fun q hq => absurd hq (Nat.not_lt_zero q), trivial, fun k hk => absurd hk (Nat.not_lt_zero k)⟩, by rw [hτ]; rfl, fun c i h1 h2 h3 => o c i (by omega)⟩
    · unfold J_X11_program
      simp only [zlet_eq]
      rw [← hτ]
    · rw [hτ]; simp (disch := omega) only [zI_n, zI_y]; rfl
    · rw [hτ]; simp (disch := omega) only [zI_n, zI_y]; rfl
    · rw [hτ]; simp (disch := omega) only [zI_n, zI_y]; rfl
    · rw [hτ]; simp (disch := omega) only [zI_n, zI_y]; rfl
    · rw [hτ]; simp (disch := omega) only [zI_n, zI_y]; rfl
    · rw [hτ]; simp (disch := omega) only [zI_n, zI_y]; rfl
  -- the end, where a fault has been found
  have cE : ∀ (σ : zS) f fp, cF σ f fp → 1 ≤ f → f ≤ 6 → D_X4_readInto_143 σ = some σ := by
    intro σ f fp h h1 h6
    have e : ¬ nI f = 0 := nI_ne0 (by omega) (by omega)
    unfold D_X4_readInto_143 J_X4_finish
    rw [zlet_eq, h.1, if_neg e]
    unfold D_X4_finish_22
    rw [h.1, if_neg e, zb_s]
  rcases tok_ (p := 0) B (Nat.zero_le _) with ⟨k, s, p', v, T, S, C, M⟩ | ⟨s, S, C, M⟩
  · have R := rd_ wkW wkn wkp wkc B hp hz n k s p' v dP0 [] [] 0 4294967296 4294967296 (by omega) (by omega) (by omega) dP0_w dP0_k T (by show 10 * 0 ≤ _; omega) (by omega)
    have C1 : ∀ σ, cT σ n b → ∃ τ, (J_X4_readInto p σ = L_X4_readInto_33 D_X4_readInto_143 4294967296 (nI 0) τ) ∧ cI n b p dP0 [] [] k s p' v τ ∧ cf2 p (zsR σ 63 1 p) τ := by
      intro σ t
      obtain ⟨τ, x1, x2, x3, x4, x5, x6, x7⟩ := C0 σ t
      obtain ⟨σ', y1, y2, y3⟩ := C τ x2 x4 x5
      exact ⟨σ', by rw [x1, y1, zb_s]; rfl, ⟨cT_f y3 x2, by rw [y3.1]; exact x3, y2, cD_f hp (Nat.zero_le _) y3 x6⟩, cf2_t x7 (cf2_c y3)⟩
    have M1 : ∀ σ, mT σ n b → ∃ τ, (J_X11_program σ = L_X11_program_34 D_X11_program_55 4294967296 τ) ∧ mI n b dP0 [] k s p' v τ ∧ mf2 σ τ := by
      intro σ t
      obtain ⟨τ, x1, x2, x3, x4, x5, x6⟩ := M0 σ t
      obtain ⟨σ', y1, y2, y3⟩ := M τ x2 x3 x4
      exact ⟨σ', by rw [x1, y1, zb_s], ⟨mT_f y3 x2, y2, mD_f y3 x5⟩, mf2_t x6 (mf2_m y3)⟩
    rcases R with ⟨P', st', cur', w', hw', C2, M2⟩ | ⟨f, fp, P', st', cur', F1, F2, F3, w', C2, M2⟩
    · have C3 : ∀ σ, cT σ n b → ∃ τ, (J_X4_readInto p σ = D_X4_readInto_143 τ) ∧ cI n b p P' st' cur' 3 n n 0 τ ∧ cf2 p (zsR σ 63 1 p) τ := by
        intro σ t
        obtain ⟨τ, x1, x2, x3⟩ := C1 σ t
        obtain ⟨σ', y1, y2, y3⟩ := C2 τ x2
        exact ⟨σ', by rw [x1, y1], y2, cf2_t x3 y3⟩
      have M3 : ∀ σ, mT σ n b → ∃ τ, (J_X11_program σ = D_X11_program_55 τ) ∧ mI n b P' st' 3 n n 0 τ ∧ mf2 σ τ := by
        intro σ t
        obtain ⟨τ, x1, x2, x3⟩ := M1 σ t
        obtain ⟨σ', y1, y2, y3⟩ := M2 τ x2
        exact ⟨σ', by rw [x1, y1], y2, mf2_t x3 y3⟩
      cases st' with
      | nil =>
        have lens : zsm (zptm P') (zpn P') = cur'.length := by
          have w8 : ∀ f : Nat → Nat, dSm f cur' = zsm (fun l => zpc P' l * f l) (zpn P') := w'.2.2.2.2.2.2.2.1
          rw [← dSm_1, w8]
          refine zsm_congr fun l hl => ?_
          have h10 : zptm P' l = zpc P' l * 1 := (w'.2.2.2.2.1 l hl).2.2.2.2.2.2.2.2.2.1
          exact h10
        have tml : cur'.length ≤ 16 * 96059601 := by
          rw [← lens]
          have := zsm_le (f := zptm P') (g := fun _ => 96059601 * 1) (n := zpn P') (fun l hl => by have := (w'.2.2.2.2.1 l hl).2.2.2.1; omega)
          have q : ∀ k, zsm (fun _ => 96059601 * 1) k = 96059601 * k := by
            intro k
            induction k with
            | zero => rfl
            | succ k ih =>
              rw [zsm_s, ih]
              omega
          rw [q] at this
          have := w'.1
          have : 96059601 * zpn P' ≤ 96059601 * 16 := Nat.mul_le_mul_left _ this
          omega
        have MS : ∀ τ : zS, mI n b P' [] 3 n n 0 τ → D_X11_program_55 τ = if cur'.length ≤ 6000 then D_X11_program_127 τ else D_X11_program_127 (zsI (zsI τ 105 30 (6 : Int32)) 105 31 (nI n)) := by
          rintro τ ⟨t, c, d⟩
          have d3 : τ.1 105 19 = nI 0 := d.2.2.1
          have SS : ∀ K, L_X11_program_76 τ K 4294967296 (0 : Int64) (0 : Int32) = K (lN (zsm (zptm P') (zpn P'))) := fun K => s76 w' d (zpn P') 0 4294967296 (by omega) (by have := w'.1; omega)
          have y25 : (zsI τ 105 30 (6 : Int32)).1 105 25 = nI n := by rw [zI_n (by omega)]; exact t.1
          unfold D_X11_program_55
          rw [d3, if_pos (show nI 0 = 0 from rfl), zlet_eq, want1, zb_s, zlet_eq, SS, lens]
          unfold D_X11_program_98
          rw [zlet_eq, c.1, if_pos (show nI 0 = 0 from rfl)]
          by_cases h : cur'.length ≤ 6000
          · have g : (lg_cmp (lN cur'.length) (6000 : Int64) ≤ (0 : Int32)) = True := lc_le_t (b := 6000) h (by omega)
            rw [if_pos (of_eq_true g), if_pos h]
          · have g : (lg_cmp (lN cur'.length) (6000 : Int64) ≤ (0 : Int32)) = False := lc_le_f (b := 6000) (by omega) (by omega)
            rw [if_neg (of_eq_false g), if_neg h, zlet_eq, y25, zlet_eq]
        have CS : ∀ τ : zS, cI n b p P' [] cur' 3 n n 0 τ → D_X4_readInto_143 τ = if τ.1 p 16 = (0 : Int32) then some τ else zb (J_X4_fail (6 : Int32) τ) fun σ6 => some σ6 := by
          rintro τ ⟨t, hr, c, d⟩
          have d3 : τ.1 p 13 = nI 0 := d.2.2.1
          have D22 : D_X4_finish_22 τ = if τ.1 p 16 = (0 : Int32) then some τ else zb (J_X4_fail (6 : Int32) τ) fun σ6 => some σ6 := by
            unfold D_X4_finish_22
            rw [c.1, if_pos (show nI 0 = 0 from rfl), hr, zlet_eq, hz, zg_t]
          unfold D_X4_readInto_143 J_X4_finish
          rw [zlet_eq, c.1, if_pos (show nI 0 = 0 from rfl), hr, zlet_eq, hz, zg_t, d3, if_pos (show nI 0 ≤ 0 by decide), D22]
          split
          · rfl
          · cases J_X4_fail (6 : Int32) τ <;> rfl
        by_cases h6 : cur'.length ≤ 6000
        · left
          refine ⟨P', cur', w', hw', h6, fun σ t => ?_, fun σ t => ?_⟩
          · obtain ⟨τ, x1, x2, x3⟩ := C3 σ t
            obtain ⟨s', c8, c9, c10, c11, c12⟩ := x2.2.2.2.2.2.2.2.2.2.2
            have z16 := (c10 h6).2.1
            refine ⟨τ, ?_, x2.2.2.2, x2.2.2.1.1, x3⟩
            rw [x1, CS τ x2, z16, if_pos (show nI 0 = 0 from rfl)]
          · obtain ⟨τ, x1, x2, x3⟩ := M3 σ t
            refine ⟨τ, ?_, x2.2.2, x2.2.1.1, x3⟩
            rw [x1, MS τ x2, if_pos h6]
        · right
          refine ⟨6, n, by omega, by omega, Nat.le_refl _, fun σ t => ?_, fun σ t => ?_⟩
          · obtain ⟨τ, x1, x2, x3⟩ := C3 σ t
            obtain ⟨s', c8, c9, c10, c11, c12⟩ := x2.2.2.2.2.2.2.2.2.2.2
            have z16 := c11 (by show 6000 < cur'.length; omega)
            obtain ⟨σ2, k1, k2, k3⟩ := cfail 6 τ x2.2.2.1.2.2.1
            have k1' : J_X4_fail (6 : Int32) τ = some σ2 := k1
            refine ⟨σ2, ?_, k2, cf2_t x3 (cf2_c k3)⟩
            rw [x1, CS τ x2, z16, if_neg (show ¬ nI 1 = 0 by decide), k1', zb_s]
          · obtain ⟨τ, x1, x2, x3⟩ := M3 σ t
            refine ⟨zsI (zsI τ 105 30 (6 : Int32)) 105 31 (nI n), ?_, ⟨by rw [zI_n (by omega), zI_y]; rfl, zI_y⟩, mf2_t x3 (mf2_m (mfr_I (mfr_I (mfr_r τ) (by omega) (by omega)) (by omega) (by omega)))⟩
            rw [x1, MS τ x2, if_neg h6]
      | cons x r =>
        have w3 := w'.2.2.1
        rw [List.length_cons] at w3
        right
        refine ⟨2, n, by omega, by omega, Nat.le_refl _, fun σ t => ?_, fun σ t => ?_⟩
        · obtain ⟨τ, x1, ⟨t1, hr, c, d⟩, x3⟩ := C3 σ t
          obtain ⟨σ2, k1, k2, k3⟩ := cfail 2 τ c.2.2.1
          have k1' : J_X4_fail (2 : Int32) τ = some σ2 := k1
          have d3 : τ.1 p 13 = nI (r.length + 1) := d.2.2.1
          refine ⟨σ2, ?_, k2, cf2_t x3 (cf2_c k3)⟩
          rw [x1]
          unfold D_X4_readInto_143 J_X4_finish
          rw [zlet_eq, c.1, if_pos (show nI 0 = 0 from rfl), hr, zlet_eq, hz, zg_t, d3, if_neg (nI_nle (by omega) (by omega)), k1', zb_s]
          unfold D_X4_finish_22
          rw [k2.1, if_neg (show ¬ nI 2 = 0 by decide), zb_s]
        · obtain ⟨τ, x1, ⟨t1, c, d⟩, x3⟩ := M3 σ t
          obtain ⟨σ2, k1, k2, k3⟩ := mfail 2 τ c.1 c.2.2.1
          have k1' : J_X11_wants (0 : Int32) (2 : Int32) τ = some σ2 := k1
          have d3 : τ.1 105 19 = nI (r.length + 1) := d.2.2.1
          refine ⟨σ2, ?_, k2, mf2_t x3 (mf2_m k3)⟩
          have d2 := mD_f k3 d
          have SS : ∀ K, L_X11_program_76 σ2 K 4294967296 (0 : Int64) (0 : Int32) = K (lN (zsm (zptm P') (zpn P'))) := fun K => s76 w' d2 (zpn P') 0 4294967296 (by omega) (by have := w'.1; omega)
          rw [x1]
          unfold D_X11_program_55
          rw [d3, if_neg (nI_ne0 (by omega) (by omega)), zlet_eq, k1', zb_s, zlet_eq, SS]
          unfold D_X11_program_98
          rw [zlet_eq, k2.1, if_neg (show ¬ nI 2 = 0 by decide)]
    · right
      refine ⟨f, fp, F1, F2, F3, fun σ t => ?_, fun σ t => ?_⟩
      · obtain ⟨τ, x1, x2, x3⟩ := C1 σ t
        obtain ⟨σ', y1, y2, y3⟩ := C2 τ x2
        exact ⟨σ', by rw [x1, y1, cE σ' f fp y2 F1 F2], y2, cf2_t x3 y3⟩
      · obtain ⟨τ, x1, x2, x3⟩ := M1 σ t
        obtain ⟨σ', y1, y2, y3, y4⟩ := M2 τ x2
        exact ⟨σ', by rw [x1, y1, m55f w' y3 y2 F1 F2], y2, mf2_t x3 y4⟩
  · right
    refine ⟨1, s, by omega, by omega, S, fun σ t => ?_, fun σ t => ?_⟩
    · obtain ⟨τ, x1, x2, x3, x4, x5, x6, x7⟩ := C0 σ t
      obtain ⟨σ', y1, y2, y3⟩ := C τ x2 x4 x5
      refine ⟨σ', ?_, y2, cf2_t x7 (cf2_c y3)⟩
      rw [x1, y1, zb_s, L_X4_readInto_33, zlet_eq, if_neg (by decide), y2.1, if_neg (show ¬ nI 1 = 0 by decide), cE σ' 1 s y2 (by omega) (by omega)]
    · obtain ⟨τ, x1, x2, x3, x4, x5, x6⟩ := M0 σ t
      obtain ⟨σ', y1, y2, y3⟩ := M τ x2 x3 x4
      refine ⟨σ', ?_, y2, mf2_t x6 (mf2_m y3)⟩
      rw [x1, y1, zb_s, L_X11_program_34, zlet_eq, y2.1, if_neg (show ¬ nI 1 = 0 by decide), m55f dP0_w (mD_f y3 x5) y2 (by omega) (by omega)]
