set_option maxRecDepth 8000
/-! ===== items, one after another ===== -/
def zIt (W : zM → zST → List Nat → Prop) (n : Nat) (b : Nat → Nat) (p : Nat) (P : zM) (st : zST) (cur : List Nat) (k s p' v : Nat) : Prop :=
  (∃ (P' : zM) (st' : zST) (cur' : List Nat) (k' s2 p2 v2 : Nat), wD P' st' cur' ∧ (W P st cur → W P' st' cur') ∧ tB n k' s2 p2 v2 ∧ s < s2 ∧ 10 * zpq P' ≤ s2 + 4 * st'.length ∧ (∀ σ, cI n b p P st cur k s p' v σ → ∃ σ', (∀ K N i, i ≤ 320 → L_X4_readInto_33 K (N + 1) (nI i) σ = L_X4_readInto_33 K N (nI (i + 1)) σ') ∧ cI n b p P' st' cur' k' s2 p2 v2 σ' ∧ cf2 p σ σ') ∧ ∀ σ, mI n b P st k s p' v σ → ∃ σ', (∀ K N, L_X11_program_34 K (N + 1) σ = L_X11_program_34 K N σ') ∧ mI n b P' st' k' s2 p2 v2 σ' ∧ mf2 σ σ') ∨
  ∃ (f fp : Nat) (P' : zM) (st' : zST) (cur' : List Nat), 1 ≤ f ∧ f ≤ 6 ∧ fp ≤ n ∧ wD P' st' cur' ∧ (∀ σ, cI n b p P st cur k s p' v σ → ∃ σ', (∀ K N i, i ≤ 320 → L_X4_readInto_33 K (N + 1) (nI i) σ = L_X4_readInto_33 K N (nI (i + 1)) σ') ∧ cF σ' f fp ∧ cf2 p σ σ') ∧ ∀ σ, mI n b P st k s p' v σ → ∃ σ', (∀ K N, L_X11_program_34 K (N + 1) σ = L_X11_program_34 K N σ') ∧ mF σ' f fp ∧ mD σ'.1 P' st' ∧ mf2 σ σ'
theorem d66f {f : Nat} {σ : zS} (h : σ.1 105 30 = nI f) (h1 : 1 ≤ f) (h6 : f ≤ 6) : D_X11_readItem_66 σ = some σ := by
  unfold D_X11_readItem_66
  rw [zlet_eq, h, if_neg (nI_ne0 (by omega) (by omega))]
  unfold D_X11_readItem_91
  rw [nx_f h h1 h6, zb_s]
theorem fin_ {W : zM → zST → List Nat → Prop} {n : Nat} {b : Nat → Nat} (B : bT n b) {p : Nat} (hp : p = 3 ∨ p = 33) {P : zM} {st : zST} {cur : List Nat} {k s p' v : Nat} {CS MS : zS → Option zS} (S : zSt W n b p P st cur k s p' v CS MS) (hC : ∀ σ, cI n b p P st cur k s p' v σ → ∀ K N i, i ≤ 320 → L_X4_readInto_33 K (N + 1) (nI i) σ = zb (CS σ) fun σ41 => D_X4_readInto_126 (L_X4_readInto_33 K N) (nI i) σ41) (hM : ∀ σ, mI n b P st k s p' v σ → ∀ K N, L_X11_program_34 K (N + 1) σ = zb (zb (MS σ) fun σ20 => D_X11_readItem_66 σ20) fun σ29 => L_X11_program_34 K N σ29) : zIt W n b p P st cur k s p' v := by
  have B1 := B.1
  have t4 : ∀ i, nI i + 1 = nI (i + 1) := fun i => nI_add i 1
  -- where the class has found a fault
  have cS : ∀ (σ σ' : zS) f fp, CS σ = some σ' → cF σ' f fp → 1 ≤ f → f ≤ 6 → cI n b p P st cur k s p' v σ → ∀ K N i, i ≤ 320 → L_X4_readInto_33 K (N + 1) (nI i) σ = L_X4_readInto_33 K N (nI (i + 1)) σ' := by
    intro σ σ' f fp h1 h2 h3 h4 h5 K N i hi
    rw [hC σ h5 K N i hi, h1, zb_s]
    unfold D_X4_readInto_126
    rw [h2.1, if_neg (show ¬ nI f = 0 from nI_ne0 (by omega) (by omega)), t4, zlet_eq]
  have mS : ∀ (σ σ' : zS) f fp, MS σ = some σ' → mF σ' f fp → 1 ≤ f → f ≤ 6 → mI n b P st k s p' v σ → ∀ K N, L_X11_program_34 K (N + 1) σ = L_X11_program_34 K N σ' := by
    intro σ σ' f fp h1 h2 h3 h4 h5 K N
    rw [hM σ h5 K N, h1, zb_s, d66f h2.1 h3 h4, zb_s]
  rcases S with ⟨P', st', cur', s1, p1, w', hW, T1, sp, pos, C, M⟩ | ⟨f, fp, P', st', cur', F1, F2, F3, w', C, M⟩ | ⟨k1, s1, p1, v1, P', st', cur', hk, T1, w', C, M⟩
  · have CC : ∀ (σ σ' : zS) , CS σ = some σ' → cB σ' 2 s1 p1 0 → cI n b p P st cur k s p' v σ → ∀ K N i, i ≤ 320 → L_X4_readInto_33 K (N + 1) (nI i) σ = zb (J_X4_takeToken σ') fun σ20 => L_X4_readInto_33 K N (nI (i + 1)) σ20 := by
      intro σ σ' h1 h2 h5 K N i hi
      rw [hC σ h5 K N i hi, h1, zb_s]
      unfold D_X4_readInto_126
      rw [h2.1, if_pos (show nI 0 = 0 from rfl)]
      cases J_X4_takeToken σ' with
      | none => rfl
      | some x => rw [zb_s, zb_s, t4, zlet_eq]
    have MM : ∀ (σ σ' : zS) , MS σ = some σ' → mB σ' 2 s1 p1 0 → mI n b P st k s p' v σ → ∀ K N, L_X11_program_34 K (N + 1) σ = zb (J_X11_next σ') fun σ29 => L_X11_program_34 K N σ29 := by
      intro σ σ' h1 h2 h5 K N
      rw [hM σ h5 K N, h1, zb_s]
      unfold D_X11_readItem_66
      rw [zlet_eq, h2.1, if_pos (show nI 0 = 0 from rfl), h2.2.1, if_pos (show nI ((2 + 1) % 4) = 3 from rfl), zlet_eq, want1, zb_s]
      unfold D_X11_readItem_91
      cases J_X11_next σ' with
      | none => rfl
      | some x => rw [zb_s, zb_s]
    rcases tok_ B T1.2.1 with ⟨k2, s2, p2, v2, T2, S2, C2, M2⟩ | ⟨s2, S2, C2, M2⟩
    · left
      refine ⟨P', st', cur', k2, s2, p2, v2, w', hW, T2, by omega, by omega, fun σ h => ?_, fun σ h => ?_⟩
      · obtain ⟨σ1, x1, ⟨y1, y2, y3, y4⟩, x2⟩ := C σ h
        obtain ⟨σ2, z1, z2, z3⟩ := C2 σ1 y1 y3.1 y3.2.2.2.1
        exact ⟨σ2, fun K N i hi => by rw [CC σ σ1 x1 y3 h K N i hi, z1, zb_s], ⟨cT_f z3 y1, by rw [z3.1]; exact y2, z2, cD_f hp w'.1 z3 y4⟩, cf2_t x2 (cf2_c z3)⟩
      · obtain ⟨σ1, x1, ⟨y1, y3, y4⟩, x2⟩ := M σ h
        obtain ⟨σ2, z1, z2, z3⟩ := M2 σ1 y1 y3.1 y3.2.2.2.1
        exact ⟨σ2, fun K N => by rw [MM σ σ1 x1 y3 h K N, z1, zb_s], ⟨mT_f z3 y1, z2, mD_f z3 y4⟩, mf2_t x2 (mf2_m z3)⟩
    · right
      refine ⟨1, s2, P', st', cur', by omega, by omega, S2, w', fun σ h => ?_, fun σ h => ?_⟩
      · obtain ⟨σ1, x1, ⟨y1, y2, y3, y4⟩, x2⟩ := C σ h
        obtain ⟨σ2, z1, z2, z3⟩ := C2 σ1 y1 y3.1 y3.2.2.2.1
        exact ⟨σ2, fun K N i hi => by rw [CC σ σ1 x1 y3 h K N i hi, z1, zb_s], z2, cf2_t x2 (cf2_c z3)⟩
      · obtain ⟨σ1, x1, ⟨y1, y3, y4⟩, x2⟩ := M σ h
        obtain ⟨σ2, z1, z2, z3⟩ := M2 σ1 y1 y3.1 y3.2.2.2.1
        exact ⟨σ2, fun K N => by rw [MM σ σ1 x1 y3 h K N, z1, zb_s], z2, mD_f z3 y4, mf2_t x2 (mf2_m z3)⟩
  · right
    refine ⟨f, fp, P', st', cur', F1, F2, F3, w', fun σ h => ?_, fun σ h => ?_⟩
    · obtain ⟨σ1, x1, x2, x3⟩ := C σ h
      exact ⟨σ1, cS σ σ1 f fp x1 x2 F1 F2 h, x2, x3⟩
    · obtain ⟨σ1, x1, x2, x3, x4⟩ := M σ h
      exact ⟨σ1, mS σ σ1 f fp x1 x2 F1 F2 h, x2, x3, x4⟩
  · right
    have k3 := T1.2.2.1
    refine ⟨2, s1, P', st', cur', by omega, by omega, Nat.le_trans T1.1 T1.2.1, w', fun σ h => ?_, fun σ h => ?_⟩
    · obtain ⟨σ1, x1, x2, x3⟩ := C σ h
      exact ⟨σ1, cS σ σ1 2 s1 x1 x2 (by omega) (by omega) h, x2, x3⟩
    · obtain ⟨σ1, x1, ⟨y1, y3, y4⟩, x2⟩ := M σ h
      obtain ⟨σ2, z1, z2, z3⟩ := mfail 2 σ1 y3.1 y3.2.2.1
      have z1' : J_X11_wants (0 : Int32) (2 : Int32) σ1 = some σ2 := z1
      have ne : ¬ nI ((k1 + 1) % 4) = (3 : Int32) := fun q => by
        have := (nI_eq (a := (k1 + 1) % 4) (b := 3) (by omega) (by omega)).mp q
        omega
      refine ⟨σ2, fun K N => ?_, z2, mD_f z3 y4, mf2_t x2 (mf2_m z3)⟩
      rw [hM σ h K N, x1, zb_s]
      unfold D_X11_readItem_66
      rw [zlet_eq, y3.1, if_pos (show nI 0 = 0 from rfl), y3.2.1, if_neg ne, zlet_eq, z1', zb_s]
      unfold D_X11_readItem_91
      rw [nx_f z2.1 (by omega) (by omega), zb_s, zb_s]
theorem cSe_zb {ρ : Type} {σ : zS} {g : zS → Option ρ} : zb (cSe σ) g = zb (J_X4_takeKind (2 : Int32) σ) fun σ33 => zlet (σ33.2.2 63 1) fun p34 => zg (zP p34) (zb (J_X3_closeLoop p34 σ33) fun σ37 => g σ37) := by
  unfold cSe
  cases J_X4_takeKind (2 : Int32) σ with
  | none => rfl
  | some x =>
    rw [zb_s, zb_s, zlet_eq, zlet_eq]
    cases zP (x.2.2 63 1)
    · rfl
    · rw [zg_t, zg_t]
      cases J_X3_closeLoop (x.2.2 63 1) x <;> rfl
/-- one item, on both sides -/
theorem it_ (W : zM → zST → List Nat → Prop) (hWn : ∀ P st cur t ev, wD P st cur → zpn P < 16 → W P st cur → W (dLn P st t ev) st (cur ++ [zpn P])) (hWp : ∀ P st cur t, wD P st cur → zpq P < 40 → st.length < 4 → 1 ≤ t → W P st cur → W (dLp P st t) ((zpq P, cur) :: st) []) (hWc : ∀ P q sv r cur, wD P ((q, sv) :: r) cur → W P ((q, sv) :: r) cur → W (dCl P q) r (sv ++ dRep (zpte P q) cur)) {n : Nat} {b : Nat → Nat} (B : bT n b) {p : Nat} (hp : p = 3 ∨ p = 33) (hz : zP p = true) {P : zM} {st : zST} {cur : List Nat} {k s p' v : Nat} (w : wD P st cur) (tb : tB n k s p' v) (hpos : 10 * zpq P ≤ s + 4 * st.length) (hk3 : k ≠ 3) : zIt W n b p P st cur k s p' v := by
  have B1 := B.1
  have tb' := tb
  obtain ⟨tb1, tb2, tb3, tb4, tb5, tb6⟩ := tb'
  have i320 : ∀ i, i ≤ 320 → ¬ (320 : Int32) < nI i := fun i hi => nI_nlt (a := 320) (b := i) hi (by omega)
  have chead : ∀ σ, cI n b p P st cur k s p' v σ → ∀ K N i, i ≤ 320 → L_X4_readInto_33 K (N + 1) (nI i) σ = zb (J_X4_isWord 0 σ) fun r16 => zlet (D_X4_readInto_126 (L_X4_readInto_33 K N) (nI i)) fun k126 => if r16 = (0 : Int32) then (zb (J_X4_isWord 1 σ) fun r23 => if r23 = (0 : Int32) then (zb (J_X4_isWord 2 σ) fun r25 => zlet (D_X4_readInto_121 σ k126) fun k121 => if r25 = (0 : Int32) then (k121) else (zlet (σ.2.2 63 1) fun p29 => zg (zP p29) (if (σ.1 p29 13) ≤ (0 : Int32) then (k121) else (zb (J_X4_takeKind (2 : Int32) σ) fun σ33 => zlet (σ33.2.2 63 1) fun p34 => zg (zP p34) (zb (J_X3_closeLoop p34 σ33) fun σ37 => k126 σ37))))) else (zb (J_X4_readLoop σ) fun σ39 => k126 σ39)) else (zb (J_X4_readLine σ) fun σ41 => k126 σ41) := by
    rintro σ ⟨t, hr, c, d⟩ K N i hi
    have ne : ¬ nI k = (3 : Int32) := fun q => hk3 ((nI_eq (a := k) (b := 3) (by omega) (by omega)).mp q)
    rw [L_X4_readInto_33, zlet_eq, if_neg (i320 i hi), c.1, if_pos (show nI 0 = 0 from rfl), c.2.1, if_neg ne]
  have mhead : ∀ σ, mI n b P st k s p' v σ → ∀ K N, L_X11_program_34 K (N + 1) σ = zb (J_X11_readItem σ) fun σ29 => L_X11_program_34 K N σ29 := by
    rintro σ ⟨t, c, d⟩ K N
    have ne : ¬ nI ((k + 1) % 4) = (0 : Int32) := nI_ne0 (by omega) (by omega)
    rw [L_X11_program_34, zlet_eq, c.1, if_pos (show nI 0 = 0 from rfl), c.2.1, if_neg ne]
  -- what can not stand there
  have bad : ∀ MS : zS → Option zS, (∀ σ, mI n b P st k s p' v σ → ∃ σ', MS σ = some σ' ∧ mF σ' 2 s ∧ mfr σ σ') → zSt W n b p P st cur k s p' v (J_X4_fail (2 : Int32)) MS := by
    intro MS hMS
    right; left
    refine ⟨2, s, P, st, cur, by omega, by omega, by omega, w, ?_, fun σ h => ?_⟩
    · rintro σ ⟨t, hr, c, d⟩
      obtain ⟨σ2, k1, k2, k3⟩ := cfail 2 σ c.2.2.1
      exact ⟨σ2, k1, k2, cf2_c k3⟩
    · obtain ⟨σ2, k1, k2, k3⟩ := hMS σ h
      exact ⟨σ2, k1, k2, mD_f k3 h.2.2, mf2_m k3⟩
  have wbad : ∀ σ, mI n b P st k s p' v σ → ∃ σ', J_X11_wants (0 : Int32) (2 : Int32) σ = some σ' ∧ mF σ' 2 s ∧ mfr σ σ' := by
    rintro σ ⟨t, c, d⟩
    obtain ⟨σ2, k1, k2, k3⟩ := mfail 2 σ c.1 c.2.2.1
    exact ⟨σ2, k1, k2, k3⟩
  have m17 : ∀ σ, D_X11_readItem_17 σ (-4) = zb (J_X11_wants (0 : Int32) (2 : Int32) σ) fun σ3 => D_X11_readItem_66 σ3 := by
    intro σ
    unfold D_X11_readItem_17
    rw [if_pos rfl, zlet_eq]
    cases J_X11_wants (0 : Int32) (2 : Int32) σ with
    | none => rfl
    | some x => rw [zb_s, zb_s, zlet_eq, if_neg (by decide), if_neg (by decide), if_neg (by decide)]
  by_cases hk0 : k = 0
  · subst hk0
    have nm : ∀ σ, mI n b P st 0 s p' v σ → ∀ K N, L_X11_program_34 K (N + 1) σ = zb (zb (J_X11_nameNow σ) fun r24 => D_X11_readItem_17 σ r24) fun σ29 => L_X11_program_34 K N σ29 := by
      intro σ h K N
      rw [mhead σ h K N]
      unfold J_X11_readItem
      rw [zlet_eq, h.2.1.2.1, if_pos (show nI ((0 + 1) % 4) = 1 from rfl)]
    by_cases h0 : Wd b s p' 0
    · refine fin_ B hp (stL W hWn B hp hz w tb hpos) (fun σ h K N i hi => ?_) (fun σ h K N => ?_)
      · rw [chead σ h K N i hi, (isw_ B (by omega) h.1 h.2.2.1 tb1 tb2).1 h0, zb_s, zlet_eq, if_neg (by decide)]
      · rw [nm σ h K N, (name_ B h.1 h.2.1 tb1 tb2).1 h0, zb_s]
        congr 1
    · by_cases h1 : Wd b s p' 1
      · refine fin_ B hp (stP W hWp B hp hz w tb hpos (by have := (Wd1.mp h1).1; omega)) (fun σ h K N i hi => ?_) (fun σ h K N => ?_)
        · rw [chead σ h K N i hi, (isw_ B (by omega) h.1 h.2.2.1 tb1 tb2).2 h0, zb_s, zlet_eq, if_pos rfl, (isw_ B (by omega) h.1 h.2.2.1 tb1 tb2).1 h1, zb_s, if_neg (by decide)]
        · rw [nm σ h K N, (name_ B h.1 h.2.1 tb1 tb2).2.1 h0 h1, zb_s]
          congr 1
      · by_cases h2 : Wd b s p' 2
        · have M3 : ∀ σ, mI n b P st 0 s p' v σ → ∀ K N, L_X11_program_34 K (N + 1) σ = zb (zb (J_X11_readEnd σ) fun σ20 => D_X11_readItem_66 σ20) fun σ29 => L_X11_program_34 K N σ29 := by
            intro σ h K N
            rw [nm σ h K N, (name_ B h.1 h.2.1 tb1 tb2).2.2.1 h0 h1 h2, zb_s]
            congr 1
          have C3 : ∀ σ, cI n b p P st cur 0 s p' v σ → ∀ K N i, i ≤ 320 → L_X4_readInto_33 K (N + 1) (nI i) σ = zlet (D_X4_readInto_121 σ (D_X4_readInto_126 (L_X4_readInto_33 K N) (nI i))) fun k121 => if nI st.length ≤ (0 : Int32) then (k121) else (zb (cSe σ) fun σ37 => D_X4_readInto_126 (L_X4_readInto_33 K N) (nI i) σ37) := by
            intro σ h K N i hi
            rw [chead σ h K N i hi, (isw_ B (by omega) h.1 h.2.2.1 tb1 tb2).2 h0, zb_s, zlet_eq, if_pos rfl, (isw_ B (by omega) h.1 h.2.2.1 tb1 tb2).2 h1, zb_s, if_pos rfl, (isw_ B (by omega) h.1 h.2.2.1 tb1 tb2).1 h2, zb_s, zlet_eq, zlet_eq, if_neg (by decide), zlet_eq, h.2.1, hz, zg_t, h.2.2.2.2.2.1, cSe_zb]
          cases st with
          | nil =>
            refine fin_ B hp (bad J_X11_readEnd (fun σ h => ?_)) (fun σ h K N i hi => ?_) (fun σ h K N => M3 σ h K N)
            · obtain ⟨σ2, k1, k2, k3⟩ := wbad σ h
              refine ⟨σ2, ?_, k2, k3⟩
              have d3 : σ.1 105 19 = nI 0 := h.2.2.2.2.1
              unfold J_X11_readEnd
              rw [d3, if_pos (show nI 0 ≤ (0 : Int32) by decide), zlet_eq, k1, zb_s, zlet_eq, k2.1, if_neg (show ¬ nI 2 = 0 by decide)]
              unfold D_X11_readEnd_66
              rw [nx_f k2.1 (by omega) (by omega), zb_s]
            · rw [C3 σ h K N i hi, zlet_eq, if_pos (show nI ([] : zST).length ≤ (0 : Int32) by decide)]
              rfl
          | cons x r =>
            obtain ⟨q, sv⟩ := x
            refine fin_ B hp (stE W hWc B hp hz w tb (by rw [List.length_cons] at hpos; exact hpos) (by have := (Wd2.mp h2).1; omega)) (fun σ h K N i hi => ?_) (fun σ h K N => M3 σ h K N)
            have w3 := w.2.2.1
            rw [List.length_cons] at w3
            rw [C3 σ h K N i hi, zlet_eq, List.length_cons, if_neg (nI_nle (by omega) (by omega))]
        · refine fin_ B hp (bad (J_X11_wants (0 : Int32) (2 : Int32)) wbad) (fun σ h K N i hi => ?_) (fun σ h K N => ?_)
          · rw [chead σ h K N i hi, (isw_ B (by omega) h.1 h.2.2.1 tb1 tb2).2 h0, zb_s, zlet_eq, if_pos rfl, (isw_ B (by omega) h.1 h.2.2.1 tb1 tb2).2 h1, zb_s, if_pos rfl, (isw_ B (by omega) h.1 h.2.2.1 tb1 tb2).2 h2, zb_s, zlet_eq, if_pos rfl]
            rfl
          · rw [nm σ h K N, (name_ B h.1 h.2.1 tb1 tb2).2.2.2 h0 h1 h2, zb_s, m17]
  · refine fin_ B hp (bad (J_X11_wants (0 : Int32) (2 : Int32)) wbad) (fun σ h K N i hi => ?_) (fun σ h K N => ?_)
    · rw [chead σ h K N i hi, isw_n h.2.2.1 hk0 tb3, zb_s, zlet_eq, if_pos rfl, isw_n h.2.2.1 hk0 tb3, zb_s, if_pos rfl, isw_n h.2.2.1 hk0 tb3, zb_s, zlet_eq, if_pos rfl]
      rfl
    · have ne : ¬ nI ((k + 1) % 4) = (1 : Int32) := fun q => by
        have := (nI_eq (a := (k + 1) % 4) (b := 1) (by omega) (by omega)).mp q
        omega
      rw [mhead σ h K N]
      unfold J_X11_readItem
      rw [zlet_eq, h.2.1.2.1, if_neg ne, m17]
/-- all items -/
def zRd (W : zM → zST → List Nat → Prop) (n : Nat) (b : Nat → Nat) (p : Nat) (P : zM) (st : zST) (cur : List Nat) (k s p' v i N M : Nat) : Prop :=
  (∃ (P' : zM) (st' : zST) (cur' : List Nat), wD P' st' cur' ∧ W P' st' cur' ∧ (∀ σ, cI n b p P st cur k s p' v σ → ∃ σ', (∀ K, L_X4_readInto_33 K N (nI i) σ = K σ') ∧ cI n b p P' st' cur' 3 n n 0 σ' ∧ cf2 p σ σ') ∧ ∀ σ, mI n b P st k s p' v σ → ∃ σ', (∀ K, L_X11_program_34 K M σ = K σ') ∧ mI n b P' st' 3 n n 0 σ' ∧ mf2 σ σ') ∨
  ∃ (f fp : Nat) (P' : zM) (st' : zST) (cur' : List Nat), 1 ≤ f ∧ f ≤ 6 ∧ fp ≤ n ∧ wD P' st' cur' ∧ (∀ σ, cI n b p P st cur k s p' v σ → ∃ σ', (∀ K, L_X4_readInto_33 K N (nI i) σ = K σ') ∧ cF σ' f fp ∧ cf2 p σ σ') ∧ ∀ σ, mI n b P st k s p' v σ → ∃ σ', (∀ K, L_X11_program_34 K M σ = K σ') ∧ mF σ' f fp ∧ mD σ'.1 P' st' ∧ mf2 σ σ'
theorem rd_ (W : zM → zST → List Nat → Prop) (hWn : ∀ P st cur t ev, wD P st cur → zpn P < 16 → W P st cur → W (dLn P st t ev) st (cur ++ [zpn P])) (hWp : ∀ P st cur t, wD P st cur → zpq P < 40 → st.length < 4 → 1 ≤ t → W P st cur → W (dLp P st t) ((zpq P, cur) :: st) []) (hWc : ∀ P q sv r cur, wD P ((q, sv) :: r) cur → W P ((q, sv) :: r) cur → W (dCl P q) r (sv ++ dRep (zpte P q) cur)) {n : Nat} {b : Nat → Nat} (B : bT n b) {p : Nat} (hp : p = 3 ∨ p = 33) (hz : zP p = true) : ∀ d k s p' v P st cur i N M, n - s ≤ d → d + 2 ≤ N → d + 2 ≤ M → wD P st cur → W P st cur → tB n k s p' v → 10 * zpq P ≤ s + 4 * st.length → i ≤ s → zRd W n b p P st cur k s p' v i N M := by
  have B1 := B.1
  -- behind a fault, and at the end
  have cst : ∀ (σ : zS) f fp, cF σ f fp → 1 ≤ f → f ≤ 6 → ∀ K N i, L_X4_readInto_33 K (N + 1) (nI i) σ = K σ := by
    intro σ f fp h h1 h6 K N i
    rw [L_X4_readInto_33, zlet_eq, h.1, if_neg (show ¬ nI f = 0 from nI_ne0 (by omega) (by omega))]
    split <;> rfl
  have mst : ∀ (σ : zS) f fp, mF σ f fp → 1 ≤ f → f ≤ 6 → ∀ K N, L_X11_program_34 K (N + 1) σ = K σ := by
    intro σ f fp h h1 h6 K N
    rw [L_X11_program_34, zlet_eq, h.1, if_neg (show ¬ nI f = 0 from nI_ne0 (by omega) (by omega))]
  have fin : ∀ s p' v P st cur i N M, wD P st cur → W P st cur → tB n 3 s p' v → zRd W n b p P st cur 3 s p' v i (N + 1) (M + 1) := by
    rintro s p' v P st cur i N M w hw ⟨t1, t2, t3, t4, t5, t6⟩
    have e1 := t4 rfl
    left
    refine ⟨P, st, cur, w, hw, ?_, ?_⟩
    · rintro σ ⟨t, hr, c, d⟩
      refine ⟨σ, fun K => ?_, ⟨t, hr, ⟨c.1, c.2.1, by rw [← e1]; exact c.2.2.1, by rw [show n = p' by omega]; exact c.2.2.2.1, fun q => by omega⟩, d⟩, cf2_r p σ⟩
      rw [L_X4_readInto_33, zlet_eq, c.1, if_pos (show nI 0 = 0 from rfl), c.2.1, if_pos (show nI 3 = 3 from rfl)]
      split <;> rfl
    · rintro σ ⟨t, c, d⟩
      refine ⟨σ, fun K => ?_, ⟨t, ⟨c.1, c.2.1, by rw [← e1]; exact c.2.2.1, by rw [show n = p' by omega]; exact c.2.2.2.1, fun q => by omega⟩, d⟩, mf2_r σ⟩
      rw [L_X11_program_34, zlet_eq, c.1, if_pos (show nI 0 = 0 from rfl), c.2.1, if_pos (show nI ((3 + 1) % 4) = 0 from rfl)]
  intro d
  induction d with
  | zero =>
    intro k s p' v P st cur i N M hd hN hM w hw tb pos hi
    obtain ⟨N, rfl⟩ : ∃ x, N = x + 1 := ⟨N - 1, by omega⟩
    obtain ⟨M, rfl⟩ : ∃ x, M = x + 1 := ⟨M - 1, by omega⟩
    by_cases hk : k = 3
    · subst hk
      exact fin s p' v P st cur i N M w hw tb
    · have := tb.2.2.2.2.1 hk
      have := tb.2.1
      omega
  | succ d ih =>
    intro k s p' v P st cur i N M hd hN hM w hw tb pos hi
    obtain ⟨N, rfl⟩ : ∃ x, N = x + 1 := ⟨N - 1, by omega⟩
    obtain ⟨M, rfl⟩ : ∃ x, M = x + 1 := ⟨M - 1, by omega⟩
    by_cases hk : k = 3
    · subst hk
      exact fin s p' v P st cur i N M w hw tb
    · have sn : s ≤ n := Nat.le_trans tb.1 tb.2.1
      rcases it_ W hWn hWp hWc B hp hz w tb pos hk with ⟨P', st', cur', k', s2, p2, v2, w', hw', T', ss, pos', C, M'⟩ | ⟨f, fp, P', st', cur', F1, F2, F3, w', C, M'⟩
      · rcases ih k' s2 p2 v2 P' st' cur' (i + 1) N M (by omega) (by omega) (by omega) w' (hw' hw) T' pos' (by omega) with ⟨P3, st3, cur3, g1, g2, g3, g4⟩ | ⟨f, fp, P3, st3, cur3, g1, g2, g3, g4, g5, g6⟩
        · left
          refine ⟨P3, st3, cur3, g1, g2, fun σ h => ?_, fun σ h => ?_⟩
          · obtain ⟨σ1, x1, x2, x3⟩ := C σ h
            obtain ⟨σ2, y1, y2, y3⟩ := g3 σ1 x2
            exact ⟨σ2, fun K => by rw [x1 K N i (by omega), y1], y2, cf2_t x3 y3⟩
          · obtain ⟨σ1, x1, x2, x3⟩ := M' σ h
            obtain ⟨σ2, y1, y2, y3⟩ := g4 σ1 x2
            exact ⟨σ2, fun K => by rw [x1 K M, y1], y2, mf2_t x3 y3⟩
        · right
          refine ⟨f, fp, P3, st3, cur3, g1, g2, g3, g4, fun σ h => ?_, fun σ h => ?_⟩
          · obtain ⟨σ1, x1, x2, x3⟩ := C σ h
            obtain ⟨σ2, y1, y2, y3⟩ := g5 σ1 x2
            exact ⟨σ2, fun K => by rw [x1 K N i (by omega), y1], y2, cf2_t x3 y3⟩
          · obtain ⟨σ1, x1, x2, x3⟩ := M' σ h
            obtain ⟨σ2, y1, y2, y3, y4⟩ := g6 σ1 x2
            exact ⟨σ2, fun K => by rw [x1 K M, y1], y2, y3, mf2_t x3 y4⟩
      · right
        obtain ⟨N, rfl⟩ : ∃ x, N = x + 1 := ⟨N - 1, by omega⟩
        obtain ⟨M, rfl⟩ : ∃ x, M = x + 1 := ⟨M - 1, by omega⟩
        refine ⟨f, fp, P', st', cur', F1, F2, F3, w', fun σ h => ?_, fun σ h => ?_⟩
        · obtain ⟨σ1, x1, x2, x3⟩ := C σ h
          exact ⟨σ1, fun K => by rw [x1 K (N + 1) i (by omega), cst σ1 f fp x2 F1 F2], x2, x3⟩
        · obtain ⟨σ1, x1, x2, x3, x4⟩ := M' σ h
          exact ⟨σ1, fun K => by rw [x1 K (M + 1), mst σ1 f fp x2 F1 F2], x2, x3, x4⟩
