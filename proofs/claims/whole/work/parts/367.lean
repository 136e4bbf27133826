set_option maxRecDepth 8000
theorem cD_ev {I J : zI} {p t : Nat} {P : zM} {st : zST} {cur : List Nat} {ev ev' : Nat → Nat} (hn : zpn P < 16) (w7 : dSk P st) (c : cD I p (dLn P st t ev) st cur) (h : ∀ c i, ¬ (c = p + 4 + 1 + zpn P) → J c i = I c i) (he : ∀ e, e < 8 → J (p + 4 + 1 + zpn P) e = nI (ev' e)) : cD J p (dLn P st t ev') st cur := by
  obtain ⟨f1, f2, f3, ⟨f4, f5, f6, f7, f8, f9⟩, fl, ⟨fte, fad, fco, ffi, fbe, fou, frs⟩, -⟩ := Ln_f (P := P) (st := st) (t := t) (ev := ev) (by omega)
  obtain ⟨g1, g2, g3, ⟨g4, g5, g6, g7, g8, g9⟩, gl, ⟨gte, gad, gco, gfi, gbe, gou, grs⟩, -⟩ := Ln_f (P := P) (st := st) (t := t) (ev := ev') (by omega)
  have r1 : dRp (dLn P st t ev) st = dRp P st := dRp_cg (fun q _ => by rw [fte]) st w7
  have r2 : dRp (dLn P st t ev') st = dRp P st := dRp_cg (fun q _ => by rw [gte]) st w7
  obtain ⟨c1, c2, c3, c4, c5, c6, c7, s, c8, c9, c10, c11, c12⟩ := c
  rw [f1] at c1 c5
  rw [f2] at c2 c6
  rw [r1] at c4
  refine ⟨?_, ?_, ?_, ?_, fun l hl => ?_, fun q hq => ?_, ?_, s, c8, ?_, fun q => ?_, fun q => ?_, ?_⟩
  · rw [h _ _ (by omega), g1]; exact c1
  · rw [h _ _ (by omega), g2]; exact c2
  · rw [h _ _ (by omega)]; exact c3
  · rw [h _ _ (by omega), r2]; exact c4
  · rw [g1] at hl
    obtain ⟨d1, d2, d3, d4⟩ := c5 l hl
    by_cases e : l = zpn P
    · subst e
      refine ⟨?_, ?_, ?_, fun e he' => ?_⟩
      · rw [h _ _ (by omega), d1, f4, g4]
      · rw [h _ _ (by omega), d2, f5, g5]
      · rw [h _ _ (by omega), d3, f6, g6]
      · rw [he e he', g9]
    · obtain ⟨x1, x2, x3, x4, x5, x6⟩ := fl l e
      obtain ⟨y1, y2, y3, y4, y5, y6⟩ := gl l e
      refine ⟨?_, ?_, ?_, fun e he' => ?_⟩
      · rw [h _ _ (by omega), d1, x1, y1]
      · rw [h _ _ (by omega), d2, x2, y2]
      · rw [h _ _ (by omega), d3, x3, y3]
      · rw [h _ _ (by omega), d4 e he', x6, y6]
  · rw [g2] at hq
    obtain ⟨d1, d2, d3, d4, d5⟩ := c6 q hq
    rw [fte] at d1
    rw [fad] at d2
    rw [fco] at d3
    rw [ffi] at d4
    rw [fbe] at d5
    rw [gte, gad, gco, gfi, gbe, h _ _ (by omega), h _ _ (by omega), h _ _ (by omega), h _ _ (by omega), h _ _ (by omega)]
    exact ⟨d1, d2, d3, d4, d5⟩
  · exact cOp_lt (I := I) st _ (Nat.le_refl _) (fun k _ => h _ _ (by omega)) c7
  · rw [h _ _ (by omega)]; exact c9
  · obtain ⟨a, b, d⟩ := c10 q
    exact ⟨a, by rw [h _ _ (by omega)]; exact b, fun i hi => by rw [h _ _ (by omega)]; exact d i hi⟩
  · rw [h _ _ (by omega)]; exact c11 q
  · exact cFs_cg (I := I) (fun q => h _ _ (by omega)) (Nat.le_refl _) id st c12
/-- an event's number is set -/
theorem caE {p m e : Nat} {σ : zS} (v : Int32) (h0 : σ.1 p 0 = nI (m + 1)) (hm : m < 16) (he : e < 8) : ∃ σ', J_X3_setEvent p (nI e) v σ = some σ' ∧ σ'.2 = σ.2 ∧ (∀ c i, ¬ (c = p + 4 + 1 + m ∧ i = e) → σ'.1 c i = σ.1 c i) ∧ σ'.1 (p + 4 + 1 + m) e = v := by
  have p1 : nI (m + 1) - 1 = nI m := nI_pred m
  refine ⟨zsI σ (p + 4 + 1 + m) e v, ?_, rfl, fun c i hc => zI_n hc, zI_y⟩
  unfold J_X3_setEvent
  rw [h0, if_neg (nI_nle (by omega) (by omega)), p1, zi_nI (by omega) (by omega), zg_t, zi_nI (by omega) (by omega), zg_t, zcla (by omega), zcla (by omega), zlet_eq]
theorem coL {p t : Nat} {P : zM} {st : zST} {cur : List Nat} {σ : zS} (w : wD P st cur) (hq : zpq P < 40) (hs : st.length < 4) (c : cD σ.1 p P st cur) : ∃ σ', J_X3_openLoop p (nI t) σ = some σ' ∧ cD σ'.1 p (dLp P st t) ((zpq P, cur) :: st) [] ∧ pfr p σ σ' := by
  obtain ⟨c1, c2, c3, c4, c5, c6, c7, s, c8, c9, c10, c11, c12⟩ := c
  obtain ⟨f1, f2, f3, ⟨f4, f5, f6, f7, f8, f9, f10⟩, fq, ⟨ftk, ftm, fin, fpa, fc, fev⟩, -⟩ := Lp_f (P := P) (st := st) (t := t)
  have w7 := w.2.2.2.2.2.2.1
  have rp : dRp (dLp P st t) st = dRp P st := dRp_cg (fun q h => (fq q (Nat.ne_of_lt h)).1) st w7
  have m4 : nI (dRp P st) * nI t = nI (t * dRp P st) := by rw [Nat.mul_comm]; exact pk_mul _ _
  have t4 : nI (zpq P) + 1 = nI (zpq P + 1) := nI_add _ 1
  have d4 : nI st.length + 1 = nI (st.length + 1) := nI_add _ 1
  obtain ⟨τ, hτ⟩ : ∃ τ, τ = zsI (zsI (zsI (zsI (zsI (zsI (zsI (zsI (zsI (zsI σ (p + 21) (zpq P) (nI t)) (p + 22) (zpq P) (nI st.length)) (p + 23) (zpq P) (nI (dRp P st))) (p + 24) (zpq P) (nI (zpn P))) (p + 25) (zpq P) (nI (zpn P))) (p + 26) (zpq P) (nI s)) (p + 27) st.length (nI (zpq P))) p 13 (nI (st.length + 1))) p 14 (nI (t * dRp P st))) p 5 (nI (zpq P + 1)) := ⟨_, rfl⟩
  have E : J_X3_openLoop p (nI t) σ = some τ := by
    unfold J_X3_openLoop
    rw [c2, if_neg (show ¬ (40 : Int32) ≤ nI (zpq P) from nI_ge (b := 40) hq (by omega)), c3, if_pos (show nI st.length < (4 : Int32) from nI_lt (b := 4) hs (by omega))]
    simp (disch := omega) only [zlet_eq, zi_nI, zg_t, zcla, zI_n, zI_y, c1, c2, c3, c4, c9, m4, t4, d4]
    rw [hτ]
  have o : ∀ c i, ¬ (21 + p ≤ c ∧ c ≤ p + 26 ∧ i = zpq P) → ¬ (c = p + 27 ∧ i = st.length) → ¬ (c = p ∧ (i = 5 ∨ i = 13 ∨ i = 14)) → τ.1 c i = σ.1 c i := fun c i h1 h2 h3 => by
    rw [hτ]
    simp (disch := omega) only [zI_n]
  refine ⟨τ, E, ⟨?_, ?_, ?_, ?_, fun l hl => ?_, fun q hq' => ?_, ⟨?_, ?_⟩, s, c8, ?_, fun h => ?_, fun h => ?_, ⟨s, ?_, Nat.le_refl _, fun h => ?_⟩, ?_⟩, by rw [hτ]; rfl, fun c i hc => o c i (by omega) (by omega) (by omega)⟩
  · rw [o _ _ (by omega) (by omega) (by omega), f1]; exact c1
  · rw [hτ, zI_y, f2]
  · rw [hτ, List.length_cons]
    simp (disch := omega) only [zI_n, zI_y]
  · show _ = nI (zpte (dLp P st t) (zpq P) * dRp (dLp P st t) st)
    rw [f4, rp, hτ]
    simp (disch := omega) only [zI_n, zI_y]
  · rw [f1] at hl
    obtain ⟨d1, d2, d3, d4⟩ := c5 l hl
    rw [ftk, ftm, fin]
    refine ⟨?_, ?_, ?_, fun e he => ?_⟩
    · rw [o _ _ (by omega) (by omega) (by omega)]; exact d1
    · rw [o _ _ (by omega) (by omega) (by omega)]; exact d2
    · rw [o _ _ (by omega) (by omega) (by omega)]; exact d3
    · rw [fev, o _ _ (by have := w.1; omega) (by have := w.1; omega) (by omega)]; exact d4 e he
  · by_cases e : q = zpq P
    · subst e
      rw [f4, f5, f6, f7, f8, hτ]
      simp (disch := omega) only [zI_n, zI_y, and_self]
    · rw [f2] at hq'
      obtain ⟨g1, g2, g3, g4, g5, g6, g7⟩ := fq q e
      obtain ⟨d1, d2, d3, d4, d5⟩ := c6 q (by omega)
      rw [g1, g2, g3, g4, g5, o _ _ (by omega) (by omega) (by omega), o _ _ (by omega) (by omega) (by omega), o _ _ (by omega) (by omega) (by omega), o _ _ (by omega) (by omega) (by omega), o _ _ (by omega) (by omega) (by omega)]
      exact ⟨d1, d2, d3, d4, d5⟩
  · rw [hτ]
    simp (disch := omega) only [zI_n, zI_y]
  · exact cOp_lt (I := σ.1) st st.length (Nat.le_refl _) (fun k hk => o _ _ (by omega) (by omega) (by omega)) c7
  · rw [o _ _ (by omega) (by omega) (by omega)]; exact c9
  · have h' : (dFl st (cur ++ [])).length ≤ 6000 := h
    rw [List.append_nil] at h'
    obtain ⟨a, b, d⟩ := c10 h'
    have fle : dFl ((zpq P, cur) :: st) [] = dFl st cur := by
      show dFl st (cur ++ []) = _
      rw [List.append_nil]
    rw [fle]
    exact ⟨a, by rw [o _ _ (by omega) (by omega) (by omega)]; exact b, fun i hi => by rw [o _ _ (by omega) (by omega) (by omega)]; exact d i hi⟩
  · have h' : 6000 < (dFl st (cur ++ [])).length := h
    rw [List.append_nil] at h'
    rw [o _ _ (by omega) (by omega) (by omega)]
    exact c11 h'
  · rw [hτ]
    simp (disch := omega) only [zI_n, zI_y]
  · have h' : (dFl st (cur ++ [])).length ≤ 6000 := h
    rw [List.append_nil] at h'
    exact (c10 h').1
  · refine cFs_lt (I := σ.1) (P := P) (fun q hq => o _ _ (by omega) (by omega) (by omega)) (Nat.le_refl _) (fun h => ?_) st w7 c12
    have h' : (dFl st (cur ++ [])).length ≤ 6000 := h
    rw [List.append_nil] at h'
    exact h'
/-- the steps behind a loop's beginning once more, so often as it tells -/
theorem rs34 {p B V : Nat} (hV : V ≤ 6000) : ∀ q i N σ, i + q = V → q < N → B ≤ i → ∃ σ', L_X3_repeatSteps_34 p (nI B) (nI V) N (nI i) σ = some σ' ∧ σ'.2 = σ.2 ∧ (∀ c j, ¬ (c = p + 28) → ¬ (c = p ∧ j = 15) → σ'.1 c j = σ.1 c j) ∧ σ'.1 p 15 = nI V ∧ ∀ g : Nat → Nat, (∀ j, j < V → g j < 128) → (∀ j, i ≤ j → j < V → g j = g (j - B)) → (0 < B ∨ i = V) → (∀ j, j < i → σ.1 (p + 28) j = nI (g j)) → ∀ j, j < V → σ'.1 (p + 28) j = nI (g j) := by
  intro q
  induction q with
  | zero =>
    intro i N σ h hN hB
    cases N with
    | zero => omega
    | succ N =>
      obtain rfl : i = V := by omega
      refine ⟨zsI σ p 15 (nI i), ?_, rfl, fun c j h1 h2 => zI_n h2, zI_y, fun g g1 g2 _ g3 j hj => by rw [zI_n (by omega)]; exact g3 j hj⟩
      rw [L_X3_repeatSteps_34, zlet_eq, if_pos (nI_le (Nat.le_refl _) (by omega)), zlet_eq]
  | succ q ih =>
    intro i N σ h hN hB
    cases N with
    | zero => omega
    | succ N =>
      have t4 : nI i + 1 = nI (i + 1) := nI_add i 1
      have sb : nI i - nI B = nI (i - B) := pk_sub hB
      obtain ⟨σ', e1, e2, e3, e4, e5⟩ := ih (i + 1) N (zsI σ (p + 28) i (vp_nar .byte (σ.1 (p + 28) (i - B)))) (by omega) (by omega) (by omega)
      refine ⟨σ', ?_, e2, fun c j h1 h2 => by rw [e3 c j h1 h2, zI_n (by omega)], e4, fun g g1 g2 hB0 g3 j hj => ?_⟩
      · rw [L_X3_repeatSteps_34, zlet_eq, if_neg (nI_ge (by omega) (by omega)), sb, zi_nI (by omega) (by omega), zg_t, zi_nI (by omega) (by omega), zg_t, zcla (by omega), zcla (by omega), zlet_eq, t4, zlet_eq]
        exact e1
      · refine e5 g g1 (fun j h1 h2 => g2 j (by omega) h2) (Or.inl (by omega)) (fun j hj => ?_) j hj
        by_cases ej : j = i
        · rw [ej, zI_y, g3 (i - B) (by omega), byN (g1 _ (by omega)), ← g2 i (Nat.le_refl _) (by omega)]
        · rw [zI_n (by omega)]
          exact g3 j (by omega)
theorem ccL {p q : Nat} {P : zM} {sv : List Nat} {st : zST} {cur : List Nat} {σ : zS} (w : wD P ((q, sv) :: st) cur) (c : cD σ.1 p P ((q, sv) :: st) cur) : ∃ σ', J_X3_closeLoop p σ = some σ' ∧ cD σ'.1 p (dCl P q) st (sv ++ dRep (zpte P q) cur) ∧ pfr p σ σ' := by
  obtain ⟨c1, c2, c3, c4, c5, c6, ⟨c7, c7'⟩, s, c8, c9, c10, c11, ⟨f, c12, c13, c14⟩, c15⟩ := c
  obtain ⟨f1, f2, f3, f4, f5, f6, ⟨fte, fad, fco, ffi, fou, frs⟩, ⟨ftk, ftm, fin, fpa, fev⟩, -⟩ := Cl_f (P := P) (q := q)
  obtain ⟨w1, w2, w3, w4, w5, w6, w7, w8, w9⟩ := w
  obtain ⟨k1, k2, k3, k4⟩ := w7
  have k1' : q < zpq P := k1
  have k2' : zpou P q = dHd st := k2
  rw [List.length_cons] at w3 w4 c3
  obtain ⟨q1, q2, q3, q4, q5, q6, q7, q8⟩ := w6 q k1'
  obtain ⟨d1, d2, d3, d4, d5⟩ := c6 q k1'
  have rp : dRp (dCl P q) st = dRp P st := dRp_cg (fun q _ => by rw [fte]) st k4
  have co : zpco P q = dRp P st := by rw [q7, k2', st_p st 41 k4 (by omega)]
  rw [co] at d3
  have pm : nI (st.length + 1) - 1 = nI st.length := nI_pred _
  obtain ⟨σ8, h8⟩ : ∃ σ8, σ8 = zsI (zsI (zsI σ p 13 (nI st.length)) p 14 (nI (dRp P st))) (p + 25) q (nI (zpn P)) := ⟨_, rfl⟩
  have E : J_X3_closeLoop p σ = zb (J_X3_repeatSteps p (nI f) (nI (zpte P q)) σ8) fun σ12 => some σ12 := by
    unfold J_X3_closeLoop
    rw [c3, if_pos (show (1 : Int32) ≤ nI (st.length + 1) from nI_le (a := 1) (by omega) (by omega)), pm]
    have c7x : σ.1 (p + 27) st.length = nI q := c7
    have c12x : σ.1 (p + 26) q = nI f := c12
    simp (disch := omega) only [zlet_eq, zi_nI, zg_t, zcla, zI_n, zI_y, c7x, d3, c1, c12x, d1]
    rw [h8]
  have o : ∀ c i, ¬ (c = p ∧ (i = 13 ∨ i = 14)) → ¬ (c = p + 25 ∧ i = q) → σ8.1 c i = σ.1 c i := fun c i h1 h2 => by
    rw [h8]
    simp (disch := omega) only [zI_n]
  have x15 : σ8.1 p 15 = nI s := by rw [o _ _ (by omega) (by omega)]; exact c9
  have bl : nI s - nI f = nI (s - f) := pk_sub c13
  have b2 : nI f + nI (s - f) * nI (zpte P q) = nI (f + (s - f) * zpte P q) := by rw [pk_mul, nI_add]
  have bb : (s - f) * zpte P q ≤ 6000 * 99 := Nat.mul_le_mul (by omega) q2
  have bge : s - f ≤ (s - f) * zpte P q := Nat.le_mul_of_pos_right _ (by omega)
  have fo : dFl ((q, sv) :: st) cur = dFl st sv ++ cur := by
    show dFl st (sv ++ cur) = _
    rw [dFl_a]
  have fn : dFl st (sv ++ dRep (zpte P q) cur) = dFl st sv ++ dRep (zpte P q) cur := dFl_a _ _ _
  obtain ⟨T, hT⟩ : ∃ T, zpte P q = T + 1 := ⟨zpte P q - 1, by omega⟩
  have fn2 : dFl st (sv ++ dRep (zpte P q) cur) = dFl ((q, sv) :: st) cur ++ dRep T cur := by
    rw [fn, fo, hT, List.append_assoc]
    rfl
  have len2 : (dFl st (sv ++ dRep (zpte P q) cur)).length = (dFl ((q, sv) :: st) cur).length + T * cur.length := by rw [fn2, List.length_append, dRep_l]
  have leno : (dFl ((q, sv) :: st) cur).length = (dFl st sv).length + cur.length := by rw [fo, List.length_append]
  have mono : (dFl st (sv ++ dRep (zpte P q) cur)).length ≤ 6000 → (dFl ((q, sv) :: st) cur).length ≤ 6000 := fun h => by omega
  -- what the end of the steps comes to, if all are there
  have Vok : (dFl ((q, sv) :: st) cur).length ≤ 6000 → f + (s - f) * zpte P q = (dFl st (sv ++ dRep (zpte P q) cur)).length := by
    intro h
    have a := (c10 h).1
    have b : f = (dFl st sv).length := c14 h
    have e : s - f = cur.length := by omega
    rw [len2, leno, e, hT, Nat.mul_succ, b, Nat.mul_comm cur.length T]
    omega
  -- the cells of all but the steps
  have rest : ∀ J : zI, (∀ c j, ¬ (c = p + 28) → ¬ (c = p ∧ (j = 15 ∨ j = 16)) → J c j = σ8.1 c j) → cSt J p st (sv ++ dRep (zpte P q) cur) → cD J p (dCl P q) st (sv ++ dRep (zpte P q) cur) := by
    intro J hJ hS
    refine ⟨?_, ?_, ?_, ?_, fun l hl => ?_, fun x hx => ?_, ?_, hS⟩
    · rw [hJ _ _ (by omega) (by omega), o _ _ (by omega) (by omega), f1]; exact c1
    · rw [hJ _ _ (by omega) (by omega), o _ _ (by omega) (by omega), f2]; exact c2
    · rw [hJ _ _ (by omega) (by omega), h8]
      simp (disch := omega) only [zI_n, zI_y]
    · rw [hJ _ _ (by omega) (by omega), h8, rp]
      simp (disch := omega) only [zI_n, zI_y]
    · rw [f1] at hl
      obtain ⟨g1, g2, g3, g4⟩ := c5 l hl
      rw [ftk, ftm, fin, hJ _ _ (by omega) (by omega), hJ _ _ (by omega) (by omega), hJ _ _ (by omega) (by omega), o _ _ (by omega) (by omega), o _ _ (by omega) (by omega), o _ _ (by omega) (by omega)]
      exact ⟨g1, g2, g3, fun e he => by rw [fev, hJ _ _ (by omega) (by omega), o _ _ (by omega) (by omega)]; exact g4 e he⟩
    · rw [f2] at hx
      obtain ⟨g1, g2, g3, g4, g5⟩ := c6 x hx
      rw [fte, fad, fco, ffi, hJ _ _ (by omega) (by omega), hJ _ _ (by omega) (by omega), hJ _ _ (by omega) (by omega), hJ _ _ (by omega) (by omega), hJ _ _ (by omega) (by omega), o _ _ (by omega) (by omega), o _ _ (by omega) (by omega), o _ _ (by omega) (by omega), o _ _ (by omega) (by omega)]
      refine ⟨g1, g2, g3, g4, ?_⟩
      by_cases e : x = q
      · rw [e, f4, h8, zI_y]
      · rw [o _ _ (by omega) (by omega), f5 x e]
        exact g5
    · exact cOp_lt (I := σ.1) st _ (Nat.le_refl _) (fun k _ => by rw [hJ _ _ (by omega) (by omega), o _ _ (by omega) (by omega)]) c7'
  have fs : ∀ (J : zI) s', (∀ c j, ¬ (c = p + 28) → ¬ (c = p ∧ (j = 15 ∨ j = 16)) → J c j = σ8.1 c j) → s ≤ s' → cFs J p s' ((dFl st (sv ++ dRep (zpte P q) cur)).length ≤ 6000) st := fun J s' hJ hs => cFs_cg (I := σ.1) (fun x => by rw [hJ _ _ (by omega) (by omega), o _ _ (by omega) (by omega)]) hs mono st c15
  rw [E]
  unfold J_X3_repeatSteps
  rw [x15, bl, zlet_eq, b2, zlet_eq]
  by_cases hV : f + (s - f) * zpte P q ≤ 6000
  · rw [if_pos (show nI (f + (s - f) * zpte P q) ≤ (6000 : Int32) from nI_le (b := 6000) hV (by omega)), zlet_eq]
    obtain ⟨σ', r1, r2, r3, r4, r5⟩ := rs34 (p := p) (B := s - f) hV (f + (s - f) * zpte P q - s) s 4294967296 σ8 (by omega) (by omega) (by omega)
    rw [r1, zb_s]
    have J1 : ∀ c j, ¬ (c = p + 28) → ¬ (c = p ∧ (j = 15 ∨ j = 16)) → σ'.1 c j = σ8.1 c j := fun c j h1 h2 => r3 c j h1 (by omega)
    refine ⟨σ', rfl, rest _ J1 ⟨_, hV, r4, fun h => ?_, fun h => ?_, fs _ _ J1 (by omega)⟩, r2.trans (by rw [h8]; rfl), fun c i hc => by rw [r3 _ _ (by omega) (by omega), o _ _ (by omega) (by omega)]⟩
    · have hk := mono h
      obtain ⟨a1, a2, a3⟩ := c10 hk
      have b : f = (dFl st sv).length := c14 hk
      have e : s - f = cur.length := by omega
      refine ⟨Vok hk, ?_, fun i hi => ?_⟩
      · rw [r3 _ _ (by omega) (by omega), o _ _ (by omega) (by omega)]; exact a2
      · have vk := Vok hk
        refine r5 (fun j => (dFl st (sv ++ dRep (zpte P q) cur)).getD j 0) (fun j hj => ?_) (fun j h1 h2 => ?_) ?_ (fun j hj => ?_) i hi
        · have mem := gd_m (a := dFl st (sv ++ dRep (zpte P q) cur)) (i := j) (by omega)
          rw [fn] at mem
          have : (dFl st sv ++ dRep (zpte P q) cur).getD j 0 < zpn P := by
            rcases List.mem_append.mp mem with m | m
            · exact w9 _ (by rw [fo]; exact List.mem_append.mpr (Or.inl m))
            · exact w9 _ (by rw [fo]; exact List.mem_append.mpr (Or.inr (dRep_m _ m)))
          show (dFl st (sv ++ dRep (zpte P q) cur)).getD j 0 < 128
          rw [fn]
          omega
        · show (dFl st (sv ++ dRep (zpte P q) cur)).getD j 0 = (dFl st (sv ++ dRep (zpte P q) cur)).getD (j - (s - f)) 0
          have jl : j - (dFl st sv).length - cur.length < (dRep T cur).length := by rw [dRep_l]; omega
          have e1 : (dFl st (sv ++ dRep (zpte P q) cur)).getD j 0 = (dRep T cur).getD (j - (dFl st sv).length - cur.length) 0 := by
            rw [fn2, gd_r (by omega), leno]
            congr 1
            omega
          have e2 : (dFl st (sv ++ dRep (zpte P q) cur)).getD (j - (s - f)) 0 = (dRep T cur).getD (j - (dFl st sv).length - cur.length) 0 := by
            rw [fn, gd_r (by omega), hT, dRep_s, gd_l (by omega)]
            congr 1
            omega
          rw [e1, e2]
        · rcases Nat.eq_zero_or_pos (s - f) with z | z
          · right
            rw [z, Nat.zero_mul]
            omega
          · exact Or.inl z
        · rw [o _ _ (by omega) (by omega), a3 j hj, fn2, gd_l (by omega)]
    · rw [r3 _ _ (by omega) (by omega), o _ _ (by omega) (by omega)]
      rcases Nat.lt_or_ge 6000 (dFl ((q, sv) :: st) cur).length with z | z
      · exact c11 z
      · have := Vok z
        omega
  · rw [if_neg (show ¬ nI (f + (s - f) * zpte P q) ≤ (6000 : Int32) from nI_ge (a := 6000) (by omega) (by omega)), zlet_eq, zb_s]
    have J1 : ∀ c j, ¬ (c = p + 28) → ¬ (c = p ∧ (j = 15 ∨ j = 16)) → (zsI σ8 p 16 (1 : Int32)).1 c j = σ8.1 c j := fun c j h1 h2 => zI_n (by omega)
    refine ⟨_, rfl, rest _ J1 ⟨s, c8, by rw [zI_n (by omega)]; exact x15, fun h => ?_, fun _ => zI_y, fs _ _ J1 (Nat.le_refl _)⟩, by rw [h8]; rfl, fun c i hc => by rw [zI_n (by omega), o _ _ (by omega) (by omega)]⟩
    have := Vok (mono h)
    omega
