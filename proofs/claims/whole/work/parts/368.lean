set_option maxRecDepth 8000
/-! ===== the reference's draft ===== -/
theorem cD_cg {I J : zI} {p : Nat} {P : zM} {st : zST} {cur : List Nat} (hn : zpn P ≤ 16) (h : ∀ c i, p ≤ c → c < p + 30 → J c i = I c i) (c : cD I p P st cur) : cD J p P st cur := by
  obtain ⟨c1, c2, c3, c4, c5, c6, c7, s, c8, c9, c10, c11, c12⟩ := c
  refine ⟨?_, ?_, ?_, ?_, fun l hl => ?_, fun q hq => ?_, ?_, s, c8, ?_, fun q => ?_, fun q => ?_, ?_⟩
  · rw [h _ _ (by omega) (by omega)]; exact c1
  · rw [h _ _ (by omega) (by omega)]; exact c2
  · rw [h _ _ (by omega) (by omega)]; exact c3
  · rw [h _ _ (by omega) (by omega)]; exact c4
  · obtain ⟨d1, d2, d3, d4⟩ := c5 l hl
    rw [h _ _ (by omega) (by omega), h _ _ (by omega) (by omega), h _ _ (by omega) (by omega)]
    exact ⟨d1, d2, d3, fun e he => by rw [h _ _ (by omega) (by omega)]; exact d4 e he⟩
  · rw [h _ _ (by omega) (by omega), h _ _ (by omega) (by omega), h _ _ (by omega) (by omega), h _ _ (by omega) (by omega), h _ _ (by omega) (by omega)]
    exact c6 q hq
  · exact cOp_lt (I := I) st _ (Nat.le_refl _) (fun k _ => h _ _ (by omega) (by omega)) c7
  · rw [h _ _ (by omega) (by omega)]; exact c9
  · obtain ⟨a, b, d⟩ := c10 q
    exact ⟨a, by rw [h _ _ (by omega) (by omega)]; exact b, fun i hi => by rw [h _ _ (by omega) (by omega)]; exact d i hi⟩
  · rw [h _ _ (by omega) (by omega)]; exact c11 q
  · exact cFs_cg (I := I) (fun q => h _ _ (by omega) (by omega)) (Nat.le_refl _) id st c12
def mOp (I : zI) : zST → Prop
  | [] => True
  | (q, _) :: r => I 118 r.length = nI q ∧ mOp I r
def mD (I : zI) (P : zM) (st : zST) : Prop := I 105 11 = nI (zpn P) ∧ I 105 15 = nI (zpq P) ∧ I 105 19 = nI st.length ∧ I 105 23 = nI (zprl P) ∧ (∀ l, l < zpn P → I 113 l = nI (zptk P l) ∧ I 115 l = zco (zpar P l) ∧ ∀ e, e < 8 → I 114 (8 * l + e) = nI (zpev P l e)) ∧ (∀ q, q < zpq P → I 116 q = nI (zpte P q) ∧ I 117 q = zco (zpou P q)) ∧ mOp I st ∧ ∀ k, k < zprl P → I 120 k = nI (zprw P k)
def cf2 (p : Nat) (σ σ' : zS) : Prop := σ'.2 = σ.2 ∧ ∀ c i, ¬ (c = 63 ∧ 2 ≤ i ∧ i ≤ 7) → ¬ (p ≤ c ∧ c < p + 30) → σ'.1 c i = σ.1 c i
def mf2 (σ σ' : zS) : Prop := σ'.2 = σ.2 ∧ ∀ c i, ¬ (c = 105 ∧ (i = 11 ∨ i = 15 ∨ i = 19 ∨ i = 23 ∨ (26 ≤ i ∧ i ≤ 31))) → ¬ (113 ≤ c ∧ c ≤ 118) → ¬ c = 120 → σ'.1 c i = σ.1 c i
theorem cf2_r (p : Nat) (σ : zS) : cf2 p σ σ := ⟨rfl, fun _ _ _ _ => rfl⟩
theorem cf2_t {p : Nat} {a b c : zS} (h : cf2 p a b) (g : cf2 p b c) : cf2 p a c := ⟨g.1.trans h.1, fun x y q r => (g.2 x y q r).trans (h.2 x y q r)⟩
theorem cf2_c {p : Nat} {a b : zS} (h : cfr a b) : cf2 p a b := ⟨h.1, fun x y q _ => h.2 x y q⟩
theorem cf2_p {p : Nat} {a b : zS} (h : pfr p a b) : cf2 p a b := ⟨h.1, fun x y _ q => h.2 x y q⟩
theorem mf2_r (σ : zS) : mf2 σ σ := ⟨rfl, fun _ _ _ _ _ => rfl⟩
theorem mf2_t {a b c : zS} (h : mf2 a b) (g : mf2 b c) : mf2 a c := ⟨g.1.trans h.1, fun x y q r s => (g.2 x y q r s).trans (h.2 x y q r s)⟩
theorem mf2_m {a b : zS} (h : mfr a b) : mf2 a b := ⟨h.1, fun x y q _ _ => h.2 x y (by omega)⟩
theorem cT_2 {p : Nat} {σ σ' : zS} {n : Nat} {b : Nat → Nat} (hp : p = 3 ∨ p = 33) (h : cf2 p σ σ') (t : cT σ n b) : cT σ' n b := ⟨by rw [h.2 _ _ (by omega) (by omega)]; exact t.1, fun j hj => by rw [h.2 _ _ (by omega) (by omega)]; exact t.2 j hj⟩
theorem mT_2 {σ σ' : zS} {n : Nat} {b : Nat → Nat} (h : mf2 σ σ') (t : mT σ n b) : mT σ' n b := ⟨by rw [h.2 _ _ (by omega) (by omega) (by omega)]; exact t.1, fun j hj => by rw [h.2 _ _ (by omega) (by omega) (by omega)]; exact t.2 j hj⟩
theorem cD_f {σ σ' : zS} {p : Nat} {P : zM} {st : zST} {cur : List Nat} (hp : p = 3 ∨ p = 33) (hn : zpn P ≤ 16) (h : cfr σ σ') (c : cD σ.1 p P st cur) : cD σ'.1 p P st cur := cD_cg hn (fun x i h1 h2 => h.2 x i (by omega)) c
theorem mOp_lt {I J : zI} : ∀ (st : zST) (m : Nat), st.length ≤ m → (∀ k, k < m → J 118 k = I 118 k) → mOp I st → mOp J st := by
  intro st
  induction st with
  | nil => intro _ _ _ _; trivial
  | cons x r ih =>
    rintro m hm h ⟨a, b⟩
    rw [List.length_cons] at hm
    exact ⟨(h _ (by omega)).trans a, ih m (by omega) h b⟩
theorem mD_cg {I J : zI} {P : zM} {st : zST} (h : ∀ c i, (c = 105 ∧ (i = 11 ∨ i = 15 ∨ i = 19 ∨ i = 23)) ∨ (113 ≤ c ∧ c ≤ 118 ∧ (c = 114 → i < 8 * zpn P)) ∨ c = 120 → J c i = I c i) (c : mD I P st) : mD J P st := by
  obtain ⟨c1, c2, c3, c4, c5, c6, c7, c8⟩ := c
  refine ⟨?_, ?_, ?_, ?_, fun l hl => ?_, fun q hq => ?_, ?_, fun k hk => ?_⟩
  · rw [h _ _ (by omega)]; exact c1
  · rw [h _ _ (by omega)]; exact c2
  · rw [h _ _ (by omega)]; exact c3
  · rw [h _ _ (by omega)]; exact c4
  · obtain ⟨d1, d2, d3⟩ := c5 l hl
    rw [h _ _ (by omega), h _ _ (by omega)]
    exact ⟨d1, d2, fun e he => by rw [h _ _ (by omega)]; exact d3 e he⟩
  · rw [h _ _ (by omega), h _ _ (by omega)]
    exact c6 q hq
  · exact mOp_lt (I := I) st _ (Nat.le_refl _) (fun k _ => h _ _ (by omega)) c7
  · rw [h _ _ (by omega)]; exact c8 k hk
theorem mD_f {σ σ' : zS} {P : zM} {st : zST} (h : mfr σ σ') (c : mD σ.1 P st) : mD σ'.1 P st := mD_cg (fun x i hx => h.2 x i (by omega)) c
theorem zco_hd {st : zST} {I : zI} (h : mOp I st) : (st.length = 0 → zco (dHd st) = -4) ∧ (0 < st.length → I 118 (st.length - 1) = zco (dHd st)) := by
  cases st with
  | nil => exact ⟨fun _ => rfl, fun h => absurd h (by simp)⟩
  | cons x r =>
    refine ⟨fun h => absurd h (by simp), fun _ => ?_⟩
    rw [List.length_cons, Nat.add_sub_cancel]
    exact h.1
/-- a line stands in the reference's draft -/
theorem m67 {t : Nat} {P : zM} {st : zST} {cur : List Nat} {ev : Nat → Nat} {σ σ9 : zS} (w : wD P st cur) (hn : zpn P < 16) (hrl : zprl P < 100) (E : J_X11_readEvents σ = some σ9) (h0 : σ9.1 105 30 = nI 0) (m : mD σ9.1 P st) (he : ∀ e, e < 8 → σ9.1 114 (8 * zpn P + e) = nI (ev e)) : ∃ σ', D_X11_readLine_67 (nI t) σ = some σ' ∧ mD σ'.1 (dLn P st t ev) st ∧ σ'.2 = σ9.2 ∧ (∀ c i, ¬ (c = 105 ∧ (i = 11 ∨ i = 23)) → ¬ (c = 113 ∨ c = 115) → ¬ c = 120 → σ'.1 c i = σ9.1 c i) := by
  obtain ⟨c1, c2, c3, c4, c5, c6, c7, c8⟩ := m
  obtain ⟨f1, f2, f3, ⟨f4, f5, f6, f7, f8, f9⟩, fl, ⟨fte, fad, fco, ffi, fbe, fou, frs⟩, fr1, fr2⟩ := Ln_f (P := P) (st := st) (t := t) (ev := ev) w.1
  have w3 := w.2.2.1
  obtain ⟨z1, z2⟩ := zco_hd c7
  have t4 : nI (zpn P) + 1 = nI (zpn P + 1) := nI_add _ 1
  have r4 : nI (zprl P) + 1 = nI (zprl P + 1) := nI_add _ 1
  obtain ⟨τ, hτ⟩ : ∃ τ, τ = zsI (zsI (zsI (zsI (zsI σ9 113 (zpn P) (nI t)) 115 (zpn P) (zco (dHd st))) 120 (zprl P) (nI (zpn P))) 105 23 (nI (zprl P + 1))) 105 11 (nI (zpn P + 1)) := ⟨_, rfl⟩
  have o : ∀ c i, ¬ (c = 105 ∧ (i = 11 ∨ i = 23)) → ¬ ((c = 113 ∨ c = 115) ∧ i = zpn P) → ¬ (c = 120 ∧ i = zprl P) → τ.1 c i = σ9.1 c i := fun c i h1 h2 h3 => by
    rw [hτ]
    simp (disch := omega) only [zI_n]
  have K : D_X11_readLine_119 (zsI σ9 113 (zpn P) (nI t)) (nI (zpn P)) (zco (dHd st)) = some τ := by
    unfold D_X11_readLine_119
    simp (disch := omega) only [zlet_eq, zi_nI, zg_t, zcla, zI_n, zI_y, c1, c4, t4, r4]
    rw [hτ]
  refine ⟨τ, ?_, ⟨?_, ?_, ?_, ?_, fun l hl => ?_, fun q hq => ?_, ?_, fun k hk => ?_⟩, by rw [hτ]; rfl, fun c i h1 h2 h3 => o c i h1 (fun q => h2 q.1) (fun q => h3 q.1)⟩
  · have y1 : (zsI σ9 113 (zpn P) (nI t)).1 105 11 = nI (zpn P) := by rw [zI_n (by omega)]; exact c1
    have y2 : (zsI σ9 113 (zpn P) (nI t)).1 105 19 = nI st.length := by rw [zI_n (by omega)]; exact c3
    unfold D_X11_readLine_67
    rw [E, zb_s, h0, if_pos (show nI 0 = 0 from rfl), c1, zi_nI (by omega) (by omega), zg_t, zcla (by omega), zlet_eq, y1, zlet_eq, zlet_eq, y2]
    by_cases hs : st.length = 0
    · rw [hs, if_pos (show nI 0 = 0 from rfl), ← z1 hs]
      exact K
    · have pm : nI st.length - 1 = nI (st.length - 1) := pk_sub (b := 1) (by omega)
      rw [if_neg (nI_ne0 (by omega) (by omega)), pm, zi_nI (by omega) (by omega), zg_t, zcla (by omega), zI_n (by omega), z2 (by omega)]
      exact K
  · rw [hτ, zI_y, f1]
  · rw [o _ _ (by omega) (by omega) (by omega), f2]; exact c2
  · rw [o _ _ (by omega) (by omega) (by omega)]; exact c3
  · rw [hτ, zI_n (by omega), zI_y, f3]
  · rw [f1] at hl
    by_cases e : l = zpn P
    · subst e
      rw [f4, f7]
      refine ⟨?_, ?_, fun e he' => ?_⟩
      · rw [hτ]
        simp (disch := omega) only [zI_n, zI_y]
      · rw [hτ]
        simp (disch := omega) only [zI_n, zI_y]
      · rw [f9, o _ _ (by omega) (by omega) (by omega)]
        exact he e he'
    · obtain ⟨x1, x2, x3, x4, x5, x6⟩ := fl l e
      obtain ⟨d1, d2, d3⟩ := c5 l (by omega)
      rw [x1, x4, o _ _ (by omega) (by omega) (by omega), o _ _ (by omega) (by omega) (by omega)]
      exact ⟨d1, d2, fun e he' => by rw [x6, o _ _ (by omega) (by omega) (by omega)]; exact d3 e he'⟩
  · rw [f2] at hq
    rw [fte, fou, o _ _ (by omega) (by omega) (by omega), o _ _ (by omega) (by omega) (by omega)]
    exact c6 q hq
  · exact mOp_lt (I := σ9.1) st _ (Nat.le_refl _) (fun k _ => o _ _ (by omega) (by omega) (by omega)) c7
  · rw [f3] at hk
    by_cases e : k = zprl P
    · rw [e, fr1, hτ]
      simp (disch := omega) only [zI_n, zI_y]
    · rw [fr2 k e, o _ _ (by omega) (by omega) (by omega)]
      exact c8 k (by omega)
theorem m33 {n : Nat} {K : zS → Option zS} (hn : n < 16) : ∀ q e N σ, e + q = 8 → q < N → σ.1 105 11 = nI n → σ.1 105 30 = nI 0 → ∃ σ', L_X11_readLine_33 K N (nI e) σ = K σ' ∧ σ'.2 = σ.2 ∧ (∀ c i, ¬ (c = 114 ∧ 8 * n + e ≤ i) → σ'.1 c i = σ.1 c i) ∧ ∀ i, e ≤ i → i < 8 → σ'.1 114 (8 * n + i) = nI 0 := by
  intro q
  induction q with
  | zero =>
    intro e N σ h hN h0 hf
    cases N with
    | zero => omega
    | succ N =>
      obtain rfl : e = 8 := by omega
      refine ⟨σ, ?_, rfl, fun _ _ _ => rfl, fun i h1 h2 => by omega⟩
      rw [L_X11_readLine_33, zlet_eq, if_pos (show (8 : Int32) ≤ nI 8 by decide)]
  | succ q ih =>
    intro e N σ h hN h0 hf
    cases N with
    | zero => omega
    | succ N =>
      have t4 : nI e + 1 = nI (e + 1) := nI_add e 1
      have m8 : 8 * nI n = nI (8 * n) := pk_mul 8 n
      have a8 : nI (8 * n) + nI e = nI (8 * n + e) := nI_add _ _
      obtain ⟨σ', e1, e2, e3, e4⟩ := ih (e + 1) N (zsI σ 114 (8 * n + e) (0 : Int32)) (by omega) (by omega) (by rw [zI_n (by omega)]; exact h0) (by rw [zI_n (by omega)]; exact hf)
      refine ⟨σ', ?_, e2, fun c i hc => by rw [e3 c i (by omega), zI_n (by omega)], fun i h1 h2 => ?_⟩
      · rw [L_X11_readLine_33, zlet_eq, if_neg (show ¬ (8 : Int32) ≤ nI e from nI_ge (b := 8) (by omega) (by omega)), hf, if_pos (show nI 0 = 0 from rfl), h0, m8, a8, zi_nI (by omega) (by omega), zg_t, zcla (by omega), zlet_eq, t4, zlet_eq]
        exact e1
      · by_cases ee : i = e
        · rw [ee, e3 _ _ (by omega), zI_y]
          rfl
        · exact e4 i (by omega) h2
theorem sbE : ∀ x : Fin 256, ¬ (97 ≤ x.val ∧ x.val ≤ 104) → (zsb x.val - 97 < 0 ∨ 8 ≤ zsb x.val - 97) ∧ (nI x.val - 97 < 0 ∨ 8 ≤ nI x.val - 97) := by decide +kernel
theorem nz8 {y : Int32} (h : y < 0 ∨ 8 ≤ y) : ¬ zL y 8 := by
  rintro ⟨j, hj, rfl⟩
  rcases h with h | h
  · exact nI_pos (by omega) h
  · exact nI_ge (b := 8) hj (by omega) h
