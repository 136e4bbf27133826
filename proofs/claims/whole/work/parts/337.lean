set_option maxRecDepth 8000
theorem zgl_e1 (Q : Nat → Bool) (bb : Nat) : zgl Q bb 1 = [] := by
  rw [zgl_s, if_neg (by simp)]
  rfl
theorem gu_step {p : Nat} {a b : Int32} {σ σa σb : zS} {n N : Nat} (hN : N = n + 3) (a1 : L_X5_guess_17 p a b (nI 1) (D_X5_guess_62 (L_X5_guess_8 p a b (n + 2)) (nI 1)) 4294967296 (nI 1) σ = D_X5_guess_62 (L_X5_guess_8 p a b (n + 2)) (nI 1) σa) (b1 : L_X5_guess_17 p a b (nI 2) (D_X5_guess_62 (L_X5_guess_8 p a b (n + 1)) (nI 2)) 4294967296 (nI 1) σa = D_X5_guess_62 (L_X5_guess_8 p a b (n + 1)) (nI 2) σb) : L_X5_guess_8 p a b N 1 σ = some σb := by
  subst hN
  have e2 : nI 1 + 1 = nI 2 := nI_add 1 1
  have e3 : nI 2 + 1 = nI 3 := nI_add 2 1
  rw [L_X5_guess_8, zlet_eq, if_neg (show ¬ (2 : Int32) < 1 by decide), zlet_eq]
  refine a1.trans ?_
  unfold D_X5_guess_62
  rw [zlet_eq, e2, L_X5_guess_8, zlet_eq, if_neg (show ¬ (2 : Int32) < nI 2 by decide), zlet_eq]
  refine b1.trans ?_
  unfold D_X5_guess_62
  rw [zlet_eq, e3, L_X5_guess_8, zlet_eq, if_pos (show (2 : Int32) < nI 3 by decide)]
theorem wm_E1 {a b d : Int32} {σ : zS} {n N : Nat} (hN : N = n + 3) : L_X11_wired_53 a b d σ (D_X11_wired_118 d) N 0 1 = L_X11_wired_62 a b d σ (nI 1) (D_X11_wired_112 (L_X11_wired_53 a b d σ (D_X11_wired_118 d) (n + 2)) (nI 1)) 4294967296 (nI 0) (nI 1) := by
  subst hN
  rw [L_X11_wired_53, zlet_eq, if_neg (show ¬ (3 : Int32) ≤ 1 by decide), zlet_eq]
  rfl
theorem wm_E2 {a b d : Int32} {σ : zS} {n : Nat} (cc : Int32) : D_X11_wired_112 (L_X11_wired_53 a b d σ (D_X11_wired_118 d) (n + 2)) (nI 1) cc = L_X11_wired_62 a b d σ (nI 2) (D_X11_wired_112 (L_X11_wired_53 a b d σ (D_X11_wired_118 d) (n + 1)) (nI 2)) 4294967296 cc (nI 1) := by
  have e2 : nI 1 + 1 = nI 2 := nI_add 1 1
  unfold D_X11_wired_112
  rw [zlet_eq, e2, L_X11_wired_53, zlet_eq, if_neg (show ¬ (3 : Int32) ≤ nI 2 by decide), zlet_eq]
  rfl
theorem wm_E3 {a b d : Int32} {σ : zS} {n : Nat} (cc : Int32) : D_X11_wired_112 (L_X11_wired_53 a b d σ (D_X11_wired_118 d) (n + 1)) (nI 2) cc = D_X11_wired_118 d cc := by
  have e3 : nI 2 + 1 = nI 3 := nI_add 2 1
  unfold D_X11_wired_112
  rw [zlet_eq, e3, L_X11_wired_53, zlet_eq, if_pos (show (3 : Int32) ≤ nI 3 by decide)]
theorem wr_main {p : Nat} {P : zM} (a b d : Int32) {σ : zS} {N : Nat} (hp : p = 3 ∨ p = 33) (hr : σ.2.2 0 1 = p) (hz : zP p = true) (w : wPr P) (c : cPr σ.1 p P) (m : mPr σ.1 P) (n1 : N ≤ 12) (n2 : σ.1 92 0 = nI N) (n3 : σ.1 105 49 = nI N) (n4 : ∀ i, i < N → σ.1 93 i = σ.1 131 i ∧ σ.1 94 i = σ.1 132 i ∧ σ.1 95 i = σ.1 133 i) : (d = 0 ∨ ¬ d = 0 ∧ (10 : Int32) ≤ d) → ∃ r σ1, D_X10_wired_30 a b d σ = some (r, σ1) ∧ D_X11_wired_27 a b d σ1 = some r ∧ zsim σ σ1 ∧ ∀ c j, ¬ (c = 96 ∨ (c = 92 ∧ j = 4)) → σ1.1 c j = σ.1 c j := by
  obtain ⟨nn, hnn⟩ : ∃ nn : Nat, 4294967296 = nn + 3 := ⟨4294967293, rfl⟩
  intro hd
  obtain ⟨q1, q2⟩ := ho_ (a := a) (b := b) n1 n2 N 0 4294967296 (by omega) (by omega)
  by_cases hex : ∃ j, j < N ∧ zR2 σ a b j
  · obtain ⟨j, j1, j2⟩ := hex
    have ho : J_X5_hasOneOf a b σ = some 1 := q1 ⟨j, by omega, j1, j2⟩
    obtain ⟨Q, hQ⟩ : ∃ Q : Nat → Bool, ∀ s, Q s = true ↔ zbo σ a b N (nI (zso P s 8)) := by
      refine ⟨fun s => @decide (zbo σ a b N (nI (zso P s 8))) (Classical.propDecidable _), fun s => ?_⟩
      exact @decide_eq_true_iff _ (Classical.propDecidable _)
    have l1 : ∀ s, s ≤ 256 → (([] : List Nat) ++ zgl Q 1 s).length ≤ 36 := fun s hs => by
      have := zgl_le Q 1 s hs
      rw [zgl_1] at this
      rw [List.nil_append]
      omega
    have l2 : ∀ s, s ≤ 256 → (zgl Q 1 256 ++ zgl Q 2 s).length ≤ 36 := fun s hs => by
      have x1 := zgl_le Q 1 256 (Nat.le_refl _)
      have x2 := zgl_le Q 2 s hs
      rw [zgl_1] at x1
      rw [zgl_2] at x2
      rw [List.length_append]
      omega
    have c0 : cPr (zsI σ 92 4 (nI 0)).1 p P := cPr_c (I := σ.1) (fun c i hc => zI_n (by omega)) w c
    obtain ⟨σa, a1, a2, a3, a4⟩ := gu_ (Q := Q) (bb := 1) (pre := []) (a := a) (b := b) hp w n1 (by omega) l1 σ hQ n2 c (D_X5_guess_62 (L_X5_guess_8 p a b (nn + 2)) (nI 1)) 255 1 4294967296 (zsI σ 92 4 (nI 0)) (by omega) (by omega) (by omega) (fun c j hc => zI_n (by omega)) rfl (by rw [zgl_e1]; exact ⟨zI_y, fun j hj => absurd hj (by simp)⟩)
    rw [List.nil_append] at a4
    obtain ⟨σb, b1, b2, b3, b4⟩ := gu_ (Q := Q) (bb := 2) (pre := zgl Q 1 256) (a := a) (b := b) hp w n1 (by omega) l2 σ hQ n2 c (D_X5_guess_62 (L_X5_guess_8 p a b (nn + 1)) (nI 2)) 255 1 4294967296 σa (by omega) (by omega) (by omega) a2 a3 (by rw [zgl_e1, List.append_nil]; exact a4)
    have G : J_X5_guess p a b σ = some σb := by
      unfold J_X5_guess
      rw [zlet_eq]
      exact gu_step hnn a1 b1
    have sb : zsim σ σb := ⟨fun c j hc _ => b2 c j (by simp only [zscr] at hc; omega), b3⟩
    have mb := zsim_m sb m
    have rows : ∀ i, i < N → σ.1 93 i = σb.1 131 i ∧ σ.1 94 i = σb.1 132 i ∧ σ.1 95 i = σb.1 133 i := fun i hi => by
      rw [b2 131 i (by omega), b2 132 i (by omega), b2 133 i (by omega)]
      exact n4 i hi
    have n3b : σb.1 105 49 = nI N := by rw [b2 _ _ (by omega)]; exact n3
    have hrun : J_X11_hasRun a b σb = some 1 := by
      obtain ⟨-, r1, -⟩ := hr_ (a := a) (b := b) n1 n3b N 0 4294967296 (by omega) (by omega)
      refine r1 ⟨j, by omega, j1, ?_⟩
      obtain ⟨x1, x2, -⟩ := rows j j1
      unfold zR3
      rw [← x1, ← x2]
      exact j2
    obtain ⟨Lf, hLf⟩ : ∃ Lf, Lf = zgl Q 1 256 ++ zgl Q 2 256 := ⟨_, rfl⟩
    have len : Lf.length ≤ 36 := by rw [hLf]; exact l2 256 (Nat.le_refl _)
    have b4' : zhl σb.1 Lf := by rw [hLf]; exact b4
    obtain ⟨b5, b6⟩ := b4'
    -- the reference's search
    have S2 := gm_ (Q := Q) (bb := 2) (pre := zgl Q 1 256) (a := a) (b := b) (d := d) w n1 (by omega) l2 σ σb hQ mb n3b rows (D_X11_wired_112 (L_X11_wired_53 a b d σb (D_X11_wired_118 d) (nn + 1)) (nI 2)) 255 1 4294967296 (by omega) (by omega) (by omega)
    have S1 := gm_ (Q := Q) (bb := 1) (pre := []) (a := a) (b := b) (d := d) w n1 (by omega) l1 σ σb hQ mb n3b rows (D_X11_wired_112 (L_X11_wired_53 a b d σb (D_X11_wired_118 d) (nn + 2)) (nI 1)) 255 1 4294967296 (by omega) (by omega) (by omega)
    rw [zgl_e1, List.append_nil] at S1
    rw [zgl_e1, List.append_nil, ← hLf] at S2
    obtain ⟨S1a, S1b⟩ := S1 (fun j hj => absurd hj (by simp))
    simp only [List.nil_append, List.length_nil] at S1a S1b
    have find : ∀ j (hj : j < Lf.length), d = nI (10 + j) → L_X11_wired_53 a b d σb (D_X11_wired_118 d) 4294967296 0 1 = some (nI Lf[j]) := by
      intro j hj q
      rw [wm_E1 hnn]
      by_cases hj1 : j < (zgl Q 1 256).length
      · rw [S1a j hj1 q]
        congr 2
        subst hLf
        exact (List.getElem_append_left (as := zgl Q 1 256) (bs := zgl Q 2 256) hj1).symm
      · have un : ∀ i, i < (zgl Q 1 256).length → ¬ d = nI (10 + i) := by
          intro i hi q2
          rw [q] at q2
          have := (nI_eq (by omega) (by omega)).mp q2
          omega
        rw [S1b un, wm_E2]
        exact (S2 un).1 j hj q
    have nofind : (∀ j, j < Lf.length → ¬ d = nI (10 + j)) → L_X11_wired_53 a b d σb (D_X11_wired_118 d) 4294967296 0 1 = D_X11_wired_118 d (nI Lf.length) := by
      intro un
      have ll : (zgl Q 1 256).length ≤ Lf.length := by rw [hLf, List.length_append]; omega
      rw [wm_E1 hnn, S1b (fun i hi => un i (by omega)), wm_E2, (S2 (fun i hi => un i (by omega))).2 un, wm_E3]
    have hz1 : ¬ (1 : Int32) = 0 := by decide
    have cls : ∀ r, (if d = 0 then some ((σb.1 92 4), σb) else (if (σb.1 92 4) ≤ (d - (10 : Int32)) then (some ((-1 : Int32), σb)) else (zg (zi (d - (10 : Int32)) 36) (some ((σb.1 96 (d - (10 : Int32)).toNatClampNeg), σb))))) = some (r, σb) → D_X10_wired_30 a b d σ = some (r, σb) := by
      intro r hr'
      unfold D_X10_wired_30
      rw [ho, zb_s, if_neg hz1, zlet_eq, hr, hz, zg_t, G, zb_s]
      exact hr'
    have mdl : ∀ r, L_X11_wired_53 a b d σb (D_X11_wired_118 d) 4294967296 0 1 = some r → D_X11_wired_27 a b d σb = some r := by
      intro r hr'
      unfold D_X11_wired_27
      rw [hrun, zb_s, if_neg hz1, zlet_eq]
      exact hr'
    rcases hd with hd | ⟨hd0, hd⟩
    · refine ⟨nI Lf.length, σb, cls _ (by rw [if_pos hd, b5]), mdl _ ?_, sb, b2⟩
      rw [nofind, D_X11_wired_118, if_pos hd]
      intro j hj q
      rw [hd] at q
      have := (nI_eq (a := 0) (b := 10 + j) (by omega) (by omega)).mp q
      omega
    · obtain ⟨x, hx, rfl⟩ : ∃ x, x < 2147483648 ∧ d = nI x := nI_of (by
        intro q
        rw [Int32.lt_iff_toInt_lt] at q
        rw [Int32.le_iff_toInt_le] at hd
        have e1 : (10 : Int32).toInt = 10 := by decide
        have e2 : (0 : Int32).toInt = 0 := by decide
        omega)
      have hx10 : 10 ≤ x := (nI_leI (a := 10) (by omega) hx).mp hd
      have sub : nI x - 10 = nI (x - 10) := pk_sub (b := 10) hx10
      by_cases hin : x - 10 < Lf.length
      · refine ⟨nI Lf[x - 10], σb, cls _ ?_, mdl _ ?_, sb, b2⟩
        · rw [if_neg hd0, b5, sub, if_neg (nI_ge hin (by omega)), zi_nI (by omega) (by omega), zg_t, zcla (by omega), b6 _ hin]
        · exact find (x - 10) hin (by congr 1; omega)
      · refine ⟨-1, σb, cls _ ?_, mdl _ ?_, sb, b2⟩
        · rw [if_neg hd0, b5, sub, if_pos (nI_le (by omega) (by omega))]
        · rw [nofind, D_X11_wired_118, if_neg hd0]
          intro j hj q
          have := (nI_eq hx (by omega)).mp q
          omega
  · have ho : J_X5_hasOneOf a b σ = some 0 := q2 fun j _ j1 j2 => hex ⟨j, j1, j2⟩
    have hrun : J_X11_hasRun a b σ = some 0 := by
      obtain ⟨-, -, r2⟩ := hr_ (a := a) (b := b) n1 n3 N 0 4294967296 (by omega) (by omega)
      refine r2 fun j _ j1 j2 => hex ⟨j, j1, ?_⟩
      obtain ⟨x1, x2, -⟩ := n4 j j1
      unfold zR3 at j2
      rw [← x1, ← x2] at j2
      exact j2
    refine ⟨if d = 0 then -4 else -1, σ, ?_, ?_, zsim_r σ, fun _ _ _ => rfl⟩
    · unfold D_X10_wired_30
      rw [ho, zb_s, if_pos rfl]
      split <;> rfl
    · unfold D_X11_wired_27
      rw [hrun, zb_s, if_pos rfl]
      split <;> rfl
theorem pp_wired (a b d : Int32) {σ : zS} (h : zRel σ) (kb : rBank σ.1) : ∃ r σ1, J_X10_wired a b d σ = some (r, σ1) ∧ J_X11_wired a b d σ1 = some r ∧ zRel σ1 ∧ rBank σ1.1 := by
  obtain ⟨P, p, hp, hr, hz, w, c, m⟩ := zopen h
  have h' := h
  obtain ⟨g1, g2, g3, g4, g5, ⟨k, k1, k2, k3, k4, k5⟩, ⟨N, n1, n2, n3, n4⟩, g8⟩ := h
  unfold J_X10_wired J_X11_wired
  by_cases ha : zL a k
  · have e1 := has_y (σ := σ) k3 ha (by omega)
    have e2 := isCounter_y (σ := σ) k4 ha (by omega)
    by_cases hb : zL b 8
    · have e3 := isEvent_y (σ := σ) hb
      have e4 := isEventM_y (σ := σ) hb
      have main := wr_main a b d hp hr hz w c m n1 n2 n3 n4
      have fin : (d = 0 ∨ ¬ d = 0 ∧ (10 : Int32) ≤ d) → ∃ r σ1, D_X10_wired_30 a b d σ = some (r, σ1) ∧ J_X11_isCounter a σ1 = some 1 ∧ J_X11_isEvent b σ1 = some 1 ∧ D_X11_wired_27 a b d σ1 = some r ∧ zRel σ1 ∧ rBank σ1.1 := fun hd => by
        obtain ⟨r, σ1, m1, m2, m3, m4⟩ := main hd
        exact ⟨r, σ1, m1, isCounter_y (k := k) (by rw [m4 _ _ (by omega)]; exact k4) ha (by omega), isEventM_y hb, m2, zRel_s m3 h', rBank_c (fun c k hc => m4 _ _ (by omega)) kb⟩
      by_cases hd0 : d = 0
      · obtain ⟨r, σ1, m1, m2, m3, m4, m5, m6⟩ := fin (Or.inl hd0)
        have hd1 : (d = 0) = True := eq_true hd0
        refine ⟨r, σ1, ?_, ?_, m5, m6⟩
        · rw [e1, zb_s, if_neg (by decide), e3, zb_s, if_neg (by decide), zlet_eq, if_pos hd0]
          exact m1
        · rw [m2, zb_s, if_neg (by decide), m3, zb_s, if_neg (by decide), zlet_eq, if_pos hd0]
          exact m4
      · by_cases hd10 : (10 : Int32) ≤ d
        · obtain ⟨r, σ1, m1, m2, m3, m4, m5, m6⟩ := fin (Or.inr ⟨hd0, hd10⟩)
          refine ⟨r, σ1, ?_, ?_, m5, m6⟩
          · rw [e1, zb_s, if_neg (by decide), e3, zb_s, if_neg (by decide), zlet_eq, if_neg hd0, if_pos hd10]
            exact m1
          · rw [m2, zb_s, if_neg (by decide), m3, zb_s, if_neg (by decide), zlet_eq, if_neg hd0, if_pos hd10]
            exact m4
        · refine ⟨-1, σ, ?_, ?_, h', kb⟩
          · rw [e1, zb_s, if_neg (by decide), e3, zb_s, if_neg (by decide), zlet_eq, if_neg hd0, if_neg hd10]
          · rw [e2, zb_s, if_neg (by decide), e4, zb_s, if_neg (by decide), zlet_eq, if_neg hd0, if_neg hd10]
    · have e3 := isEvent_n (σ := σ) hb
      have e4 := isEventM_n (σ := σ) hb
      exact ⟨-1, σ, by simp only [zlet_eq, zg_t, zb_s, zb2_s, z10_eq, eq_self, ↓reduceIte, e1, e3], by simp only [zlet_eq, zg_t, zb_s, zb2_s, z10_eq, eq_self, ↓reduceIte, e2, e4], h', kb⟩
  · have e1 := has_n (σ := σ) k3 ha (by omega)
    have e2 := isCounter_n (σ := σ) k4 ha (by omega)
    exact ⟨-1, σ, by simp only [zlet_eq, zg_t, zb_s, zb2_s, z10_eq, eq_self, ↓reduceIte, e1], by simp only [zlet_eq, zg_t, zb_s, zb2_s, z10_eq, eq_self, ↓reduceIte, e2], h', kb⟩
