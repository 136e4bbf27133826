set_option maxRecDepth 8000
/-! ===== shows, samples ===== -/
theorem pp_shows (a b d f g : Int32) : zGood (J_X10_shows a b d f g) (J_X11_shows a b d f g) := by
  intro σ h kb
  obtain ⟨P, p, hp, hr, hz, w, c, m⟩ := zopen h
  have w1 := w.1
  unfold J_X10_shows J_X11_shows
  rcases as_ a b d f σ with ⟨e, E, L, t, he, rfl, E1, E2, rfl, hL, rfl, ht, rfl, s1, s2⟩ | ⟨s1, s2⟩
  · by_cases hg : zL g (zpn P)
    · have q1 := hasLine_y (σ := σ) c.1 hg (by omega)
      obtain ⟨σ1, a1, a2, a3, a4⟩ := st10 hp w he E1 E2 hL ht c
      have q2 := isLine_y (σ := σ1) (zsim_m a2 m).1 hg (by omega)
      obtain ⟨σ2, b1, b2, b3, b4⟩ := st11 w he E1 E2 hL ht (zsim_m a2 m)
      obtain ⟨l, hl, rfl⟩ := hg
      have t1 : zi (nI l) 16 = true := zi_nI (by omega) (by omega)
      have t2 : (nI l).toNatClampNeg = l := zcla (by omega)
      refine ⟨nI (zssh P e E L t l (zps P)), σ1, σ2, ?_, ?_, zRel_s (zsim_t a2 b2) h, rBank_c (fun c k hc => by rw [b3 _ _ (by omega), a3 _ _ (by omega)]) kb⟩
      · simp only [zlet_eq, zg_t, zb_s, zb2_s, z10_eq, eq_self, ↓reduceIte, s1, hr, hz, q1, a1, t1, t2, a4.2.2 l (by omega)]
      · simp only [zlet_eq, zg_t, zb_s, zb2_s, z10_eq, eq_self, ↓reduceIte, s2, q2, b1, t1, t2, b4.2.2 l (by omega)]
    · have q1 := hasLine_n (σ := σ) c.1 hg (by omega)
      have q2 := isLine_n (σ := σ) m.1 hg (by omega)
      exact ⟨-1, σ, σ, by simp only [zlet_eq, zg_t, zb_s, zb2_s, z10_eq, eq_self, ↓reduceIte, s1, hr, hz, q1], by simp only [zlet_eq, zg_t, zb_s, zb2_s, z10_eq, eq_self, ↓reduceIte, s2, q2], h, kb⟩
  · exact ⟨-1, σ, σ, by simp only [zlet_eq, zg_t, zb_s, zb2_s, z10_eq, eq_self, ↓reduceIte, s1], by simp only [zlet_eq, zg_t, zb_s, zb2_s, z10_eq, eq_self, ↓reduceIte, s2], h, kb⟩
theorem pp_samples (a b d f g : Int32) : zGood (J_X10_samples a b d f g) (J_X11_samples a b d f g) := by
  intro σ h kb
  obtain ⟨P, p, hp, hr, hz, w, c, m⟩ := zopen h
  have w1 := w.1
  unfold J_X10_samples J_X11_samples
  rcases as_ a b d f σ with ⟨e, E, L, t, he, rfl, E1, E2, rfl, hL, rfl, ht, rfl, s1, s2⟩ | ⟨s1, s2⟩
  · by_cases hg : zL g 6
    · have i1 := fun σ => in4_y (σ := σ) 6 hg (by decide)
      have i1' : ∀ σ, J_X11_in g.toInt64 0 5 σ = some 1 := i1
      obtain ⟨σ1, a1, a2, a3, a4⟩ := st10 hp w he E1 E2 hL ht c
      obtain ⟨σ2, b1, b2, b3, b4⟩ := st11 w he E1 E2 hL ht (zsim_m a2 m)
      have fin : zRel σ2 ∧ rBank σ2.1 := ⟨zRel_s (zsim_t a2 b2) h, rBank_c (fun c k hc => by rw [b3 _ _ (by omega), a3 _ _ (by omega)]) kb⟩
      have c1 := zsim_c a2 hp w c
      have m2 := zsim_m (zsim_t a2 b2) m
      have hr1 : σ1.2.2 0 1 = p := by rw [a2.2]; exact hr
      obtain ⟨v, hv⟩ : ∃ v : Nat → Nat, v = fun l => zssh P e E L t l (zps P) := ⟨_, rfl⟩
      have v1 : ∀ l, l < 16 → σ1.1 90 l = nI (v l) := by rw [hv]; exact a4.2.2
      have v2 : ∀ l, l < 16 → σ2.1 130 l = nI (v l) := by rw [hv]; exact b4.2.2
      have vb : ∀ l, v l < 1000000 := by
        intro l
        rw [hv]
        have x1 := zssh_le (P := P) (e := e) (E := E) (L := L) (t := t) (l := l) (zps P)
        have x2 := zs_b (t := t) w he E1 (show L ≤ 9999 by omega) (Nat.le_refl (zps P))
        show zssh P e E L t l (zps P) < _
        omega
      have vn : ∀ l, zpn P ≤ l → v l = 0 := by
        intro l hl
        rw [hv]
        exact zssh_0 w hl _
      have S := fun K => sm11 m2 w he v2 vb K (zpn P) 0 4294967296 (by omega) (by omega)
      have A1 := ls6 v1 (fun l => by have := vb l; omega)
      have A2 := lm3 c1 w he
      have A3 := lsm6 v1 vb
      have o1 : bO (fun l => decide (0 < v l)) (zpn P) = bO (fun l => decide (0 < v l)) 16 := by
        apply bO_ext w1 (by omega)
        intro j hj
        by_cases hjn : j < zpn P
        · simp [hjn, hj]
        · have := vn j (by omega)
          simp [hjn, this]
      have o2 : bO (fun l => decide (v l = 0) && decide (0 < zpev P l e)) (zpn P) = bO (fun l => decide (0 < zpev P l e)) (zpn P) &&& (bO (fun l => decide (0 < v l)) 16 ^^^ -nI 1) := by
        rw [bO_not w1 (by omega)]
        apply bO_ext w1 w1
        intro j hj
        by_cases hz0 : v j = 0
        · simp [hj, hz0]
        · have : 0 < v j := by omega
          simp [hj, hz0, this]
      have o3 : bO (fun l => decide (0 < v l) && decide (zpev P l e = 0)) (zpn P) = bO (fun l => decide (0 < v l)) 16 &&& (bO (fun l => decide (0 < zpev P l e)) (zpn P) ^^^ -nI 1) := by
        rw [bO_not (by omega) w1]
        apply bO_ext w1 (by omega)
        intro j hj
        by_cases hjn : j < zpn P
        · by_cases hz0 : zpev P j e = 0
          · simp [hj, hjn, hz0]
          · have : 0 < zpev P j e := by omega
            simp [hj, hjn, hz0, this]
        · have := vn j (by omega)
          simp [hjn, this]
      have o4 : (bF v (zpn P)).1 = (bF v 16).1 := by
        have := bF_k vn (16 - zpn P)
        rw [show zpn P + (16 - zpn P) = 16 by omega] at this
        rw [this]
      rw [o1, o2, o3, o4] at S
      obtain ⟨j, hj, rfl⟩ := hg
      have c0 : ¬ nI j < 0 := nI_pos (by omega)
      have c2 : nI j ≤ 5 := nI_le (b := 5) (by omega) (by omega)
      have M : ∀ r, D_X11_samples_198 (nI j) σ2 (bO (fun l => decide (0 < v l)) 16) (bO (fun l => decide (0 < zpev P l e)) (zpn P) &&& (bO (fun l => decide (0 < v l)) 16 ^^^ -nI 1)) (bO (fun l => decide (0 < v l)) 16 &&& (bO (fun l => decide (0 < zpev P l e)) (zpn P) ^^^ -nI 1)) (bF v 16).1 = some (r, σ2) → (zb (J_X11_isSampling (nI e) (nI E) (nI L) (nI t) σ1) fun r1 => if r1 = (0 : Int32) then (some ((-1 : Int32), σ1)) else (zb (J_X11_in ((nI j).toInt64) (0 : Int64) (5 : Int64) σ1) fun r3 => if r3 = (0 : Int32) then (some ((-1 : Int32), σ1)) else (zb (J_X11_findSamples (nI e) (nI E) (nI L) (nI t) σ1) fun σ6 => zlet (D_X11_samples_198 (nI j) σ6) fun k198 => L_X11_samples_51 (nI e) σ6 k198 4294967296 (0 : Int32) (0 : Int32) (0 : Int32) (-4 : Int32) (0 : Int32)))) = some (r, σ2) := by
        intro r hr
        simp only [zlet_eq, zg_t, zb_s, zb2_s, z10_eq, eq_self, ↓reduceIte, s2, i1', b1]
        exact (S _).trans hr
      unfold D_X11_samples_198 at M
      have cases6 : j = 0 ∨ j = 1 ∨ j = 2 ∨ j = 3 ∨ j = 4 ∨ j = 5 := by omega
      have ne : ∀ k, k < 6 → j ≠ k → (nI j = nI k) = False := fun k hk q => z_eq_f q (by omega) (by omega)
      have ey : ∀ k, j = k → (nI j = nI k) = True := fun k q => z_eq_t q
      have zl0 : (0 : Int32) = nI 0 := rfl
      rcases cases6 with q | q | q | q | q | q
      · have y0 : (nI j = 0) = True := ey 0 q
        refine ⟨nI (zsls P e E L t (zps P) + zsal P e E L t (zps P)), σ1, σ2, ?_, M _ ?_, fin⟩
        · simp only [zlet_eq, zg_t, zb_s, zb2_s, z10_eq, eq_self, ↓reduceIte, s1, c0, c2, hr, hz, a1, y0, a4.1, a4.2.1, nI_add]
        · simp only [y0, ↓reduceIte, b4.1]
          rw [Nat.add_comm]
      · have y0 : (nI j = 0) = False := ne 0 (by omega) (by omega)
        have y1 : (nI j = 1) = True := ey 1 q
        refine ⟨nI (zsls P e E L t (zps P)), σ1, σ2, ?_, M _ ?_, fin⟩
        · simp only [zlet_eq, zg_t, zb_s, zb2_s, z10_eq, eq_self, ↓reduceIte, s1, c0, c2, hr, hz, a1, y0, y1, a4.2.1]
        · simp only [y0, y1, ↓reduceIte, b4.2.1]
      · have y0 : (nI j = 0) = False := ne 0 (by omega) (by omega)
        have y1 : (nI j = 1) = False := ne 1 (by omega) (by omega)
        have y2 : (nI j = 2) = True := ey 2 q
        refine ⟨bO (fun l => decide (0 < v l)) 16, σ1, σ2, ?_, M _ ?_, fin⟩
        · simp only [zlet_eq, zg_t, zb_s, zb2_s, z10_eq, eq_self, ↓reduceIte, s1, c0, c2, hr, hz, a1, y0, y1, y2, A1]
        · simp only [y0, y1, y2, ↓reduceIte]
      · have y0 : (nI j = 0) = False := ne 0 (by omega) (by omega)
        have y1 : (nI j = 1) = False := ne 1 (by omega) (by omega)
        have y2 : (nI j = 2) = False := ne 2 (by omega) (by omega)
        have y3 : (nI j = 3) = True := ey 3 q
        refine ⟨bO (fun l => decide (0 < zpev P l e)) (zpn P) &&& (bO (fun l => decide (0 < v l)) 16 ^^^ -nI 1), σ1, σ2, ?_, M _ ?_, fin⟩
        · simp only [zlet_eq, zg_t, zb_s, zb2_s, z10_eq, eq_self, ↓reduceIte, s1, c0, c2, hr, hz, a1, y0, y1, y2, y3, hr1, A1, A2]
          rfl
        · simp only [y0, y1, y2, y3, ↓reduceIte]
      · have y0 : (nI j = 0) = False := ne 0 (by omega) (by omega)
        have y1 : (nI j = 1) = False := ne 1 (by omega) (by omega)
        have y2 : (nI j = 2) = False := ne 2 (by omega) (by omega)
        have y3 : (nI j = 3) = False := ne 3 (by omega) (by omega)
        have y4 : (nI j = 4) = True := ey 4 q
        refine ⟨bO (fun l => decide (0 < v l)) 16 &&& (bO (fun l => decide (0 < zpev P l e)) (zpn P) ^^^ -nI 1), σ1, σ2, ?_, M _ ?_, fin⟩
        · simp only [zlet_eq, zg_t, zb_s, zb2_s, z10_eq, eq_self, ↓reduceIte, s1, c0, c2, hr, hz, a1, y0, y1, y2, y3, y4, hr1, A1, A2]
          rfl
        · simp only [y0, y1, y2, y3, y4, ↓reduceIte]
      · have y0 : (nI j = 0) = False := ne 0 (by omega) (by omega)
        have y1 : (nI j = 1) = False := ne 1 (by omega) (by omega)
        have y2 : (nI j = 2) = False := ne 2 (by omega) (by omega)
        have y3 : (nI j = 3) = False := ne 3 (by omega) (by omega)
        have y4 : (nI j = 4) = False := ne 4 (by omega) (by omega)
        refine ⟨(bF v 16).1, σ1, σ2, ?_, M _ ?_, fin⟩
        · simp only [zlet_eq, zg_t, zb_s, zb2_s, z10_eq, eq_self, ↓reduceIte, s1, c0, c2, hr, hz, a1, y0, y1, y2, y3, y4, A3]
        · simp only [y0, y1, y2, y3, y4, ↓reduceIte]
    · have i1 := in4_n (σ := σ) 6 hg (by decide) (by decide)
      have i1' : J_X11_in g.toInt64 0 5 σ = some 0 := i1
      refine ⟨-1, σ, σ, ?_, by simp only [zlet_eq, zg_t, zb_s, zb2_s, z10_eq, eq_self, ↓reduceIte, s2, i1'], h, kb⟩
      simp only [zlet_eq, zg_t, zb_s, zb2_s, z10_eq, eq_self, ↓reduceIte, s1]
      refine zcase (lo := 0) (hi := 5) ?_ (by omega) (by omega)
      rintro ⟨j, -, h2, rfl⟩
      exact hg ⟨j, by omega, rfl⟩
  · exact ⟨-1, σ, σ, by simp only [zlet_eq, zg_t, zb_s, zb2_s, z10_eq, eq_self, ↓reduceIte, s1], by simp only [zlet_eq, zg_t, zb_s, zb2_s, z10_eq, eq_self, ↓reduceIte, s2], h, kb⟩
