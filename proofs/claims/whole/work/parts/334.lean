set_option maxRecDepth 8000
/-! ===== beats ===== -/
theorem zsq_mod {P : zM} {e g L : Nat} : ∀ i, zsq P e g (L % g) i = (L + zsm (zge P e) i) % g := by
  intro i
  induction i with
  | zero => rfl
  | succ i ih =>
    have u : zsq P e g (L % g) (i + 1) = (zsq P e g (L % g) i + zge P e i) % g := rfl
    rw [u, ih, zsm_s, Nat.mod_add_mod, Nat.add_assoc]
def zcn (P : zM) (e j : Nat) : Nat → Nat := zsm fun i => if zplo P i = j ∧ 0 < zpev P j e then 1 else 0
theorem zcn_iff {P : zM} (w : wPr P) {e j : Nat} : 0 < zcn P e j (zps P) ↔ j < zpn P ∧ 0 < zpev P j e := by
  have hc := w.2.2.2.2.2.2.2.2 (fun l => if l = j ∧ 0 < zpev P j e then 1 else 0)
  have e1 : zcn P e j (zps P) = zsm (fun l => zptm P l * if l = j ∧ 0 < zpev P j e then 1 else 0) (zpn P) := hc
  rw [e1]
  constructor
  · intro h
    by_cases hj : j < zpn P ∧ 0 < zpev P j e
    · exact hj
    · exfalso
      have : ∀ n, n ≤ zpn P → zsm (fun l => zptm P l * if l = j ∧ 0 < zpev P j e then 1 else 0) n = 0 := by
        intro n
        induction n with
        | zero => intro _; rfl
        | succ n ih =>
          intro hn
          rw [zsm_s, ih (by omega), if_neg, Nat.mul_zero]
          rintro ⟨q1, q2⟩
          exact hj ⟨by omega, q2⟩
      rw [this _ (Nat.le_refl _)] at h
      omega
  · rintro ⟨h1, h2⟩
    have t := (w.2.2.2.1 j h1).2.2.1
    have := zsm_at (f := fun l => zptm P l * if l = j ∧ 0 < zpev P j e then 1 else 0) h1
    have u : (zptm P j * if j = j ∧ 0 < zpev P j e then 1 else 0) = zptm P j := by
      rw [if_pos ⟨rfl, h2⟩, Nat.mul_one]
    have this2 : (zptm P j * if j = j ∧ 0 < zpev P j e then 1 else 0) ≤ zsm (fun l => zptm P l * if l = j ∧ 0 < zpev P j e then 1 else 0) (zpn P) := this
    rw [u] at this2
    omega
theorem be11 {P : zM} {σ : zS} {e g L : Nat} (m : mPr σ.1 P) (w : wPr P) (he : e < 8) (hg : 1 ≤ g) (hg2 : g ≤ 9999) (hL : L ≤ 9999) (K : Int32 → Int32 → Option Int32) : ∀ k i n, i + k = zps P → k < n → L_X11_beats_62 (nI e) σ (nI g) K n (bO (fun j => decide (0 < zssh P e g (L % g) 0 j i)) 16) (bO (fun j => decide (0 < zcn P e j i)) 16) (nI (L + zsm (zge P e) i)) (nI i) = K (bO (fun j => decide (0 < zssh P e g (L % g) 0 j (zps P))) 16) (bO (fun j => decide (0 < zcn P e j (zps P))) 16) := by
  intro k
  have w1 := w.1
  have w3 := w.2.2.1
  have m' := m
  obtain ⟨c1, c2, c3, c4, c5, c6, c7⟩ := m
  induction k with
  | zero =>
    intro i n h hn
    cases n with
    | zero => omega
    | succ n =>
      obtain rfl : i = zps P := by omega
      rw [L_X11_beats_62]
      simp (disch := omega) only [zlet_eq, zg_t, zb_s, zb2_s, zl_0, zl_1, zl_2, zl_3, zl_4, zl_5, zl_6, zl_7, zl_8, zl_9, zl_10, zl_12, zl_16, zl_19, zl_20, zl_24, zl_31, zl_36, zl_39, zl_40, zl_48, zl_57, zl_63, zl_80, zl_97, zl_99, zl_100, zl_122, zl_128, zl_160, zl_199, zl_200, zl_255, zl_256, zl_320, zl_999, zl_6000, zl_6001, zl_9999, zl_999999, zq_0, zq_1, zq_2, zq_3, zq_4, zq_5, zq_7, zq_9, zq_10, zq_16, zq_17, zq_20, zq_48, zq_57, zq_97, zq_100, zq_122, zq_255, zq_999, zq_6000, zq_9999, zq_999999, nI_add, pk_mul, z_le_t, z_le_f, z_lt_t, z_lt_f, z_eq_t, z_eq_f, zcla, zi_nI, ↓reduceIte, z_ng, z_ngb, z_ngl, z_ngt, zI_y, zI_n, zI_2, zL_1, zL_2, nI_l, inN_t, inN_f, z_or0, lc_le_t, lc_le_f, lc_lt_t, lc_lt_f, lc_ge_t, lc_ge_f, lc_gt_t, lc_gt_f, lc_eq_t, lc_eq_f, z_ngle, lN_i, lN_add, lN_mul, c3]
  | succ k ih =>
    intro i n h hn
    cases n with
    | zero => omega
    | succ n =>
      have q := ih (i + 1) n (by omega) (by omega)
      have w6 := w.2.2.2.2.2.1 i (by omega)
      have e0 := made11 (σ := σ) (i := zplo P i) (e := e) m' w1 w6 he
      have gl : zpev P (zplo P i) e ≤ 99 := zge_le w he (show i < zps P by omega)
      have S1 : zsm (zge P e) i ≤ 594000 := by
        have h3 : zsm (zge P e) i ≤ zsm (zge P e) (zps P) := zsm_mono (by omega)
        have h4 := ev_tot w e
        have h5 := zto_le w he
        omega
      have zq := zsq_mod (P := P) (e := e) (g := g) (L := L) i
      have zl := Nat.mod_lt (L + zsm (zge P e) i) (show g > 0 by omega)
      have rm := pk_rem (a := L + zsm (zge P e) i) (d := g) (by omega) (by omega) (by omega)
      have us : ∀ j, zssh P e g (L % g) 0 j (i + 1) = zssh P e g (L % g) 0 j i + (if i + 0 < zps P ∧ zplo P (i + 0) = j then zsn P e g (L % g) i else 0) := fun j => rfl
      have uc : ∀ j, zcn P e j (i + 1) = zcn P e j i + (if zplo P i = j ∧ 0 < zpev P j e then 1 else 0) := fun j => rfl
      have uS : L + zsm (zge P e) (i + 1) = L + zsm (zge P e) i + zpev P (zplo P i) e := by rw [zsm_s, ← Nat.add_assoc]; rfl
      rw [uS] at q
      have l16 : zplo P i < 16 := by omega
      have t3 : ¬ nI (zps P) ≤ nI i := nI_ge (by omega) (by omega)
      have tz : zi (nI i) 6000 = true := zi_nI (by omega) (by omega)
      have tc : (nI i).toNatClampNeg = i := zcla (by omega)
      have t4 : nI i + 1 = nI (i + 1) := nI_add i 1
      have one : (1 : Int32) <<< (nI (zplo P i) &&& 31) = nI 1 <<< (nI (zplo P i) &&& nI 31) := rfl
      have o0 : ∀ x : Int32, x ||| 0 = x := fun x => z_or0
      have sn : zsn P e g (L % g) i = ((L + zsm (zge P e) i) % g + zpev P (zplo P i) e) / g := by
        unfold zsn
        rw [zq]
        rfl
      by_cases hv : zpev P (zplo P i) e = 0
      · have s0 : zsn P e g (L % g) i = 0 := by
          rw [sn, hv, Nat.add_zero]
          exact Nat.div_eq_of_lt zl
        have q1 : bO (fun j => decide (0 < zssh P e g (L % g) 0 j (i + 1))) 16 = bO (fun j => decide (0 < zssh P e g (L % g) 0 j i)) 16 := by
          congr 1
          funext j
          rw [us, s0]
          simp
        have q2 : bO (fun j => decide (0 < zcn P e j (i + 1))) 16 = bO (fun j => decide (0 < zcn P e j i)) 16 := by
          congr 1
          funext j
          rw [uc, if_neg, Nat.add_zero]
          rintro ⟨r1, r2⟩
          rw [← r1, hv] at r2
          omega
        rw [q1, q2] at q
        have v0 : nI (zpev P (zplo P i) e) ≤ 0 := by rw [hv]; decide
        rw [L_X11_beats_62]
        simp only [zlet_eq, zg_t, zb_s, zb2_s, z10_eq, eq_self, ↓reduceIte, c3, t3, tz, tc, c7 i (by omega), e0, v0, D_X11_beats_141, o0, t4, nI_add]
        exact q
      · have v0 : ¬ nI (zpev P (zplo P i) e) ≤ 0 := nI_nle (by omega) (by omega)
        have q2 : bO (fun j => decide (0 < zcn P e j (i + 1))) 16 = bO (fun j => decide (0 < zcn P e j i)) 16 ||| (nI 1 <<< (nI (zplo P i) &&& nI 31)) := by
          rw [bO_or l16]
          congr 1
          funext j
          rw [uc]
          by_cases hj : j = zplo P i
          · subst hj
            have : zplo P i = zplo P i ∧ 0 < zpev P (zplo P i) e := ⟨rfl, by omega⟩
            rw [if_pos this]
            simp
          · rw [if_neg (fun r => hj r.1.symm)]
            simp [hj]
        have gsub : nI g - (nI (L + zsm (zge P e) i) - nI (L + zsm (zge P e) i) / nI g * nI g) = nI (g - (L + zsm (zge P e) i) % g) := by
          rw [rm, pk_sub (by omega)]
        by_cases hc : zpev P (zplo P i) e < g - (L + zsm (zge P e) i) % g
        · have s0 : zsn P e g (L % g) i = 0 := by
            rw [sn]
            exact Nat.div_eq_of_lt (by omega)
          have q1 : bO (fun j => decide (0 < zssh P e g (L % g) 0 j (i + 1))) 16 = bO (fun j => decide (0 < zssh P e g (L % g) 0 j i)) 16 := by
            congr 1
            funext j
            rw [us, s0]
            simp
          rw [q1, q2] at q
          have hc' : nI (zpev P (zplo P i) e) < nI (g - (L + zsm (zge P e) i) % g) := nI_lt hc (by omega)
          rw [L_X11_beats_62]
          simp only [zlet_eq, zg_t, zb_s, zb2_s, z10_eq, eq_self, ↓reduceIte, c3, t3, tz, tc, c7 i (by omega), e0, v0, zn_nI (show 0 < g by omega) (show g < 2147483648 by omega), gsub, hc', D_X11_beats_141, o0, t4, nI_add, one]
          exact q
        · have s1 : 0 < zsn P e g (L % g) i := by
            rw [sn]
            exact Nat.div_pos (by omega) (by omega)
          have q1 : bO (fun j => decide (0 < zssh P e g (L % g) 0 j (i + 1))) 16 = bO (fun j => decide (0 < zssh P e g (L % g) 0 j i)) 16 ||| (nI 1 <<< (nI (zplo P i) &&& nI 31)) := by
            rw [bO_or l16]
            congr 1
            funext j
            rw [us, Nat.add_zero]
            by_cases hj : j = zplo P i
            · subst hj
              rw [if_pos ⟨by omega, rfl⟩]
              simp
              omega
            · rw [if_neg (fun r => hj r.2.symm)]
              simp [hj]
          rw [q1, q2] at q
          have hc' : ¬ nI (zpev P (zplo P i) e) < nI (g - (L + zsm (zge P e) i) % g) := nI_nlt (by omega) (by omega)
          rw [L_X11_beats_62]
          simp only [zlet_eq, zg_t, zb_s, zb2_s, z10_eq, eq_self, ↓reduceIte, c3, t3, tz, tc, c7 i (by omega), e0, v0, zn_nI (show 0 < g by omega) (show g < 2147483648 by omega), gsub, hc', D_X11_beats_141, t4, nI_add, one]
          exact q
theorem pp_beats (a b d f : Int32) {σ : zS} (h : zRel σ) (kb : rBank σ.1) : ∃ r σ1, J_X10_beats a b d f σ = some (r, σ1) ∧ J_X11_beats a b d f σ1 = some r ∧ zRel σ1 ∧ rBank σ1.1 := by
  obtain ⟨P, p, hp, hr, hz, w, c, m⟩ := zopen h
  have w1 := w.1
  have w3 := w.2.2.1
  unfold J_X10_beats J_X11_beats
  rcases as_ a b d 0 σ with ⟨e, E, L, t, he, rfl, E1, E2, rfl, hL, rfl, -, -, s1, s2⟩ | ⟨s1, s2⟩
  · by_cases hf : zL f 3
    · have i1 := fun σ => in4_y (σ := σ) 3 hf (by decide)
      have i1' : ∀ σ, J_X11_in f.toInt64 0 2 σ = some 1 := i1
      obtain ⟨x, hx, rfl⟩ := hf
      have c0 : ¬ nI x < 0 := nI_pos (by omega)
      have c2 : nI x ≤ 2 := nI_le (b := 2) (by omega) (by omega)
      have T1 := tot3 (σ := σ) c w he
      have T2 := fun σ m => tot11 (σ := σ) m w he
      have tl := zto_le w he
      have G1 := com10 (σ := σ) (a := zto P e) (b := E) (by omega) (by omega)
      obtain ⟨g, hg⟩ : ∃ g, g = Nat.gcd (zto P e) E := ⟨_, rfl⟩
      have G2 := fun σ => com11 (σ := σ) (a := E) (b := zto P e) (by omega) (by omega) (by omega)
      rw [Nat.gcd_comm] at G2
      rw [← hg] at G1 G2
      have g1 : 1 ≤ g := by rw [hg]; exact Nat.gcd_pos_of_pos_right _ (by omega)
      have g2 : g ≤ E := by rw [hg]; exact Nat.gcd_le_right _ (by omega)
      by_cases h0 : zto P e = 0
      · have z1 : nI (zto P e) < 1 := by rw [h0]; decide
        have z2 : (nI (zto P e) = 0) = True := eq_true (by rw [h0]; rfl)
        refine ⟨0, σ, ?_, ?_, h, kb⟩
        · simp (disch := omega) only [zlet_eq, zg_t, zb_s, zb2_s, z10_eq, eq_self, ↓reduceIte, s1, c0, c2, hr, hz, T1, nI_l, G1, z1]
        · simp only [zlet_eq, zg_t, zb_s, zb2_s, z10_eq, eq_self, ↓reduceIte, s2, i1', T2 σ m, z2]
      · have z1 : ¬ nI (zto P e) < 1 := of_eq_false (z_lt_f (b := 1) (by omega) (by omega))
        have z2 : (nI (zto P e) = 0) = False := z_eq_f (b := 0) h0 (by omega) (by omega)
        have z3 : (1 : Int32) ≤ nI g := of_eq_true (z_le_t (a := 1) g1 (by omega))
        have dv := pk_div (a := E) (d := g) (by omega) (by omega) (by omega)
        have ey : ∀ k, x = k → (nI x = nI k) = True := fun k q => z_eq_t q
        have ne : ∀ k, k < 6 → x ≠ k → (nI x = nI k) = False := fun k hk q => z_eq_f q (by omega) (by omega)
        have i2 : ∀ σ, J_X11_in (lN x) 0 2 σ = some 1 := fun σ => by rw [← nI_l (by omega)]; exact i1' σ
        by_cases hx2 : x = 2
        · have y2 : (nI x = 2) = True := ey 2 hx2
          have y0 : (nI x = 0) = False := ne 0 (by omega) (by omega)
          have y1 : (nI x = 1) = False := ne 1 (by omega) (by omega)
          have M := be11 (L := L) m w he g1 (by omega) (by omega) (D_X11_beats_162 (nI E) (nI x) (nI g)) (zps P) 0 4294967296 (by omega) (by omega)
          refine ⟨nI (E / g), σ, ?_, ?_, h, kb⟩
          · simp (disch := omega) only [zlet_eq, zg_t, zb_s, zb2_s, z10_eq, eq_self, ↓reduceIte, s1, c0, c2, hr, hz, T1, nI_l, G1, z1, lN_i, z3, y2, zn_nI, dv]
          · simp (disch := omega) only [zlet_eq, zg_t, zb_s, zb2_s, z10_eq, eq_self, ↓reduceIte, s2, i2, T2 σ m, z2, nI_l, G2, lN_i]
            refine M.trans ?_
            unfold D_X11_beats_162
            simp (disch := omega) only [zlet_eq, zg_t, zb_s, zb2_s, z10_eq, eq_self, ↓reduceIte, y0, y1, zn_nI, dv]
        · have y2 : (nI x = 2) = False := ne 2 (by omega) (by omega)
          have Lm := Nat.mod_lt L (show g > 0 by omega)
          obtain ⟨σ1, a1, a2, a3, a4⟩ := st10 (L := L % g) (t := 0) hp w he g1 (by omega) Lm (by omega) c
          have rm := pk_rem (a := L) (d := g) (by omega) (by omega) (by omega)
          have a1' : J_X6_take p (nI e) (nI g) (nI (L % g)) 0 σ = some σ1 := a1
          have c1 := zsim_c a2 hp w c
          have m1 := zsim_m a2 m
          have hr1 : σ1.2.2 0 1 = p := by rw [a2.2]; exact hr
          have vb : ∀ l, zssh P e g (L % g) 0 l (zps P) < 2147483648 := by
            intro l
            have x1 := zssh_le (P := P) (e := e) (E := g) (L := L % g) (t := 0) (l := l) (zps P)
            have x2 := zs_b (L := L % g) (t := 0) w he g1 (by omega) (Nat.le_refl (zps P))
            omega
          have A1 := ls6 (v := fun l => zssh P e g (L % g) 0 l (zps P)) a4.2.2 vb
          have A2 := lm3 c1 w he
          have M := be11 (L := L) m1 w he g1 (by omega) (by omega) (D_X11_beats_162 (nI E) (nI x) (nI g)) (zps P) 0 4294967296 (by omega) (by omega)
          have fin : zRel σ1 ∧ rBank σ1.1 := ⟨zRel_s a2 h, rBank_c (fun c k hc => by rw [a3 _ _ (by omega)]) kb⟩
          have o1 : bO (fun j => decide (0 < zcn P e j (zps P))) 16 = bO (fun l => decide (0 < zpev P l e)) (zpn P) := by
            apply bO_ext (by omega) w1
            intro j hj
            have z := zcn_iff w (e := e) (j := j)
            by_cases hjn : j < zpn P
            · by_cases hv : 0 < zpev P j e
              · simp [hj, hjn, hv, z.mpr ⟨hjn, hv⟩]
              · have : ¬ 0 < zcn P e j (zps P) := fun r => hv (z.mp r).2
                simp [hjn, hv, this]
            · have : ¬ 0 < zcn P e j (zps P) := fun r => hjn (z.mp r).1
              simp [hjn, this]
          rw [o1] at M
          by_cases hx0 : x = 0
          · have y0 : (nI x = 0) = True := ey 0 hx0
            refine ⟨bO (fun l => decide (0 < zssh P e g (L % g) 0 l (zps P))) 16, σ1, ?_, ?_, fin⟩
            · simp (disch := omega) only [zlet_eq, zg_t, zb_s, zb2_s, z10_eq, eq_self, ↓reduceIte, s1, c0, c2, hr, hz, T1, nI_l, G1, z1, lN_i, z3, y2, zn_nI, rm, a1', A1, y0]
            · simp (disch := omega) only [zlet_eq, zg_t, zb_s, zb2_s, z10_eq, eq_self, ↓reduceIte, s2, i2, T2 σ1 m1, z2, nI_l, G2, lN_i]
              refine M.trans ?_
              unfold D_X11_beats_162
              simp only [y0, ↓reduceIte]
          · have y0 : (nI x = 0) = False := ne 0 (by omega) hx0
            have y1 : (nI x = 1) = True := ey 1 (by omega)
            refine ⟨bO (fun l => decide (0 < zpev P l e)) (zpn P) &&& (bO (fun l => decide (0 < zssh P e g (L % g) 0 l (zps P))) 16 ^^^ (-1)), σ1, ?_, ?_, fin⟩
            · simp (disch := omega) only [zlet_eq, zg_t, zb_s, zb2_s, z10_eq, eq_self, ↓reduceIte, s1, c0, c2, hr, hz, T1, nI_l, G1, z1, lN_i, z3, y2, zn_nI, rm, a1', A1, y0, hr1, A2]
            · simp (disch := omega) only [zlet_eq, zg_t, zb_s, zb2_s, z10_eq, eq_self, ↓reduceIte, s2, i2, T2 σ1 m1, z2, nI_l, G2, lN_i]
              refine M.trans ?_
              unfold D_X11_beats_162
              simp only [y0, y1, ↓reduceIte]
    · have i1 := in4_n (σ := σ) 3 hf (by decide) (by decide)
      have i1' : J_X11_in f.toInt64 0 2 σ = some 0 := i1
      refine ⟨-1, σ, ?_, by simp only [zlet_eq, zg_t, zb_s, zb2_s, z10_eq, eq_self, ↓reduceIte, s2, i1'], h, kb⟩
      simp only [zlet_eq, zg_t, zb_s, zb2_s, z10_eq, eq_self, ↓reduceIte, s1]
      refine zcase (lo := 0) (hi := 2) ?_ (by omega) (by omega)
      rintro ⟨j, -, h2, rfl⟩
      exact hf ⟨j, by omega, rfl⟩
  · exact ⟨-1, σ, by simp only [zlet_eq, zg_t, zb_s, zb2_s, z10_eq, eq_self, ↓reduceIte, s1], by simp only [zlet_eq, zg_t, zb_s, zb2_s, z10_eq, eq_self, ↓reduceIte, s2], h, kb⟩
