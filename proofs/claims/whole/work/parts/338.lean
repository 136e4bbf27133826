set_option maxRecDepth 8000
/-! ===== said ===== -/
theorem l_of {x : Int64} {s : Nat} (h0 : ¬ x < 0) (h : x < lN s) (hs : s < 2147483648) : ∃ j, j < s ∧ x = lN j := by
  obtain ⟨k, hk, rfl⟩ := pk_lOf h0
  exact ⟨k, (pk_lLT hk (by omega)).mp h, rfl⟩
theorem m20 {i : Nat} (hi : i < 16) : ¬ ((-20 : Int32) - nI i = 0) := by
  have : ∀ i : Fin 16, ¬ ((-20 : Int32) - nI i.val = 0) := by decide +kernel
  exact this ⟨i, hi⟩
theorem sd_ {p : Nat} {P : zM} {σ : zS} {k e s : Nat} {a3 : Int32} (c : cPr σ.1 p P) (m : mPr σ.1 P) (w : wPr P) (hk : k < 4) (he : e < 8) (hs : s ≤ 40) (h99 : σ.1 99 k = nI s) (h135 : σ.1 135 k = nI s) (hc : ∀ i, i < 40 → σ.1 (100 + 1 + k) i = σ.1 136 (40 * k + i)) (K : Int32 → Int32 → Int32 → Int32 → Option Int32) (hK : ∀ x1 x2 x3 x4, ∃ r, K x1 x2 x3 x4 = some r) : ∀ q i, i + q = zpn P → (∃ r, ¬ r = 0 ∧ (∀ N, q < N → L_X7_faultOf_28 (nI k) a3 (nI (zpn P)) σ N (nI i) = some r) ∧ ∀ N x1 x2 x3 x4, q < N → L_X11_said_76 (nI k) a3 (nI e) σ K N x1 x2 x3 x4 (nI i) = some r) ∨ ((∀ N, q < N → L_X7_faultOf_28 (nI k) a3 (nI (zpn P)) σ N (nI i) = some 0) ∧ (∀ N x1 x2 x3 x4, q < N → L_X11_said_76 (nI k) a3 (nI e) σ K N x1 x2 x3 x4 (nI i) = L_X7_compare_16 (nI k) a3 p (nI e) σ K N x1 x2 x3 x4 (nI i)) ∧ ∀ N x1 x2 x3 x4, q < N → ∃ r, L_X7_compare_16 (nI k) a3 p (nI e) σ K N x1 x2 x3 x4 (nI i) = some r) := by
  have w1 := w.1
  intro q
  induction q with
  | zero =>
    intro i h
    obtain rfl : i = zpn P := by omega
    have t3 : nI (zpn P) ≤ nI (zpn P) := nI_le (Nat.le_refl _) (by omega)
    right
    refine ⟨?_, ?_, ?_⟩
    · intro N hN
      cases N with
      | zero => omega
      | succ N =>
        rw [L_X7_faultOf_28, zlet_eq, if_pos t3]
    · intro N x1 x2 x3 x4 hN
      cases N with
      | zero => omega
      | succ N =>
        rw [L_X11_said_76, L_X7_compare_16]
        simp only [zlet_eq, m.1, c.1, if_pos t3]
    · intro N x1 x2 x3 x4 hN
      cases N with
      | zero => omega
      | succ N =>
        rw [L_X7_compare_16]
        simp only [zlet_eq, c.1, if_pos t3]
        exact hK x1 x2 x3 x4
  | succ q ih =>
    intro i h
    have hi : i < zpn P := by omega
    have t3 : ¬ nI (zpn P) ≤ nI i := nI_ge hi (by omega)
    have t4 : nI i + 1 = nI (i + 1) := nI_add i 1
    have z1 : zi (nI k) 4 = true := zi_nI (by omega) (by omega)
    have z2 : (nI k).toNatClampNeg = k := zcla (by omega)
    have z3 : zi (nI i) 16 = true := zi_nI (by omega) (by omega)
    have z4 : (nI i).toNatClampNeg = i := zcla (by omega)
    have il : (nI s).toInt64 = lN s := nI_l (by omega)
    by_cases hneg : a3.toInt64 + (nI i).toInt64 < 0
    · have g : lg_cmp (a3.toInt64 + (nI i).toInt64) 0 < 0 := (lg_cmp_lt _ _).mpr hneg
      left
      refine ⟨-12, by decide, ?_, ?_⟩
      · intro N hN
        cases N with
        | zero => omega
        | succ N => rw [L_X7_faultOf_28, zlet_eq, if_neg t3, zlet_eq, if_pos g]
      · intro N x1 x2 x3 x4 hN
        cases N with
        | zero => omega
        | succ N => rw [L_X11_said_76, zlet_eq, m.1, if_neg t3, zlet_eq, if_pos g]
    have g : ¬ lg_cmp (a3.toInt64 + (nI i).toInt64) 0 < 0 := fun q => hneg ((lg_cmp_lt _ _).mp q)
    by_cases hin : a3.toInt64 + (nI i).toInt64 < lN s
    · have g2 : lg_cmp (a3.toInt64 + (nI i).toInt64) (lN s) < 0 := (lg_cmp_lt _ _).mpr hin
      obtain ⟨j, hj, hje⟩ := l_of hneg hin (by omega)
      have i32 : (a3.toInt64 + (nI i).toInt64).toInt32 = nI j := by rw [hje, lN_i]
      have i32' : a3 + nI i = nI j := by
        rw [lg_l2i_add, lg_l2i_i2l, lg_l2i_i2l] at i32
        exact i32
      have z5 : zi (nI j) 40 = true := zi_nI (by omega) (by omega)
      have z6 : (nI j).toNatClampNeg = j := zcla (by omega)
      have z7 : (40 : Int32) * nI k + nI j = nI (40 * k + j) := by rw [show (40 : Int32) = nI 40 from rfl, pk_mul, nI_add]
      have z8 : zi (nI (40 * k + j)) 160 = true := zi_nI (by omega) (by omega)
      have z9 : (nI (40 * k + j)).toNatClampNeg = 40 * k + j := zcla (by omega)
      have hcj := hc j (by omega)
      by_cases hr : zR (σ.1 136 (40 * k + j)) 0 999999
      · have i1 := zin_y (σ := σ) (y := 0) (z := 999999) hr rfl rfl (by omega) (by omega)
        obtain ⟨x, -, hx, hxe⟩ := hr
        have y1 : ¬ nI x < 0 := nI_pos (by omega)
        have y2 : nI x ≤ 999999 := nI_le (b := 999999) hx (by omega)
        have zk := zkp_le (l := i) w he
        have e3 : J_X3_made p (nI i) (nI e) σ = some (nI (zkp P i e)) := made3 (σ := σ) c w1 (show i < 16 by omega) he
        have e11 := made11 (σ := σ) m w1 hi he
        have ez : zkp P i e = zptm P i * zpev P i e := if_pos hi
        have tmm : σ.1 112 i = nI (zptm P i) := (m.2.2.2.2.1 i hi).2.1
        have fstep : ∀ N, q + 1 < N + 1 → L_X7_faultOf_28 (nI k) a3 (nI (zpn P)) σ (N + 1) (nI i) = L_X7_faultOf_28 (nI k) a3 (nI (zpn P)) σ N (nI (i + 1)) := by
          intro N hN
          rw [L_X7_faultOf_28]
          simp only [zlet_eq, zg_t, zb_s, zb2_s, z10_eq, eq_self, ↓reduceIte, t3, g, z1, z2, h99, il, g2, i32, z5, z6, hcj, hxe, y1, y2, t4]
        obtain ⟨v, hv⟩ : ∃ v : Int32, v = nI x - nI (zkp P i e) := ⟨_, rfl⟩
        have a1 : ∀ w6 : Int32, (if v = 0 then w6 + 1 else (if w6 = w6 then w6 else w6)) = w6 + (if v = 0 then 1 else 0) := by
          intro w6
          by_cases h0 : v = 0
          · rw [if_pos h0, if_pos h0]
          · rw [if_neg h0, if_neg h0, if_pos rfl]
            exact (Int32.add_zero w6).symm
        have vlim : (∃ u, u ≤ 999999 ∧ v = nI u) ∨ ∃ u, 0 < u ∧ u ≤ 999999 ∧ v = -nI u := by
          rw [hv]
          by_cases hle : zkp P i e ≤ x
          · left
            exact ⟨x - zkp P i e, by omega, pk_sub hle⟩
          · right
            refine ⟨zkp P i e - x, by omega, by omega, ?_⟩
            rw [← pk_sub (by omega), Int32.neg_sub]
        have a3' : (if v < 0 then (0 : Int32) else v) = (if v ≤ 0 then 0 else v) := by
          rcases vlim with ⟨u, u1, u2⟩ | ⟨u, u0, u1, u2⟩
          · rw [u2, if_neg (nI_pos (by omega))]
            by_cases hu : u = 0
            · subst hu; rfl
            · rw [if_neg (nI_nle (by omega) (by omega))]
          · have q1 : -nI u < nI 0 := of_eq_true (z_ngt (by omega) (by omega) (by omega))
            have q2 : -nI u ≤ nI 0 := of_eq_true (z_ngle (by omega) (by omega))
            rw [u2, if_pos (show -nI u < 0 from q1), if_pos (show -nI u ≤ 0 from q2)]
        have a4' : (if -v < 0 then (0 : Int32) else -v) = (if 0 ≤ v then 0 else -v) := by
          rcases vlim with ⟨u, u1, u2⟩ | ⟨u, u0, u1, u2⟩
          · rw [u2, if_pos (show (0 : Int32) ≤ nI u from nI_pos' (by omega))]
            by_cases hu : u = 0
            · subst hu; rfl
            · have q1 : -nI u < nI 0 := of_eq_true (z_ngt (by omega) (by omega) (by omega))
              rw [if_pos (show -nI u < 0 from q1)]
          · have q1 : ¬ nI 0 ≤ -nI u := of_eq_false (z_ngl (by omega) (by omega) (by omega))
            rw [u2, Int32.neg_neg, if_neg (nI_pos (by omega)), if_neg (show ¬ (0 : Int32) ≤ -nI u from q1)]
        have sstep : ∀ N x1 x2 x3 x4, q + 1 < N + 1 → (∀ y1 y2 y3 y4, L_X11_said_76 (nI k) a3 (nI e) σ K N y1 y2 y3 y4 (nI (i + 1)) = L_X7_compare_16 (nI k) a3 p (nI e) σ K N y1 y2 y3 y4 (nI (i + 1))) → L_X11_said_76 (nI k) a3 (nI e) σ K (N + 1) x1 x2 x3 x4 (nI i) = L_X7_compare_16 (nI k) a3 p (nI e) σ K (N + 1) x1 x2 x3 x4 (nI i) := by
          intro N x1 x2 x3 x4 hN hh
          have i1' : J_X11_in (nI x).toInt64 0 999999 σ = some 1 := by rw [← hxe]; exact i1
          have prod : σ.1 112 i * nI (zpev P i e) = nI (zkp P i e) := by rw [tmm, pk_mul, ez]
          rw [L_X11_said_76, L_X7_compare_16]
          simp only [zlet_eq, zg_t, zb_s, if_neg t3, m.1, c.1, if_neg g, z1, z2, h135, il, if_pos g2, i32, z7, z8, z9, i1', hxe, z10_eq, if_false, z3, z4, e11, prod, i32', z5, z6, hcj, e3, t4, ← hv, hh, a3', a4']
          congr 1
          by_cases h0 : v = 0
          · simp only [h0, if_true]
          · simp only [h0, if_false]
            split <;> exact Int32.add_zero _
        have sbad : ∀ N x1 x2 x3 x4 r, q + 1 < N + 1 → (∀ y1 y2 y3 y4, L_X11_said_76 (nI k) a3 (nI e) σ K N y1 y2 y3 y4 (nI (i + 1)) = some r) → L_X11_said_76 (nI k) a3 (nI e) σ K (N + 1) x1 x2 x3 x4 (nI i) = some r := by
          intro N x1 x2 x3 x4 r hN hh
          have i1' : J_X11_in (nI x).toInt64 0 999999 σ = some 1 := by rw [← hxe]; exact i1
          rw [L_X11_said_76]
          simp only [zlet_eq, zg_t, zb_s, if_neg t3, m.1, if_neg g, z1, z2, h135, il, if_pos g2, i32, z7, z8, z9, i1', hxe, z10_eq, if_false, z3, z4, e11, t4, hh]
        rcases ih (i + 1) (by omega) with ⟨r, r0, r1, r2⟩ | ⟨r1, r2, r3⟩
        · left
          refine ⟨r, r0, ?_, ?_⟩
          · intro N hN
            cases N with
            | zero => omega
            | succ N => rw [fstep N hN]; exact r1 N (by omega)
          · intro N x1 x2 x3 x4 hN
            cases N with
            | zero => omega
            | succ N => exact sbad N x1 x2 x3 x4 r hN (fun y1 y2 y3 y4 => r2 N y1 y2 y3 y4 (by omega))
        · right
          refine ⟨?_, ?_, ?_⟩
          · intro N hN
            cases N with
            | zero => omega
            | succ N => rw [fstep N hN]; exact r1 N (by omega)
          · intro N x1 x2 x3 x4 hN
            cases N with
            | zero => omega
            | succ N => exact sstep N x1 x2 x3 x4 hN (fun y1 y2 y3 y4 => r2 N y1 y2 y3 y4 (by omega))
          · intro N x1 x2 x3 x4 hN
            cases N with
            | zero => omega
            | succ N =>
              rw [L_X7_compare_16]
              simp only [zlet_eq, zg_t, zb_s, if_neg t3, c.1, z1, z2, i32', z5, z6, e3, t4]
              exact r3 N _ _ _ _ (by omega)
      · have i1 := zin_n (σ := σ) (y := 0) (z := 999999) hr rfl rfl (by omega) (by omega)
        left
        refine ⟨-20 - nI i, m20 (by omega), ?_, ?_⟩
        · intro N hN
          cases N with
          | zero => omega
          | succ N =>
            rw [L_X7_faultOf_28]
            simp only [zlet_eq, zg_t, zb_s, zb2_s, z10_eq, eq_self, ↓reduceIte, t3, g, z1, z2, h99, il, g2, i32, z5, z6, hcj]
            exact zcase hr (by omega) (by omega)
        · intro N x1 x2 x3 x4 hN
          cases N with
          | zero => omega
          | succ N =>
            rw [L_X11_said_76]
            simp only [zlet_eq, zg_t, zb_s, zb2_s, z10_eq, eq_self, ↓reduceIte, t3, m.1, g, z1, z2, h135, il, g2, i32, z7, z8, z9, i1]
    · have g2 : ¬ lg_cmp (a3.toInt64 + (nI i).toInt64) (lN s) < 0 := fun q => hin ((lg_cmp_lt _ _).mp q)
      left
      refine ⟨-12, by decide, ?_, ?_⟩
      · intro N hN
        cases N with
        | zero => omega
        | succ N =>
          rw [L_X7_faultOf_28]
          simp only [zlet_eq, zg_t, zb_s, zb2_s, z10_eq, eq_self, ↓reduceIte, t3, g, z1, z2, h99, il, g2]
      · intro N x1 x2 x3 x4 hN
        cases N with
        | zero => omega
        | succ N =>
          rw [L_X11_said_76]
          simp only [zlet_eq, zg_t, zb_s, zb2_s, z10_eq, eq_self, ↓reduceIte, t3, m.1, g, z1, z2, h135, il, g2]
theorem pp_said {σ : zS} (h : zRel σ) (a b d f g : Int32) : ∃ r, J_X10_said a b d f g σ = some r ∧ J_X11_said a b d f g σ = some r := by
  obtain ⟨P, p, hp, hr, hz, w, c, m⟩ := zopen h
  obtain ⟨_, _, _, _, _, _, _, g8⟩ := h
  have w1 := w.1
  unfold J_X10_said J_X11_said
  by_cases ha : zL a 4
  · by_cases hb : zL b 3
    · have a1 := sh_y (σ := σ) ha
      have b1 := la_y (σ := σ) hb
      have s1 := is_y (σ := σ) ha hb
      by_cases hf : zL f 8
      · have f1 := isEvent_y (σ := σ) hf
        have f2 := isEventM_y (σ := σ) hf
        by_cases hg : zL g 4
        · have i1 := in4_y (σ := σ) 4 hg (by decide)
          have i1' : J_X11_in g.toInt64 0 3 σ = some 1 := i1
          obtain ⟨k, hk, rfl⟩ := ha
          obtain ⟨ln, hln, rfl⟩ := hb
          obtain ⟨e, he, rfl⟩ := hf
          obtain ⟨x, hx, rfl⟩ := hg
          have c0 : ¬ nI x < 0 := nI_pos (by omega)
          have c3 : nI x ≤ 3 := nI_le (b := 3) (by omega) (by omega)
          have z1 : zi (nI k) 4 = true := zi_nI (by omega) (by omega)
          have z2 : (nI k).toNatClampNeg = k := zcla (by omega)
          rcases g8 k hk with ⟨q1, q2⟩ | ⟨l', s, l1, l2, q3, q4, q5, q6, q7⟩
          · have n1 : ¬ (0 : Int32) ≤ -1 := by decide
            have n2 : ¬ (-4 : Int32) = nI ln := fun q => of_eq_false (z_ng (a := ln) (b := 4) (by omega) (by omega) (by omega)) q.symm
            have n3 : ¬ (-11 : Int32) = 0 := by decide
            refine ⟨-11, ?_, ?_⟩
            · simp only [zlet_eq, zg_t, zb_s, zb2_s, z10_eq, eq_self, ↓reduceIte, a1, b1, f1, c0, c3, hr, hz, J_X7_faultOf, z1, z2, q2, n1, n3]
            · simp only [zlet_eq, zg_t, zb_s, zb2_s, z10_eq, eq_self, ↓reduceIte, s1, f2, i1', z1, z2, q1, n2]
          · have n1 : (0 : Int32) ≤ nI s := nI_pos' (by omega)
            by_cases hl : l' = ln
            · subst hl
              rcases sd_ (a3 := d) c m w hk he l2 q6 q5 q7 (D_X7_compare_98 (nI x)) (fun x1 x2 x3 x4 => by unfold D_X7_compare_98; split; exact ⟨_, rfl⟩; split; exact ⟨_, rfl⟩; split; exact ⟨_, rfl⟩; exact ⟨_, rfl⟩) (zpn P) 0 (by omega) with ⟨r, r0, r1, r2⟩ | ⟨r1, r2, r3⟩
              · have r1' : L_X7_faultOf_28 (nI k) d (nI (zpn P)) σ 4294967296 0 = some r := r1 4294967296 (by omega)
                have r2' : L_X11_said_76 (nI k) d (nI e) σ (D_X11_said_246 (nI x)) 4294967296 0 (-4) 0 0 0 = some r := r2 4294967296 0 (-4) 0 0 (by omega)
                refine ⟨r, ?_, ?_⟩
                · simp only [zlet_eq, zg_t, zb_s, zb2_s, z10_eq, eq_self, ↓reduceIte, a1, b1, f1, c0, c3, hr, hz, J_X7_faultOf, z1, z2, q6, n1, q4, c.1, r1', r0]
                · simp only [zlet_eq, zg_t, zb_s, zb2_s, z10_eq, eq_self, ↓reduceIte, s1, f2, i1', z1, z2, q3, r2']
              · have r1' : L_X7_faultOf_28 (nI k) d (nI (zpn P)) σ 4294967296 0 = some 0 := r1 4294967296 (by omega)
                have r2' : L_X11_said_76 (nI k) d (nI e) σ (D_X11_said_246 (nI x)) 4294967296 0 (-4) 0 0 0 = L_X7_compare_16 (nI k) d p (nI e) σ (D_X7_compare_98 (nI x)) 4294967296 0 (-4) 0 0 0 := r2 4294967296 0 (-4) 0 0 (by omega)
                obtain ⟨r, r4⟩ := r3 4294967296 0 (-4) 0 0 (by omega)
                have r4' : J_X7_compare (nI k) d p (nI e) (nI x) σ = some r := r4
                have r5 : L_X11_said_76 (nI k) d (nI e) σ (D_X11_said_246 (nI x)) 4294967296 0 (-4) 0 0 0 = some r := r2'.trans r4
                have n3 : ((0 : Int32) = 0) = True := eq_true rfl
                refine ⟨r, ?_, ?_⟩
                · have fo : J_X7_faultOf (nI k) (nI l') d (nI (zpn P)) σ = some 0 := by
                    unfold J_X7_faultOf
                    rw [z1, zg_t, z2, q6, if_pos n1, zg_t, q4, if_pos rfl]
                    exact r1'
                  rw [a1, zb_s, if_neg (by decide), b1, zb_s, if_neg (by decide), f1, zb_s, if_neg (by decide), if_neg c0, if_pos c3, zlet_eq, hr, hz, zg_t, c.1, fo, zb_s, if_pos rfl, zlet_eq, hz, zg_t, r4', zb_s]
                · simp only [zlet_eq, zg_t, zb_s, zb2_s, z10_eq, eq_self, ↓reduceIte, s1, f2, i1', z1, z2, q3, r5]
            · have n2 : ¬ nI l' = nI ln := fun q => hl ((nI_eq (by omega) (by omega)).mp q)
              have n3 : ¬ (-13 : Int32) = 0 := by decide
              have n4 : ¬ nI l' = -4 := of_eq_false (z_ng (a := l') (b := 4) (by omega) (by omega) (by omega))
              refine ⟨-13, ?_, ?_⟩
              · simp only [zlet_eq, zg_t, zb_s, zb2_s, z10_eq, eq_self, ↓reduceIte, a1, b1, f1, c0, c3, hr, hz, J_X7_faultOf, z1, z2, q6, n1, q4, n2, n3]
              · simp only [zlet_eq, zg_t, zb_s, zb2_s, z10_eq, eq_self, ↓reduceIte, s1, f2, i1', z1, z2, q3, n2, n4]
        · have i1 := in4_n (σ := σ) 4 hg (by decide) (by decide)
          have i1' : J_X11_in g.toInt64 0 3 σ = some 0 := i1
          refine ⟨-1, ?_, by simp only [zlet_eq, zg_t, zb_s, zb2_s, z10_eq, eq_self, ↓reduceIte, s1, f2, i1']⟩
          simp only [zlet_eq, zg_t, zb_s, zb2_s, z10_eq, eq_self, ↓reduceIte, a1, b1, f1]
          refine zcase (lo := 0) (hi := 3) ?_ (by omega) (by omega)
          rintro ⟨j, -, h2, rfl⟩
          exact hg ⟨j, by omega, rfl⟩
      · have f1 := isEvent_n (σ := σ) hf
        have f2 := isEventM_n (σ := σ) hf
        exact ⟨-1, by simp only [zlet_eq, zg_t, zb_s, zb2_s, z10_eq, eq_self, ↓reduceIte, a1, b1, f1], by simp only [zlet_eq, zg_t, zb_s, zb2_s, z10_eq, eq_self, ↓reduceIte, s1, f2]⟩
    · have a1 := sh_y (σ := σ) ha
      have b1 := la_n (σ := σ) hb
      have s1 := is_n (a := a) (b := b) (σ := σ) (fun q => hb q.2)
      exact ⟨-1, by simp only [zlet_eq, zg_t, zb_s, zb2_s, z10_eq, eq_self, ↓reduceIte, a1, b1], by simp only [zlet_eq, zg_t, zb_s, zb2_s, z10_eq, eq_self, ↓reduceIte, s1]⟩
  · have a1 := sh_n (σ := σ) ha
    have s1 := is_n (a := a) (b := b) (σ := σ) (fun q => ha q.1)
    exact ⟨-1, by simp only [zlet_eq, zg_t, zb_s, zb2_s, z10_eq, eq_self, ↓reduceIte, a1], by simp only [zlet_eq, zg_t, zb_s, zb2_s, z10_eq, eq_self, ↓reduceIte, s1]⟩
