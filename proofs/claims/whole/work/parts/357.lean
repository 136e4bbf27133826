set_option maxRecDepth 8000
/-! ===== scaled, finest ===== -/
theorem offs {p : Nat} {P : zM} {σ : zS} {e C K : Nat} (c : cPr σ.1 p P) (w : wPr P) (he : e < 8) (hC : C ≤ 594000) (hK : K ≤ 120000) (h0 : σ.1 88 0 = nI C) (h1 : σ.1 88 1 = nI K) : J_X9_scaledUp p σ = some (lN (C * zptt P (zps P))) ∧ J_X9_off p (nI e) σ = some (lN (C * zptt P (zps P)) - lN (zto P e * K)) := by
  have w3 := w.2.2.1
  have ta := zto_le w he
  have tl := tt_le w (zps P) (Nat.le_refl _)
  have s : J_X9_scaledUp p σ = some (lN (C * zptt P (zps P))) := by
    unfold J_X9_scaledUp
    rw [allt c w, zb_s, h0, nI_l (by omega), nI_l (by omega), lN_mul]
  refine ⟨s, ?_⟩
  unfold J_X9_off
  rw [s, zb_s, tot3 c w he, zb_s, h1, nI_l (by omega), nI_l (by omega), lN_mul]
theorem pp_scaled (a b d f : Int32) : zGoodL (J_X10_scaled a b d f) (J_X11_scaled a b d f) := by
  intro σ h hb
  unfold J_X10_scaled J_X11_scaled
  rcases io_ a d with ⟨s, e, hs, he, hbit, rfl, rfl, i1, i2⟩ | ⟨i1, i2⟩
  · by_cases hb2 : zR b 1 999
    · have j1 := fun σ => slc_y (σ := σ) hb2
      have j2 : ∀ σ, J_X11_in b.toInt64 1 999 σ = some 1 := fun σ => zin_y hb2 rfl rfl (by decide) (by decide)
      by_cases hf : zL f 4
      · have k2 : ∀ σ, J_X11_in f.toInt64 0 3 σ = some 1 := fun σ => in4_y (σ := σ) 4 hf (by decide)
        obtain ⟨P, p, hp, hr, hz, w, c, m⟩ := zopen h
        obtain ⟨t, t1, t2, rfl⟩ := hb2
        obtain ⟨x, x4, rfl⟩ := hf
        have k0 : ¬ nI x < (0 : Int32) := nI_pos (by omega)
        have k1 : nI x ≤ (3 : Int32) := nI_le (b := 3) (by omega) (by omega)
        obtain ⟨σ1, d3, d4, D⟩ := rdy h hb hs hbit
        have h1 := zRel_s d3 h
        have w3 := w.2.2.1
        rcases D with ⟨D1, D2⟩ | ⟨N, R, N1, N8, R8, D1, D2, D3⟩
        · obtain ⟨σ2, f1, f2, f3, f4⟩ := D2 σ1 (fun _ _ _ => rfl)
          refine ⟨-1000000000004, σ1, σ2, ?_, ?_, zRel_s f2 h1, rBank_c (I := σ1.1) (fun c k hc => f3 c k (by omega) (by omega)) d4⟩
          · rw [i1, zb_s, if_neg (by decide), j1, zb_s, if_neg (by decide), if_neg k0, if_pos k1, D1, zb2_s, if_neg (by decide)]
          · rw [i2, zb_s, if_neg (by decide), j2, zb_s, if_neg (by decide), k2, zb_s, if_neg (by decide)]
            unfold J_X11_countsBy
            rw [f1, zb_s, f4, if_pos rfl, zb2_s, if_pos rfl]
        · have c1 := zsim_c d3 hp w c
          have hr1 : σ1.2.2 0 1 = p := by rw [d3.2]; exact hr
          obtain ⟨σ2, a1, a2, a3, a4, a5⟩ := tk10 hp w he t1 t2 N1 N8 R8 c1
          obtain ⟨σ3, f1, f2, f3, f4, f5⟩ := D3 σ2 (fun c i hc => a3 c i (by omega))
          have c2 := zsim_c a2 hp w c1
          have m3 := zsim_m (zsim_t (zsim_t d3 a2) f2) m
          obtain ⟨σ4, b1, b2, b3, b4, b5⟩ := ci11 w he t1 t2 N1 N8 R8 m3 f4 f5
          have s4 : zsim σ3 σ4 := ⟨fun c i _ _ => by rw [b2], b3⟩
          have m4 := zsim_m s4 m3
          have hr2 : σ2.2.2 0 1 = p := by rw [a2.2]; exact hr1
          have ne : ¬ nI N = -4 := of_eq_false (z_ng (a := N) (b := 4) (by omega) (by omega) (by omega))
          have cb := zct_b w (t := t) (N := N) (R := R) he (zps P) (Nat.le_refl _)
          have kb := zck_b w (t := t) (N := N) (R := R) (zps P) (Nat.le_refl _)
          have ta := zto_le w he
          have tl := tt_le w (zps P) (Nat.le_refl _)
          obtain ⟨C, hC⟩ : ∃ C, C = zct P e t N R (zps P) := ⟨_, rfl⟩
          obtain ⟨K, hK⟩ : ∃ K, K = zck P t N R (zps P) := ⟨_, rfl⟩
          rw [← hC] at a4 b4 cb
          rw [← hK] at a5 b5 kb
          obtain ⟨A, hA⟩ : ∃ A, A = zptt P (zps P) := ⟨_, rfl⟩
          have m410 : σ4.1 105 10 = nI A := by rw [hA]; exact m4.2.2.2.1
          have T4 := tot11 (σ := σ4) m4 w he
          obtain ⟨o1, o2⟩ := offs (K := K) c2 w he (show C ≤ 594000 by omega) (by omega) a4 a5
          rw [← hA] at o1 o2 tl
          have fin : zRel σ4 ∧ rBank σ4.1 := ⟨zRel_s (zsim_t (zsim_t a2 f2) s4) h1, rBank_c (I := σ1.1) (fun c k hc => by rw [b2, f3 c k (by omega) (by omega), a3 c k (by omega)]) d4⟩
          have pre1 : ∀ Y : Option (Int64 × zS), (Y = if (1 : Int32) ≤ nI K then (zlet (D_X10_scaled_122 (nI x) σ2) fun k122 => if (2 : Int32) ≤ nI x then (zlet (σ2.2.2 0 1) fun p22 => zg (zP p22) (zb (J_X9_off p22 (nI e) σ2) fun r24 => k122 r24)) else (zlet (σ2.2.2 0 1) fun p25 => zg (zP p25) (zb (J_X9_scaledUp p25 σ2) fun r27 => k122 r27))) else (some ((-1000000000004 : Int64), σ2))) → J_X10_scaled (nI s) (nI t) (nI e) (nI x) σ = Y := by
            rintro Y rfl
            unfold J_X10_scaled
            rw [i1, zb_s, if_neg (by decide), j1, zb_s, if_neg (by decide), if_neg k0, if_pos k1, D1, zb2_s, if_pos (show (1 : Int32) ≤ nI N from nI_le (a := 1) N1 (by omega)), zlet_eq, hr1, hz, zg_t, ro10 he D2, zb_s, a1, zb_s, a5]
          have pre2 : ∀ Y : Option (Int64 × zS), (Y = if (lg_cmp (lN K) (0 : Int64)) = (0 : Int32) then (some ((-1000000000004 : Int64), σ4)) else (zlet (D_X11_scaled_91 (nI x) σ4 (lN (C * A))) fun k91 => if (2 : Int32) ≤ nI x then (zb (J_X11_total (nI e) σ4) fun r14 => k91 ((r14.toInt64) * (lN K))) else (k91 (0 : Int64)))) → J_X11_scaled (nI s) (nI t) (nI e) (nI x) σ2 = Y := by
            rintro Y rfl
            unfold J_X11_scaled
            rw [i2, zb_s, if_neg (by decide), j2, zb_s, if_neg (by decide), k2, zb_s, if_neg (by decide)]
            unfold J_X11_countsBy
            rw [f1, zb_s, f4, if_neg ne, b1, zb_s, zb2_s, if_neg (by decide), b5, b4, m410, nI_l (show A < 2147483648 by omega), lN_mul, zlet_eq]
          show ∃ r σ1' σ2', J_X10_scaled (nI s) (nI t) (nI e) (nI x) σ = some (r, σ1') ∧ J_X11_scaled (nI s) (nI t) (nI e) (nI x) σ1' = some (r, σ2') ∧ _
          by_cases hK0 : K = 0
          · refine ⟨-1000000000004, σ2, σ4, pre1 _ ?_, pre2 _ ?_, fin⟩
            · rw [hK0, if_neg (by decide)]
            · rw [hK0, if_pos (by decide)]
          · have g1 : (1 : Int32) ≤ nI K := nI_le (a := 1) (by omega) (by omega)
            have g2 : ¬ lg_cmp (lN K) (0 : Int64) = (0 : Int32) := of_eq_false (lc_eq_f (b := 0) hK0 (by omega) (by omega))
            have rm : nI x - nI x / 2 * 2 = nI (x % 2) := pk_rem (d := 2) (by omega) (by omega) (by omega)
            have m1 : C * A ≤ 594000 * 120000 := Nat.mul_le_mul (by omega) (by omega)
            have m2 : zto P e * K ≤ 594000 * 120000 := Nat.mul_le_mul (by omega) (by omega)
            have core : ∀ (y : Int64) (aa : Nat), zab y aa → aa < 9223372036854775808 → ∃ r, D_X10_scaled_122 (nI x) σ2 y = some (r, σ2) ∧ zb (J_X11_told y (lN K) (nI (x % 2)) σ4) (fun r12 => some (r12, σ4)) = some (r, σ4) := by
              intro y aa hy hyb
              refine ⟨if nI (x % 2) = nI 0 then y / lN (Nat.gcd aa K) else lN K / lN (Nat.gcd aa K), ?_, ?_⟩
              · unfold D_X10_scaled_122
                rw [rm, a5, nI_l (show K < 2147483648 by omega), zlet_eq, zlet_eq, low10 hy hyb (by omega) (by omega), zb_s]
                by_cases q : nI (x % 2) = 0
                · rw [if_pos q, if_neg (show ¬ (1 : Int32) = nI 0 by decide), if_pos (show nI (x % 2) = nI 0 from q)]
                · rw [if_neg q, if_pos (show (0 : Int32) = nI 0 from rfl), if_neg (show ¬ nI (x % 2) = nI 0 from q)]
              · rw [told11 hy hyb (by omega) (by omega), zb_s]
            by_cases hx2 : 2 ≤ x
            · have q2 : (2 : Int32) ≤ nI x := nI_le (a := 2) hx2 (by omega)
              obtain ⟨r, r1, r2⟩ := core (lN (C * A) - lN (zto P e * K)) (zds (C * A) (zto P e * K)) zab_sub (by unfold zds; omega)
              refine ⟨r, σ2, σ4, pre1 _ ?_, pre2 _ ?_, fin⟩
              · rw [if_pos g1, zlet_eq, if_pos q2, zlet_eq, hr2, hz, zg_t, o2, zb_s]
                exact r1.symm
              · rw [if_neg g2, zlet_eq, if_pos q2, T4, zb_s, nI_l (show zto P e < 2147483648 by omega), lN_mul]
                unfold D_X11_scaled_91
                rw [b5, rm]
                exact r2.symm
            · have q2 : ¬ (2 : Int32) ≤ nI x := nI_ge (b := 2) (by omega) (by omega)
              obtain ⟨r, r1, r2⟩ := core (lN (C * A)) (C * A) (Or.inl rfl) (by omega)
              have s0 : lN (C * A) - (0 : Int64) = lN (C * A) := lN_sub (b := 0) (Nat.zero_le _)
              refine ⟨r, σ2, σ4, pre1 _ ?_, pre2 _ ?_, fin⟩
              · rw [if_pos g1, zlet_eq, if_neg q2, zlet_eq, hr2, hz, zg_t, o1, zb_s]
                exact r1.symm
              · rw [if_neg g2, zlet_eq, if_neg q2]
                unfold D_X11_scaled_91
                rw [s0, b5, rm]
                exact r2.symm
      · have k2 : ∀ σ, J_X11_in f.toInt64 0 3 σ = some 0 := fun σ => in4_n (σ := σ) 4 hf (by decide) (by decide)
        refine ⟨-1000000000000, σ, σ, ?_, by rw [i2, zb_s, if_neg (by decide), j2, zb_s, if_neg (by decide), k2, zb_s, if_pos rfl], h, hb⟩
        rw [i1, zb_s, if_neg (by decide), j1, zb_s, if_neg (by decide)]
        by_cases q : f < 0
        · rw [if_pos q]
        · rw [if_neg q, if_neg]
          obtain ⟨j, hj, rfl⟩ := nI_of q
          exact nI_ge (a := 3) (Nat.lt_of_not_le fun q2 => hf ⟨j, by omega, rfl⟩) hj
    · have j1 := fun σ => slc_n (σ := σ) hb2
      have j2 : ∀ σ, J_X11_in b.toInt64 1 999 σ = some 0 := fun σ => zin_n hb2 rfl rfl (by decide) (by decide)
      exact ⟨-1000000000000, σ, σ, by rw [i1, zb_s, if_neg (by decide), j1, zb_s, if_pos rfl], by rw [i2, zb_s, if_neg (by decide), j2, zb_s, if_pos rfl], h, hb⟩
  · exact ⟨-1000000000000, σ, σ, by rw [i1, zb_s, if_pos rfl], by rw [i2, zb_s, if_pos rfl], h, hb⟩
