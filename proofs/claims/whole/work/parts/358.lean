set_option maxRecDepth 8000
theorem fnl_ {P : zM} (w : wPr P) {p e hi N R : Nat} (hp : p = 3 ∨ p = 33) (he : e < 8) (hhi : hi ≤ 999) (hN : 1 ≤ N) (hN8 : N ≤ 8) (hR : R < 8) : ∀ k E n (x : Int32) (y z : Int64), E + k = hi + 1 → 1 ≤ E → k < n → ∃ r, (∀ σ, σ.2.2 0 1 = p → zP p = true → cPr σ.1 p P → ∃ σ', L_X10_nearestSlice_25 (nI hi) (nI N) (nI e) (nI R) n x y z (nI E) σ = some (r, σ') ∧ zsim σ σ' ∧ ∀ c j, ¬ c = 88 → σ'.1 c j = σ.1 c j) ∧ ∀ σ, mPr σ.1 P → σ.1 105 41 = nI N → zrd (σ.1 129) e N R → ∃ σ', L_X11_finest_63 (nI hi) (nI e) n x y z (nI E) σ = some (r, σ') ∧ zsim σ σ' ∧ σ'.1 = σ.1 := by
  have w1 := w.1
  have w3 := w.2.2.1
  intro k
  induction k with
  | zero =>
    intro E n x y z h E1 hn
    cases n with
    | zero => omega
    | succ n =>
      have hlt : nI hi < nI E := nI_lt (by omega) (by omega)
      refine ⟨x, ?_, ?_⟩
      · intro σ _ _ _
        rw [L_X10_nearestSlice_25, zlet_eq, if_pos hlt]
        exact ⟨σ, rfl, zsim_r σ, fun _ _ _ => rfl⟩
      · intro σ _ _ _
        rw [L_X11_finest_63, zlet_eq, if_pos hlt]
        exact ⟨σ, rfl, zsim_r σ, rfl⟩
  | succ k ih =>
    intro E n x y z h E1 hn
    cases n with
    | zero => omega
    | succ n =>
      have hlt : ¬ nI hi < nI E := nI_nlt (by omega) (by omega)
      have t4 : nI E + 1 = nI (E + 1) := nI_add E 1
      have cb := zct_b w (t := E) (N := N) (R := R) he (zps P) (Nat.le_refl _)
      have kb := zck_b w (t := E) (N := N) (R := R) (zps P) (Nat.le_refl _)
      have ta := zto_le w he
      have tl := tt_le w (zps P) (Nat.le_refl _)
      obtain ⟨C, hC⟩ : ∃ C, C = zct P e E N R (zps P) := ⟨_, rfl⟩
      obtain ⟨K, hK⟩ : ∃ K, K = zck P E N R (zps P) := ⟨_, rfl⟩
      rw [← hC] at cb
      rw [← hK] at kb
      obtain ⟨A, hA⟩ : ∃ A, A = zptt P (zps P) := ⟨_, rfl⟩
      rw [← hA] at tl
      have m1 : C * A ≤ 594000 * 120000 := Nat.mul_le_mul (by omega) (by omega)
      have m2 : zto P e * K ≤ 594000 * 120000 := Nat.mul_le_mul (by omega) (by omega)
      have zb1 : zds (C * A) (zto P e * K) < 9223372036854775808 := by unfold zds; omega
      obtain ⟨F, hF⟩ : ∃ F, F = lN (zds (C * A) (zto P e * K)) := ⟨_, rfl⟩
      obtain ⟨keep, hkeep⟩ : ∃ keep : Bool, keep = (decide (K = 0) || (!decide (x = -4) && decide ((0 : Int32) ≤ lg_cmp (F * z) (y * lN K)))) := ⟨_, rfl⟩
      obtain ⟨r, r1, r2⟩ := ih (E + 1) n (if keep then x else nI E) (if keep then y else F) (if keep then z else lN K) (by omega) (by omega) (by omega)
      have pick : ∀ {α : Type} (u v : α), (if nI K ≤ 0 then u else if x = -4 then v else if (0 : Int32) ≤ lg_cmp (F * z) (y * lN K) then u else v) = if keep then u else v := by
        intro α u v'
        rw [hkeep]
        by_cases h0 : K = 0
        · rw [if_pos (show nI K ≤ 0 by rw [h0]; decide)]
          simp [h0]
        · rw [if_neg (show ¬ nI K ≤ 0 from nI_nle (by omega) (by omega))]
          by_cases hx : x = -4
          · simp [h0, hx]
          · by_cases hc : (0 : Int32) ≤ lg_cmp (F * z) (y * lN K)
            · simp [h0, hx, hc]
            · simp [h0, hx, hc]
      refine ⟨r, ?_, ?_⟩
      · intro σ hr hz c
        obtain ⟨σ1, a1, a2, a3, a4, a5⟩ := tk10 hp w he E1 (show E ≤ 999 by omega) hN hN8 hR c
        rw [← hC] at a4
        rw [← hK] at a5
        have c1 := zsim_c a2 hp w c
        have hr1 : σ1.2.2 0 1 = p := by rw [a2.2]; exact hr
        obtain ⟨-, o2⟩ := offs (K := K) c1 w he (show C ≤ 594000 by omega) (by omega) a4 a5
        rw [← hA] at o2
        have ab := abs10 (zab_sub (a := C * A) (b := zto P e * K)) zb1
        rw [← hF] at ab
        obtain ⟨σ', g1, g2, g3⟩ := r1 σ1 hr1 hz c1
        refine ⟨σ', ?_, zsim_t a2 g2, fun c j hc => by rw [g3 c j hc, a3 c j (by omega)]⟩
        rw [L_X10_nearestSlice_25, zlet_eq, if_neg hlt, zlet_eq, hr, hz, zg_t, a1, zb_s, zlet_eq, hr1, hz, zg_t, o2, zb_s, ab, zlet_eq, a5, nI_l (show K < 2147483648 by omega), pick, pick, pick, zlet_eq, zlet_eq, zlet_eq, t4, zlet_eq]
        exact g1
      · intro σ m h41 hrd
        obtain ⟨σ1, b1, b2, b3, b4, b5⟩ := ci11 w he E1 (show E ≤ 999 by omega) hN hN8 hR m h41 hrd
        rw [← hC] at b4
        rw [← hK] at b5
        have m' : mPr σ1.1 P := by rw [b2]; exact m
        have h410 : σ1.1 105 10 = nI A := by rw [hA]; exact m'.2.2.2.1
        have T4 := tot11 (σ := σ1) m' w he
        have sz := size11 (σ := σ1) (zab_sub (a := C * A) (b := zto P e * K)) zb1
        rw [← hF] at sz
        have ne : ¬ nI N = -4 := of_eq_false (z_ng (a := N) (b := 4) (by omega) (by omega) (by omega))
        obtain ⟨σ', g1, g2, g3⟩ := r2 σ1 m' (by rw [b2]; exact h41) (by rw [b2]; exact hrd)
        refine ⟨σ', ?_, zsim_t ⟨fun c i _ _ => by rw [b2], b3⟩ g2, g3.trans b2⟩
        have hle : (lg_cmp (lN K) (0 : Int64) ≤ (0 : Int32)) = (nI K ≤ 0) := by
          by_cases q : K = 0
          · rw [q]
            exact propext ⟨fun _ => by decide, fun _ => by decide⟩
          · have q1 : (lg_cmp (lN K) (0 : Int64) ≤ (0 : Int32)) = False := lc_le_f (b := 0) (by omega) (by omega)
            have q2 : (nI K ≤ 0) = False := eq_false (nI_nle (by omega) (by omega))
            rw [q1, q2]
        have flag : (if nI K ≤ 0 then (0 : Int32) else if x = -4 then 1 else if (0 : Int32) ≤ lg_cmp (F * z) (y * lN K) then 0 else 1) = if keep then 0 else 1 := pick 0 1
        have flag' : ∀ {α : Type} (u v : α), (if (if keep = true then (0 : Int32) else 1) = 0 then u else v) = if keep then u else v := by
          intro α u v
          cases keep <;> rfl
        rw [L_X11_finest_63, zlet_eq, if_neg hlt, h41, if_neg ne, b1, zb_s, T4, zb_s, b4, b5, h410, nI_l (show A < 2147483648 by omega), nI_l (show zto P e < 2147483648 by omega), lN_mul, lN_mul, sz, zb_s]
        simp only [hle]
        rw [flag, zlet_eq, flag', flag', flag', zlet_eq, zlet_eq, zlet_eq, t4, zlet_eq]
        exact g1
theorem pp_finest (a b d f : Int32) : zGood (J_X10_finest a b d f) (J_X11_finest a b d f) := by
  intro σ h kb
  unfold J_X10_finest J_X11_finest
  rcases io_ a f with ⟨s, e, hs, he, hbit, rfl, rfl, i1, i2⟩ | ⟨i1, i2⟩
  · by_cases hb2 : zR b 1 999
    · have j1 := fun σ => slc_y (σ := σ) hb2
      have j2 : ∀ σ, J_X11_in b.toInt64 1 999 σ = some 1 := fun σ => zin_y hb2 rfl rfl (by decide) (by decide)
      obtain ⟨t, t1, t2, rfl⟩ := hb2
      have il : (nI t).toInt64 = lN t := nI_l (by omega)
      by_cases hd : zR d t 999
      · have k1 := fun σ => slc_y (σ := σ) (d := d) (by obtain ⟨u, u1, u2, u3⟩ := hd; exact ⟨u, by omega, u2, u3⟩)
        have k2 : ∀ σ, J_X11_in d.toInt64 (nI t).toInt64 999 σ = some 1 := fun σ => zin_y hd il rfl (by decide) (by omega)
        obtain ⟨u, u1, u2, rfl⟩ := hd
        have t2' : ¬ nI u < nI t := nI_nlt u1 (by omega)
        have t3 : nI u - nI t = nI (u - t) := pk_sub u1
        by_cases hw : u - t ≤ 199
        · have t4 : ¬ (200 : Int32) ≤ nI (u - t) := nI_ge (b := 200) (by omega) (by omega)
          have t5 : nI (u - t) ≤ (199 : Int32) := nI_le (b := 199) hw (by omega)
          have rg : ∀ σ, J_X10_isRange (nI t) (nI u) σ = some 1 := fun σ => by
            unfold J_X10_isRange
            rw [if_neg t2', t3, if_neg t4]
          obtain ⟨P, p, hp, hr, hz, w, c, m⟩ := zopen h
          obtain ⟨σ1, d3, d4, D⟩ := rdy h kb hs hbit
          have h1 := zRel_s d3 h
          rcases D with ⟨D1, D2⟩ | ⟨N, R, N1, N8, R8, D1, D2, D3⟩
          · obtain ⟨σ2, f1, f2, f3, f4⟩ := D2 σ1 (fun _ _ _ => rfl)
            refine ⟨-4, σ1, σ2, ?_, ?_, zRel_s f2 h1, rBank_c (I := σ1.1) (fun c k hc => f3 c k (by omega) (by omega)) d4⟩
            · rw [i1, zb_s, if_neg (by decide), j1, zb_s, if_neg (by decide), k1, zb_s, if_neg (by decide), rg, zb_s, if_neg (by decide), D1, zb2_s, if_neg (by decide)]
            · rw [i2, zb_s, if_neg (by decide), j2, zb_s, if_neg (by decide), k2, zb_s, if_neg (by decide), t3, if_pos t5, f1, zb_s, L_X11_finest_63, zlet_eq, if_neg t2', f4, if_pos rfl]
          · have c1 := zsim_c d3 hp w c
            have hr1 : σ1.2.2 0 1 = p := by rw [d3.2]; exact hr
            obtain ⟨r, r1, r2⟩ := fnl_ w hp he u2 N1 N8 R8 (u + 1 - t) t 4294967296 (-4) 0 1 (by omega) t1 (by omega)
            obtain ⟨σ2, a1, a2, a3⟩ := r1 σ1 hr1 hz c1
            obtain ⟨σ3, f1, f2, f3, f4, f5⟩ := D3 σ2 (fun c i hc => a3 c i (by omega))
            have m3 := zsim_m (zsim_t (zsim_t d3 a2) f2) m
            obtain ⟨σ4, b1, b2, b3⟩ := r2 σ3 m3 f4 f5
            refine ⟨r, σ2, σ4, ?_, ?_, zRel_s (zsim_t (zsim_t a2 f2) b2) h1, rBank_c (I := σ1.1) (fun c k hc => by rw [b3, f3 c k (by omega) (by omega), a3 c k (by omega)]) d4⟩
            · rw [i1, zb_s, if_neg (by decide), j1, zb_s, if_neg (by decide), k1, zb_s, if_neg (by decide), rg, zb_s, if_neg (by decide), D1, zb2_s, if_pos (show (1 : Int32) ≤ nI N from nI_le (a := 1) N1 (by omega))]
              unfold J_X10_nearestSlice
              rw [ro10 he D2, zb_s, a1, zb2_s]
            · rw [i2, zb_s, if_neg (by decide), j2, zb_s, if_neg (by decide), k2, zb_s, if_neg (by decide), t3, if_pos t5, f1, zb_s]
              exact b1
        · have t4 : (200 : Int32) ≤ nI (u - t) := nI_le (a := 200) (by omega) (by omega)
          have t5 : ¬ nI (u - t) ≤ (199 : Int32) := nI_ge (a := 199) (by omega) (by omega)
          have rg : ∀ σ, J_X10_isRange (nI t) (nI u) σ = some 0 := fun σ => by
            unfold J_X10_isRange
            rw [if_neg t2', t3, if_pos t4]
          refine ⟨-1, σ, σ, ?_, ?_, h, kb⟩
          · rw [i1, zb_s, if_neg (by decide), j1, zb_s, if_neg (by decide), k1, zb_s, if_neg (by decide), rg, zb_s, if_pos rfl]
          · rw [i2, zb_s, if_neg (by decide), j2, zb_s, if_neg (by decide), k2, zb_s, if_neg (by decide), t3, if_neg t5]
      · have k2 : ∀ σ, J_X11_in d.toInt64 (nI t).toInt64 999 σ = some 0 := fun σ => zin_n hd il rfl (by decide) (by omega)
        refine ⟨-1, σ, σ, ?_, ?_, h, kb⟩
        · rw [i1, zb_s, if_neg (by decide), j1, zb_s, if_neg (by decide)]
          by_cases hs2 : zR d 1 999
          · have k1 := fun σ => slc_y (σ := σ) hs2
            rw [k1, zb_s, if_neg (by decide)]
            obtain ⟨u, u1, u2, rfl⟩ := hs2
            have lt : nI u < nI t := nI_lt (Nat.lt_of_not_le fun q => hd ⟨u, q, u2, rfl⟩) (by omega)
            unfold J_X10_isRange
            rw [if_pos lt, zb_s, if_pos rfl]
          · have k1 := fun σ => slc_n (σ := σ) hs2
            rw [k1, zb_s, if_pos rfl]
        · rw [i2, zb_s, if_neg (by decide), j2, zb_s, if_neg (by decide), k2, zb_s, if_pos rfl]
    · have j1 := fun σ => slc_n (σ := σ) hb2
      have j2 : ∀ σ, J_X11_in b.toInt64 1 999 σ = some 0 := fun σ => zin_n hb2 rfl rfl (by decide) (by decide)
      exact ⟨-1, σ, σ, by rw [i1, zb_s, if_neg (by decide), j1, zb_s, if_pos rfl], by rw [i2, zb_s, if_neg (by decide), j2, zb_s, if_pos rfl], h, kb⟩
  · exact ⟨-1, σ, σ, by rw [i1, zb_s, if_pos rfl], by rw [i2, zb_s, if_pos rfl], h, kb⟩
