set_option maxRecDepth 8000
/-! ===== sliced, scaled ===== -/
theorem io_ (a b : Int32) : (∃ s e, s < 256 ∧ e < 8 ∧ s.testBit e = true ∧ a = nI s ∧ b = nI e ∧ (∀ σ, J_X10_isOneOf b a σ = some 1) ∧ ∀ σ, J_X11_isOf a b σ = some 1) ∨ ((∀ σ, J_X10_isOneOf b a σ = some 0) ∧ ∀ σ, J_X11_isOf a b σ = some 0) := by
  by_cases ha : zL a 256
  · have e2 := fun σ => areEvents_y (σ := σ) ha
    have e1 := fun σ => isSet_y (σ := σ) ha
    by_cases hb : zL b 8
    · have e4 := fun σ => isEventM_y (σ := σ) hb
      obtain ⟨s, hs, rfl⟩ := ha
      obtain ⟨e, he, rfl⟩ := hb
      have tb := tb_bit hs he
      cases hbit : s.testBit e
      · right
        refine ⟨fun σ => by rw [ioo he hs, hbit]; rfl, fun σ => ?_⟩
        unfold J_X11_isOf
        rw [e2, zb_s, if_neg (by decide), e4, zb_s, if_neg (by decide), tb, hbit, if_neg (by decide)]
      · left
        refine ⟨s, e, hs, he, hbit, rfl, rfl, fun σ => by rw [ioo he hs, hbit]; rfl, fun σ => ?_⟩
        unfold J_X11_isOf
        rw [e2, zb_s, if_neg (by decide), e4, zb_s, if_neg (by decide), tb, hbit, if_pos (by decide)]
    · right
      have e3 := fun σ => isEvent_n (σ := σ) hb
      have e4 := fun σ => isEventM_n (σ := σ) hb
      refine ⟨fun σ => ?_, fun σ => ?_⟩
      · unfold J_X10_isOneOf
        rw [e1, zb_s, if_neg (by decide), e3, zb_s, if_pos rfl]
      · unfold J_X11_isOf
        rw [e2, zb_s, if_neg (by decide), e4, zb_s, if_pos rfl]
  · right
    have e1 := fun σ => isSet_n (σ := σ) ha
    have e2 := fun σ => areEvents_n (σ := σ) ha
    refine ⟨fun σ => ?_, fun σ => ?_⟩
    · unfold J_X10_isOneOf
      rw [e1, zb_s, if_pos rfl]
    · unfold J_X11_isOf
      rw [e2, zb_s, if_pos rfl]
/-- both divide the same -/
theorem rdy {σ : zS} (h : zRel σ) (hb : rBank σ.1) {s e : Nat} (hs : s < 256) (hbit : s.testBit e = true) : ∃ σ1, zsim σ σ1 ∧ rBank σ1.1 ∧ ((J_X0_divide (nI s) σ = some (-4, σ1) ∧ ∀ τ, (∀ c i, (c = 105 ∧ i = 36) ∨ c = 125 → τ.1 c i = σ1.1 c i) → ∃ σ2, J_X11_findRounds (nI s) τ = some σ2 ∧ zsim τ σ2 ∧ (∀ c i, ¬ (127 ≤ c ∧ c ≤ 129) → ¬ (c = 105 ∧ i = 41) → σ2.1 c i = τ.1 c i) ∧ σ2.1 105 41 = -4) ∨ ∃ N R, 1 ≤ N ∧ N ≤ 8 ∧ R < 8 ∧ J_X0_divide (nI s) σ = some (nI N, σ1) ∧ zrd (σ1.1 85) e N R ∧ ∀ τ, (∀ c i, (c = 105 ∧ i = 36) ∨ c = 125 → τ.1 c i = σ1.1 c i) → ∃ σ2, J_X11_findRounds (nI s) τ = some σ2 ∧ zsim τ σ2 ∧ (∀ c i, ¬ (127 ≤ c ∧ c ≤ 129) → ¬ (c = 105 ∧ i = 41) → σ2.1 c i = τ.1 c i) ∧ σ2.1 105 41 = nI N ∧ zrd (σ2.1 129) e N R) := by
  obtain ⟨σ1, k, M, F, r, d1, d2, d3, d4, d5, d6⟩ := divs h hb hs
  have sim : ∀ τ σ2 : zS, σ2.2 = τ.2 → (∀ c i, ¬ (127 ≤ c ∧ c ≤ 129) → ¬ (c = 105 ∧ i = 41) → σ2.1 c i = τ.1 c i) → zsim τ σ2 := fun τ σ2 f2 f3 => ⟨fun c i h1 _ => f3 c i (by simp only [zscr] at h1; omega) (by simp only [zscr] at h1; omega), by rw [f2]⟩
  refine ⟨σ1, d3, d4, ?_⟩
  rcases d5 with ⟨u1, u2⟩ | ⟨u1, u2, u3⟩
  · left
    rw [u2] at d1
    refine ⟨d1, fun τ ht => ?_⟩
    obtain ⟨σ2, f1, f2, f3, f4⟩ := d6 τ ht
    refine ⟨σ2, f1, sim τ σ2 f2 f3, f3, ?_⟩
    rcases f4 with ⟨v1, v2⟩ | ⟨v1, v2, v3⟩
    · exact v2
    · omega
  · right
    rw [u2] at d1
    have h0 : 0 < s := by
      rcases Nat.eq_zero_or_pos s with q | q
      · rw [q, Nat.zero_testBit] at hbit
        cases hbit
      · exact q
    have f1' : 1 ≤ F s := by
      rcases (d2.2 s h0 hs).2.2 with q | ⟨t, _, q⟩ <;> omega
    obtain ⟨l, l1, l2⟩ := rl_ex d2 (F s) s hs rfl (by omega)
    obtain ⟨i0, i1, i2⟩ := rl_ev l s l1 hbit
    obtain ⟨R, ⟨R1, R2⟩, R3⟩ := pk_least (fun i => i < l.length ∧ (l.getD i 0).testBit e = true) ⟨i0, i1, i2⟩
    have mk : ∀ cell : Nat → Int32, (∀ j, j < l.length → cell j = nI (l.getD j 0)) → zrd cell e (F s) R := fun cell hc => ⟨by omega, u1, fun j => l.getD j 0, fun j hj => ⟨rl_256 l s l1 j, hc j (by omega)⟩, R2, fun j hj => by
      cases hx : (l.getD j 0).testBit e
      · rfl
      · exact absurd ⟨by omega, hx⟩ (R3 j hj)⟩
    refine ⟨F s, R, f1', u1, by omega, d1, mk _ (u3 l l1), fun τ ht => ?_⟩
    obtain ⟨σ2, f1, f2, f3, f4⟩ := d6 τ ht
    rcases f4 with ⟨v1, v2⟩ | ⟨v1, v2, v3⟩
    · omega
    · exact ⟨σ2, f1, sim τ σ2 f2 f3, f3, v2, mk _ (v3 l l1)⟩
theorem pp_sliced (a b d f : Int32) : zGood (J_X10_sliced a b d f) (J_X11_sliced a b d f) := by
  intro σ h hb
  unfold J_X10_sliced J_X11_sliced
  rcases io_ a d with ⟨s, e, hs, he, hbit, rfl, rfl, i1, i2⟩ | ⟨i1, i2⟩
  · by_cases hb2 : zR b 1 999
    · have j1 := fun σ => slc_y (σ := σ) hb2
      have j2 : ∀ σ, J_X11_in b.toInt64 1 999 σ = some 1 := fun σ => zin_y hb2 rfl rfl (by decide) (by decide)
      by_cases hf : zL f 2
      · have k1 := fun σ => ei_y (σ := σ) hf
        have k2 := fun σ => in01_y (σ := σ) hf
        obtain ⟨P, p, hp, hr, hz, w, c, m⟩ := zopen h
        obtain ⟨t, t1, t2, rfl⟩ := hb2
        obtain ⟨σ1, d3, d4, D⟩ := rdy h hb hs hbit
        have h1 := zRel_s d3 h
        have w3 := w.2.2.1
        rcases D with ⟨D1, D2⟩ | ⟨N, R, N1, N8, R8, D1, D2, D3⟩
        · obtain ⟨σ2, f1, f2, f3, f4⟩ := D2 σ1 (fun _ _ _ => rfl)
          refine ⟨-4, σ1, σ2, ?_, ?_, zRel_s f2 h1, rBank_c (I := σ1.1) (fun c k hc => f3 c k (by omega) (by omega)) d4⟩
          · rw [i1, zb_s, if_neg (by decide), j1, zb_s, if_neg (by decide), k1, zb_s, if_neg (by decide), D1, zb2_s, if_neg (by decide)]
          · rw [i2, zb_s, if_neg (by decide), j2, zb_s, if_neg (by decide), k2, zb_s, if_neg (by decide)]
            unfold J_X11_countsBy
            rw [f1, zb_s, f4, if_pos rfl, zb2_s, if_pos rfl]
        · have c1 := zsim_c d3 hp w c
          have hr1 : σ1.2.2 0 1 = p := by rw [d3.2]; exact hr
          obtain ⟨σ2, a1, a2, a3, a4, a5⟩ := tk10 hp w he t1 t2 N1 N8 R8 c1
          obtain ⟨σ3, f1, f2, f3, f4, f5⟩ := D3 σ2 (fun c i hc => a3 c i (by omega))
          have m3 := zsim_m (zsim_t (zsim_t d3 a2) f2) m
          obtain ⟨σ4, b1, b2, b3, b4, b5⟩ := ci11 w he t1 t2 N1 N8 R8 m3 f4 f5
          have s4 : zsim σ3 σ4 := ⟨fun c i _ _ => by rw [b2], b3⟩
          have ne : ¬ nI N = -4 := of_eq_false (z_ng (a := N) (b := 4) (by omega) (by omega) (by omega))
          have cb := zct_b w (t := t) (N := N) (R := R) he (zps P) (Nat.le_refl _)
          have kb := zck_b w (t := t) (N := N) (R := R) (zps P) (Nat.le_refl _)
          refine ⟨if f = 0 then nI (zct P e t N R (zps P)) else nI (zck P t N R (zps P)), σ2, σ4, ?_, ?_, zRel_s (zsim_t (zsim_t a2 f2) s4) h1, rBank_c (I := σ1.1) (fun c k hc => by rw [b2, f3 c k (by omega) (by omega), a3 c k (by omega)]) d4⟩
          · rw [i1, zb_s, if_neg (by decide), j1, zb_s, if_neg (by decide), k1, zb_s, if_neg (by decide), D1, zb2_s, if_pos (show (1 : Int32) ≤ nI N from nI_le (a := 1) N1 (by omega)), zlet_eq, hr1, hz, zg_t, ro10 he D2, zb_s, a1, zb_s, a4, a5]
            split <;> rfl
          · rw [i2, zb_s, if_neg (by decide), j2, zb_s, if_neg (by decide), k2, zb_s, if_neg (by decide)]
            unfold J_X11_countsBy
            rw [f1, zb_s, f4, if_neg ne, b1, zb_s, zb2_s, if_neg (by decide), b4, b5, lN_i, lN_i]
            split <;> rfl
      · have k1 := fun σ => ei_n (σ := σ) hf
        have k2 := fun σ => in01_n (σ := σ) hf
        exact ⟨-1, σ, σ, by rw [i1, zb_s, if_neg (by decide), j1, zb_s, if_neg (by decide), k1, zb_s, if_pos rfl], by rw [i2, zb_s, if_neg (by decide), j2, zb_s, if_neg (by decide), k2, zb_s, if_pos rfl], h, hb⟩
    · have j1 := fun σ => slc_n (σ := σ) hb2
      have j2 : ∀ σ, J_X11_in b.toInt64 1 999 σ = some 0 := fun σ => zin_n hb2 rfl rfl (by decide) (by decide)
      exact ⟨-1, σ, σ, by rw [i1, zb_s, if_neg (by decide), j1, zb_s, if_pos rfl], by rw [i2, zb_s, if_neg (by decide), j2, zb_s, if_pos rfl], h, hb⟩
  · exact ⟨-1, σ, σ, by rw [i1, zb_s, if_pos rfl], by rw [i2, zb_s, if_pos rfl], h, hb⟩
