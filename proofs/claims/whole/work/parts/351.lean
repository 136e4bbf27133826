set_option maxRecDepth 8000
/-! ===== divide, findRounds, rounds ===== -/
theorem zcan_cg {k : Nat} {M M' : Nat → Nat} (h : ∀ c, c < k → M c = M' c) : ∀ l u, zcan k M l u = zcan k M' l u := by
  intro l
  induction l with
  | nil => intro u; rfl
  | cons e r ih =>
    intro u
    rw [Bool.eq_iff_iff, zcan, zcan, List.any_eq_true, List.any_eq_true]
    constructor
    · rintro ⟨c, hc, x⟩
      exact ⟨c, hc, by rw [← ih, ← h c (List.mem_range.mp hc)]; exact x⟩
    · rintro ⟨c, hc, x⟩
      exact ⟨c, hc, by rw [ih, h c (List.mem_range.mp hc)]; exact x⟩
theorem zfew_cg {k : Nat} {M M' F : Nat → Nat} (h : ∀ c, c < k → M c = M' c) (hF : zFew k M' F) : zFew k M F := by
  have e : ∀ t, zfits k M t = zfits k M' t := fun t => zcan_cg h _ _
  have g : ∀ s t, zgd k M s t ↔ zgd k M' s t := fun s t => by unfold zgd; rw [e]
  refine ⟨hF.1, fun s h1 h2 => ?_⟩
  obtain ⟨a, b, c⟩ := hF.2 s h1 h2
  refine ⟨a, fun t ht => b t ((g s t).mp ht), ?_⟩
  rcases c with c | ⟨t, t1, t2⟩
  · exact Or.inl c
  · exact Or.inr ⟨t, (g s t).mpr t1, t2⟩
theorem learn_ {σ : zS} {k : Nat} {M : Nat → Nat} (hb : rBank σ.1) (hk : k ≤ 4) (k3 : σ.1 82 0 = nI k) (hM : ∀ c, c < 4 → M c < 256 ∧ σ.1 83 c = nI (M c)) : ∃ σ' F, J_X0_learn σ = some σ' ∧ zFew k M F ∧ (∀ s, s < 256 → σ'.1 86 s = nI (if zfits k M s then 1 else 0) ∧ σ'.1 87 s = nI (F s)) ∧ σ'.2 = σ.2 ∧ ∀ c i, ¬ zbk c i → σ'.1 c i = σ.1 c i := by
  unfold J_X0_learn
  rcases hb with h | ⟨h, k', M', F, h1, h2, h3, h4, h5⟩
  · rw [h, if_pos (show nI 0 = 0 from rfl), zlet_eq]
    obtain ⟨σ', F', e1, e2, e3, e4, e5⟩ := le_ hk 256 0 4294967296 (zsI σ 82 6 (1 : Int32)) (fun _ => 0) (by omega) (by omega) (by rw [zI_n (by omega)]; exact k3) (fun c hc => ⟨(hM c hc).1, by rw [zI_n (by omega)]; exact (hM c hc).2⟩) (fun t ht => by omega) ⟨rfl, fun s h1 h2 => by omega⟩
    refine ⟨σ', F', e1, e2, e3, e4, fun c i hc => ?_⟩
    simp only [zbk] at hc
    rw [e5 c i (by omega) (by omega), zI_n (by omega)]
  · have kk : k' = k := by
      rw [h2] at k3
      exact (nI_eq (by omega) (by omega)).mp k3
    subst kk
    have hMM : ∀ c, c < k' → M c = M' c := by
      intro c hc
      have a := (h3 c (by omega)).2
      have b := (hM c (by omega)).2
      rw [a] at b
      have := (h3 c (by omega)).1
      have := (hM c (by omega)).1
      exact ((nI_eq (by omega) (by omega)).mp b).symm
    refine ⟨σ, F, ?_, zfew_cg hMM h4, fun s hs => ⟨?_, (h5 s hs).2⟩, rfl, fun _ _ _ => rfl⟩
    · rw [h, if_neg (show ¬ nI 1 = 0 by decide)]
    · rw [(h5 s hs).1, show zfits k' M s = zfits k' M' s from zcan_cg hMM _ _]
def zdiv (k : Nat) (M F : Nat → Nat) (s : Nat) (r : Int32) (cell : Nat → Int32) : Prop := (F s = 100 ∧ r = -4) ∨ (F s ≤ 8 ∧ r = nI (F s) ∧ ∀ l, zrl k M F l s → ∀ j, j < l.length → cell j = nI (l.getD j 0))
theorem rl_u {k : Nat} {M F : Nat → Nat} : ∀ l s m, zrl k M F l s → zrl k M F m s → l = m := by
  intro l
  induction l with
  | nil =>
    intro s m h1 h2
    cases m with
    | nil => rfl
    | cons t r => exact absurd h1 h2.1
  | cons t r ih =>
    intro s m h1 h2
    cases m with
    | nil => exact absurd h2 h1.1
    | cons u r2 =>
      have e : t = u := by
        rcases Nat.lt_trichotomy t u with x | x | x
        · exact absurd ⟨h1.2.1.1, h1.2.1.2.1⟩ (h2.2.1.2.2 t x)
        · exact x
        · exact absurd ⟨h2.2.1.1, h2.2.1.2.1⟩ (h1.2.1.2.2 u x)
      subst e
      rw [ih _ r2 h1.2.2 h2.2.2]
theorem div10 {σ : zS} {k : Nat} {M : Nat → Nat} (hb : rBank σ.1) (hk : k ≤ 4) (k3 : σ.1 82 0 = nI k) (hM : ∀ c, c < 4 → M c < 256 ∧ σ.1 83 c = nI (M c)) {s : Nat} (hs : s < 256) : ∃ σ' F r, J_X0_divide (nI s) σ = some (r, σ') ∧ zFew k M F ∧ zsim σ σ' ∧ rBank σ'.1 ∧ zdiv k M F s r (σ'.1 85) := by
  obtain ⟨τ, F, e1, e2, e3, e4, e5⟩ := learn_ hb hk k3 hM
  have s1 : zsim σ τ := ⟨fun c i _ h => e5 c i h, by rw [e4]⟩
  have b1 : ∀ I : zI, (∀ c i, (c = 82 ∧ i = 0) ∨ c = 83 ∨ c = 86 ∨ c = 87 → I c i = τ.1 c i) → I 82 6 = nI 1 → rBank I := by
    intro I hI h6
    refine Or.inr ⟨h6, k, M, F, hk, ?_, fun c hc => ⟨(hM c hc).1, ?_⟩, e2, fun t ht => ⟨?_, ?_⟩⟩
    · rw [hI _ _ (by omega), e5 _ _ (by simp only [zbk]; omega)]; exact k3
    · rw [hI _ _ (by omega), e5 _ _ (by simp only [zbk]; omega)]; exact (hM c hc).2
    · rw [hI _ _ (by omega)]; exact (e3 t ht).1
    · rw [hI _ _ (by omega)]; exact (e3 t ht).2
  unfold J_X0_divide
  rw [e1, zb_s, zi_nI (by omega) (by omega), zg_t, zcla (by omega), (e3 s hs).2, zlet_eq]
  have tb : rBank τ.1 := by
    rcases hb with h | ⟨h, hb2⟩
    · refine b1 _ (fun _ _ _ => rfl) ?_
      have e6 : ∃ σ2, J_X0_learn σ = some σ2 ∧ σ2.1 82 6 = nI 1 := by
        unfold J_X0_learn
        rw [h, if_pos (show nI 0 = 0 from rfl), zlet_eq]
        obtain ⟨σ', F', f1, f2, f3, f4, f5⟩ := le_ hk 256 0 4294967296 (zsI σ 82 6 (1 : Int32)) (fun _ => 0) (by omega) (by omega) (by rw [zI_n (by omega)]; exact k3) (fun c hc => ⟨(hM c hc).1, by rw [zI_n (by omega)]; exact (hM c hc).2⟩) (fun t ht => by omega) ⟨rfl, fun s h1 h2 => by omega⟩
        exact ⟨σ', f1, by rw [f5 _ _ (by omega) (by omega), zI_y]; rfl⟩
      obtain ⟨σ2, e7, e8⟩ := e6
      rw [e1] at e7
      rw [Option.some.inj e7]
      exact e8
    · refine b1 _ (fun _ _ _ => rfl) ?_
      have : J_X0_learn σ = some σ := by
        unfold J_X0_learn
        rw [h, if_neg (show ¬ nI 1 = 0 by decide)]
      rw [e1] at this
      rw [Option.some.inj this]
      exact h
  rcases few_8 e2 hs with h | h
  · rw [h, if_neg (show ¬ nI 100 < (100 : Int32) by decide)]
    exact ⟨τ, F, -4, rfl, e2, s1, tb, Or.inl ⟨h, rfl⟩⟩
  · rw [if_pos (show nI (F s) < (100 : Int32) from nI_lt (b := 100) (by omega) (by omega))]
    obtain ⟨l, l1, l2⟩ := rl_ex e2 (F s) s hs rfl (by omega)
    obtain ⟨σ', d1, d2, d3, d4⟩ := dv_ e2 h l s 0 4294967296 τ l1 hs (by omega) (by omega) e3
    have d1' : L_X0_divide_25 (nI (F s)) 4294967296 (nI s) (0 : Int32) τ = some (nI (F s), σ') := d1
    rw [d1']
    refine ⟨σ', F, nI (F s), rfl, e2, zsim_t s1 ⟨fun c i h1 _ => d3 c i (by simp only [zscr] at h1; omega), by rw [d2]⟩, rBank_c (I := τ.1) (fun c i hc => d3 c i (by omega)) tb, Or.inr ⟨h, rfl, fun m hm j hj => ?_⟩⟩
    have := rl_u _ _ _ l1 hm
    subst this
    have := d4 j hj
    rw [Nat.zero_add] at this
    exact this
theorem rl_FG {k : Nat} {M F G : Nat → Nat} (hF : zFew k M F) (hG : zFb 99 k M G 256) : ∀ l s, s < 256 → F s ≤ 8 → zrl k M F l s → zrl k M G l s := by
  intro l
  induction l with
  | nil => intro s _ _ h; exact h
  | cons t r ih =>
    intro s hs h8 h
    obtain ⟨h0, ⟨h1, h2, h3⟩, h4⟩ := h
    have rel : ∀ u, zgd k M s u → (G s = G (s ^^^ u) + 1 ↔ F s = F (s ^^^ u) + 1) := by
      intro u hu
      have lt := zgd_lt hs hu
      have a := few99 hF hG s hs
      have b := few99 hF hG (s ^^^ u) (by omega)
      have c := few_8 hF (show s ^^^ u < 256 by omega)
      rw [if_neg (by omega)] at a
      split at b <;> omega
    have lt := zgd_lt hs h1
    refine ⟨h0, ⟨h1, (rel t h1).mpr h2, fun u hu q => h3 u hu ⟨q.1, (rel u q.1).mp q.2⟩⟩, ih _ (by omega) (by omega) h4⟩
theorem div11 {σ : zS} {k : Nat} {M F : Nat → Nat} (hk : k ≤ 4) (k4 : σ.1 105 36 = nI k) (hM : ∀ c, c < 4 → M c < 256 ∧ σ.1 125 c = nI (M c)) (hF : zFew k M F) {s : Nat} (hs : s < 256) : ∃ σ', J_X11_findRounds (nI s) σ = some σ' ∧ σ'.2 = σ.2 ∧ (∀ c i, ¬ (127 ≤ c ∧ c ≤ 129) → ¬ (c = 105 ∧ i = 41) → σ'.1 c i = σ.1 c i) ∧ zdiv k M F s (σ'.1 105 41) (σ'.1 129) := by
  obtain ⟨σ1, a1, a2, a3, a4⟩ := fr2 (K := D_X11_findRounds_36 (nI s)) hk 256 0 4294967296 σ (by omega) (by omega) k4 hM (fun u hu => by omega)
  have y1 : ∀ u, u < 256 → (zsI σ1 127 0 (0 : Int32)).1 128 u = nI (if zfits k M u then 1 else 0) := fun u hu => by rw [zI_n (by omega)]; exact a2 u hu
  obtain ⟨σ2, G, b1, b2, b3, b4, b5⟩ := fr45 (k := k) (M := M) (K := D_X11_findRounds_174 (nI s)) 255 1 4294967296 (zsI σ1 127 0 (0 : Int32)) (fun _ => 0) (by omega) (by omega) (by omega) (fun t ht => by
    rw [show t = 0 by omega, zI_y]; rfl) y1 ⟨rfl, fun s h1 h2 => by omega⟩
  have hG99 : ∀ u, u < 256 → G u ≤ 99 := by
    intro u hu
    by_cases e : u = 0
    · rw [e, b2.1]; omega
    · exact (b2.2 u (by omega) hu).1
  have v128 : ∀ u, u < 256 → σ2.1 128 u = nI (if zfits k M u then 1 else 0) := fun u hu => by rw [b5 _ _ (by omega)]; exact y1 u hu
  have E : J_X11_findRounds (nI s) σ = D_X11_findRounds_174 (nI s) σ2 := by
    unfold J_X11_findRounds
    rw [zlet_eq]
    have a1' : L_X11_findRounds_2 (D_X11_findRounds_36 (nI s)) 4294967296 (0 : Int32) σ = D_X11_findRounds_36 (nI s) σ1 := a1
    rw [a1']
    unfold D_X11_findRounds_36
    rw [show zi (0 : Int32) 256 = true from rfl, zg_t, zlet_eq, zlet_eq]
    exact b1
  have K2 : ∀ c i, ¬ (127 ≤ c ∧ c ≤ 129) → σ2.1 c i = σ.1 c i := fun c i hc => by rw [b5 _ _ (by omega), zI_n (by omega), a4 _ _ (by omega)]
  have S2 : σ2.2 = σ.2 := b4.trans a3
  rw [E]
  unfold D_X11_findRounds_174
  have g := few99 hF b2 s hs
  rw [zi_nI (by omega) (by omega), zg_t, zcla (by omega), b3 s hs]
  rcases few_8 hF hs with h | h
  · rw [if_pos h] at g
    rw [g, if_neg (show ¬ nI 99 < (99 : Int32) by decide), zlet_eq, zlet_eq, zI_y, if_pos rfl, zlet_eq]
    refine ⟨zsI σ2 105 41 (-4), ?_, S2, fun c i h1 h2 => by rw [zI_n h2, K2 c i h1], Or.inl ⟨h, zI_y⟩⟩
    rw [L_X11_findRounds_210, zlet_eq, if_pos rfl]
  · rw [if_neg (by omega)] at g
    rw [g, if_pos (show nI (F s) < (99 : Int32) from nI_lt (b := 99) (by omega) (by omega)), zlet_eq, zlet_eq, zI_y, if_neg (show ¬ (0 : Int32) = -4 by decide), zlet_eq]
    obtain ⟨l, l1, l2⟩ := rl_ex hF (F s) s hs rfl (by omega)
    obtain ⟨σ', d1, d2, d3, d4, d5⟩ := f210 h l s 0 4294967296 (zsI σ2 105 41 (0 : Int32)) (rl_FG hF b2 l s hs h l1) hs (by omega) (by omega) zI_y (fun u hu => ⟨by rw [zI_n (by omega)]; exact v128 u hu, by rw [zI_n (by omega)]; exact b3 u hu, hG99 u hu⟩)
    refine ⟨σ', d1, d3.trans S2, fun c i h1 h2 => by rw [d4 c i (by omega) h2, zI_n h2, K2 c i h1], Or.inr ⟨h, d2, fun m hm j hj => ?_⟩⟩
    have := rl_u _ _ _ l1 hm
    subst this
    have := d5 j hj
    rw [Nat.zero_add] at this
    exact this
/-- both beside each other -/
theorem divs {σ : zS} (h : zRel σ) (hb : rBank σ.1) {s : Nat} (hs : s < 256) : ∃ σ1 k M F r, J_X0_divide (nI s) σ = some (r, σ1) ∧ zFew k M F ∧ zsim σ σ1 ∧ rBank σ1.1 ∧ zdiv k M F s r (σ1.1 85) ∧ ∀ τ, (∀ c i, (c = 105 ∧ i = 36) ∨ c = 125 → τ.1 c i = σ1.1 c i) → ∃ σ2, J_X11_findRounds (nI s) τ = some σ2 ∧ σ2.2 = τ.2 ∧ (∀ c i, ¬ (127 ≤ c ∧ c ≤ 129) → ¬ (c = 105 ∧ i = 41) → σ2.1 c i = τ.1 c i) ∧ zdiv k M F s (σ2.1 105 41) (σ2.1 129) := by
  obtain ⟨_, _, _, _, _, g6, _⟩ := id h
  obtain ⟨k, M, k1, k2, k3, k4, m1, m2⟩ := cntM g6
  obtain ⟨σ1, F, r, e1, e2, e3, e4, e5⟩ := div10 hb k2 k3 m1 hs
  refine ⟨σ1, k, M, F, r, e1, e2, e3, e4, e5, fun τ ht => ?_⟩
  refine div11 k2 ?_ (fun c hc => ⟨(m2 c hc).1, ?_⟩) e2 hs
  · rw [ht _ _ (by omega), e3.1 _ _ (by simp only [zscr]; omega) (by simp only [zbk]; omega)]
    exact k4
  · rw [ht _ _ (by omega), e3.1 _ _ (by simp only [zscr]; omega) (by simp only [zbk]; omega)]
    exact (m2 c hc).2
theorem pp_rounds (a b : Int32) : zGood (J_X10_rounds a b) (J_X11_rounds a b) := by
  intro σ h hb
  unfold J_X10_rounds J_X11_rounds
  by_cases ha : zL a 256
  · have e1 := isSet_y (σ := σ) ha
    obtain ⟨s, hs, rfl⟩ := ha
    obtain ⟨σ1, k, M, F, r, d1, d2, d3, d4, d5, d6⟩ := divs h hb hs
    have h1 := zRel_s d3 h
    have e2 := areEvents_y (σ := σ1) (a := nI s) ⟨s, hs, rfl⟩
    have e3 := areEvents_y (σ := σ) (a := nI s) ⟨s, hs, rfl⟩
    obtain ⟨σ2, f1, f2, f3, f4⟩ := d6 σ1 (fun _ _ _ => rfl)
    have s2 : zsim σ1 σ2 := ⟨fun c i h1 h2 => f3 c i (by simp only [zscr] at h1; omega) (by simp only [zscr] at h1; omega), by rw [f2]⟩
    have b2 : rBank σ2.1 := rBank_c (I := σ1.1) (fun c i hc => f3 c i (by omega) (by omega)) d4
    have h2 := zRel_s s2 h1
    have kern : (b = 0 ∨ zL (b - 10) 8) → ∃ r, D_X10_rounds_23 (nI s) b σ = some (r, σ1) ∧ D_X11_rounds_27 (nI s) b σ1 = some (r, σ2) := by
      intro hbb
      unfold D_X10_rounds_23 D_X11_rounds_27
      rw [d1, zb2_s, f1, zb_s]
      rcases d5 with ⟨u1, u2⟩ | ⟨u1, u2, u3⟩
      · rcases f4 with ⟨v1, v2⟩ | ⟨v1, v2, v3⟩
        · rw [u2, v2, if_neg (show ¬ (0 : Int32) ≤ -4 by decide), if_pos rfl]
          exact ⟨-4, rfl, rfl⟩
        · omega
      · rcases f4 with ⟨v1, v2⟩ | ⟨v1, v2, v3⟩
        · omega
        · have ne : ¬ nI (F s) = -4 := of_eq_false (z_ng (a := F s) (b := 4) (by omega) (by omega) (by omega))
          rw [u2, v2, if_pos (nI_pos' (by omega)), if_neg ne]
          by_cases b0 : b = 0
          · rw [if_pos b0, if_pos b0]
            exact ⟨_, rfl, rfl⟩
          · rw [if_neg b0, if_neg b0]
            rcases hbb with q | ⟨e, he, q⟩
            · exact absurd q b0
            · rw [q]
              by_cases hc : F s ≤ e
              · rw [if_pos (nI_le hc (by omega)), if_pos (nI_le hc (by omega))]
                exact ⟨_, rfl, rfl⟩
              · obtain ⟨l, l1, l2⟩ := rl_ex d2 (F s) s hs rfl (by omega)
                rw [if_neg (nI_ge (by omega) (by omega)), if_neg (nI_ge (by omega) (by omega)), zi_nI (by omega) (by omega), zg_t, zg_t, zcla (by omega), u3 l l1 e (by omega), v3 l l1 e (by omega)]
                exact ⟨_, rfl, rfl⟩
    by_cases b0 : b = 0
    · obtain ⟨r, r1, r2⟩ := kern (Or.inl b0)
      refine ⟨r, σ1, σ2, ?_, ?_, h2, b2⟩
      · rw [e1, zb_s, if_neg (show ¬ (1 : Int32) = 0 by decide), zlet_eq, if_pos b0]
        exact r1
      · rw [e2, zb_s, if_neg (show ¬ (1 : Int32) = 0 by decide), zlet_eq, if_pos b0]
        exact r2
    · by_cases hbb : zL (b - 10) 8
      · obtain ⟨r, r1, r2⟩ := kern (Or.inr hbb)
        have e4 := isEvent_y (σ := σ) hbb
        have e5 := (z10_y (σ := σ1) hbb).1
        refine ⟨r, σ1, σ2, ?_, ?_, h2, b2⟩
        · rw [e1, zb_s, if_neg (show ¬ (1 : Int32) = 0 by decide), zlet_eq, if_neg b0, e4, zb_s, if_neg (show ¬ (1 : Int32) = 0 by decide)]
          exact r1
        · rw [e2, zb_s, if_neg (show ¬ (1 : Int32) = 0 by decide), zlet_eq, if_neg b0, e5, zb_s, if_neg (show ¬ (1 : Int32) = 0 by decide)]
          exact r2
      · have e4 := isEvent_n (σ := σ) hbb
        have e5 := z10_n (σ := σ) hbb
        refine ⟨-1, σ, σ, ?_, ?_, h, hb⟩
        · rw [e1, zb_s, if_neg (show ¬ (1 : Int32) = 0 by decide), zlet_eq, if_neg b0, e4, zb_s, if_pos rfl]
        · rw [e3, zb_s, if_neg (show ¬ (1 : Int32) = 0 by decide), zlet_eq, if_neg b0, e5, zb_s, if_pos rfl]
  · have e1 := isSet_n (σ := σ) ha
    have e2 := areEvents_n (σ := σ) ha
    exact ⟨-1, σ, σ, by rw [e1, zb_s, if_pos rfl], by rw [e2, zb_s, if_pos rfl], h, hb⟩
