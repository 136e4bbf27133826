set_option maxRecDepth 8000
/-! ===== the reference's table ===== -/
theorem fr68 {k : Nat} {M G : Nat → Nat} {K : zS → Option zS} {s : Nat} (hs : s < 256) (h0 : s ≠ 0) : ∀ q t n g σ, t + q = s + 1 → q < n → σ.1 127 s = nI g → g ≤ 99 → (∀ u, u < s → σ.1 127 u = nI (G u) ∧ G u ≤ 99) → (∀ u, u < 256 → σ.1 128 u = nI (if zfits k M u then 1 else 0)) → ∃ σ' g', L_X11_findRounds_68 (nI s) (nI (2 ^ zlo s)) K n (nI t) σ = K σ' ∧ σ'.1 127 s = nI g' ∧ σ'.2 = σ.2 ∧ (∀ c i, ¬ (c = 127 ∧ i = s) → σ'.1 c i = σ.1 c i) ∧ g' ≤ g ∧ (∀ u, t ≤ u → u ≤ s → zgd k M s u → g' ≤ G (s ^^^ u) + 1) ∧ (g' = g ∨ ∃ u, zgd k M s u ∧ g' = G (s ^^^ u) + 1) := by
  intro q
  induction q with
  | zero =>
    intro t n g σ h hn hg hgl hG hf
    cases n with
    | zero => omega
    | succ n =>
      refine ⟨σ, g, ?_, hg, rfl, fun _ _ _ => rfl, Nat.le_refl _, fun u h1 h2 => by omega, Or.inl rfl⟩
      rw [L_X11_findRounds_68, zlet_eq, if_pos (nI_lt (by omega) (by omega))]
  | succ q ih =>
    intro t n g σ h hn hg hgl hG hf
    cases n with
    | zero => omega
    | succ n =>
      have t3 : ¬ nI s < nI t := nI_nlt (by omega) (by omega)
      have t4 : nI t + 1 = nI (t + 1) := nI_add t 1
      have l8 : zlo s < 8 := (zF1 ⟨s, hs⟩ h0).2.2.2.1
      have mt := zF4 ⟨t, by omega⟩ ⟨zlo s, l8⟩
      have mt' : ((nI t &&& nI (2 ^ zlo s)) = 0) = (t.testBit (zlo s) = false) := mt
      have x0 : (nI (t ^^^ (t &&& s)) = 0) ↔ t &&& s = t := by
        have b : t ^^^ (t &&& s) < 256 := Nat.xor_lt_two_pow (n := 8) (by omega) (Nat.lt_of_le_of_lt Nat.and_le_left (by omega))
        rw [show (0 : Int32) = nI 0 from rfl, nI_eq (by omega) (by omega), xor0]
        exact ⟨fun h => h.symm, fun h => h.symm⟩
      -- nothing new
      have skip : ∃ σ', (∀ c i, σ'.1 c i = σ.1 c i) ∧ σ'.2 = σ.2 ∧ D_X11_findRounds_155 (nI s) (L_X11_findRounds_68 (nI s) (nI (2 ^ zlo s)) K n) (nI t) σ = L_X11_findRounds_68 (nI s) (nI (2 ^ zlo s)) K n (nI (t + 1)) σ' := by
        refine ⟨zsI σ 127 s (σ.1 127 s), fun c i => ?_, rfl, ?_⟩
        · by_cases e : c = 127 ∧ i = s
          · rw [e.1, e.2, zI_y]
          · exact zI_n e
        · unfold D_X11_findRounds_155
          rw [zi_nI (by omega) (by omega), zg_t, zg_t, zcla (by omega), zlet_eq, t4, zlet_eq]
      have go : ∀ σ1 g1, σ1.1 127 s = nI g1 → g1 ≤ g → σ1.2 = σ.2 → (∀ c i, ¬ (c = 127 ∧ i = s) → σ1.1 c i = σ.1 c i) → (zgd k M s t → g1 ≤ G (s ^^^ t) + 1) → (g1 = g ∨ ∃ u, zgd k M s u ∧ g1 = G (s ^^^ u) + 1) → ∃ σ' g', L_X11_findRounds_68 (nI s) (nI (2 ^ zlo s)) K n (nI (t + 1)) σ1 = K σ' ∧ σ'.1 127 s = nI g' ∧ σ'.2 = σ.2 ∧ (∀ c i, ¬ (c = 127 ∧ i = s) → σ'.1 c i = σ.1 c i) ∧ g' ≤ g ∧ (∀ u, t ≤ u → u ≤ s → zgd k M s u → g' ≤ G (s ^^^ u) + 1) ∧ (g' = g ∨ ∃ u, zgd k M s u ∧ g' = G (s ^^^ u) + 1) := by
        intro σ1 g1 a1 a2 a3 a4 a5 a6
        obtain ⟨σ', g', b1, b2, b3, b4, b5, b6, b7⟩ := ih (t + 1) n g1 σ1 (by omega) (by omega) a1 (by omega) (fun u hu => by rw [a4 _ _ (by omega)]; exact hG u hu) (fun u hu => by rw [a4 _ _ (by omega)]; exact hf u hu)
        refine ⟨σ', g', b1, b2, b3.trans a3, fun c i hc => (b4 c i hc).trans (a4 c i hc), by omega, fun u h1 h2 h3 => ?_, ?_⟩
        · by_cases e : u = t
          · rw [e] at h3 ⊢
            have := a5 h3
            omega
          · exact b6 u (by omega) h2 h3
        · rcases b7 with e | e
          · rw [e]; exact a6
          · exact Or.inr e
      have no : ¬ zgd k M s t → ∃ σ' g', D_X11_findRounds_155 (nI s) (L_X11_findRounds_68 (nI s) (nI (2 ^ zlo s)) K n) (nI t) σ = K σ' ∧ σ'.1 127 s = nI g' ∧ σ'.2 = σ.2 ∧ (∀ c i, ¬ (c = 127 ∧ i = s) → σ'.1 c i = σ.1 c i) ∧ g' ≤ g ∧ (∀ u, t ≤ u → u ≤ s → zgd k M s u → g' ≤ G (s ^^^ u) + 1) ∧ (g' = g ∨ ∃ u, zgd k M s u ∧ g' = G (s ^^^ u) + 1) := by
        intro hz
        obtain ⟨σ1, a1, a2, a3⟩ := skip
        rw [a3]
        exact go σ1 g (by rw [a1]; exact hg) (Nat.le_refl _) a2 (fun c i _ => a1 c i) (fun q => absurd q hz) (Or.inl rfl)
      rw [L_X11_findRounds_68, zlet_eq, if_neg t3, zlet_eq, nI_wo]
      by_cases hsub : t &&& s = t
      · rw [if_pos (x0.mpr hsub)]
        by_cases hb : t.testBit (zlo s) = false
        · rw [if_pos (by rw [mt']; exact hb)]
          unfold D_X11_findRounds_105
          rw [zlet_eq, if_pos rfl]
          refine no fun q => ?_
          have := ((zgd_i hs h0).mp q).2.1
          rw [hb] at this
          cases this
        · have hb' : t.testBit (zlo s) = true := by simpa using hb
          rw [if_neg (by rw [mt']; exact hb), zi_nI (by omega) (by omega), zg_t, zcla (by omega), hf t (by omega)]
          by_cases hz : zfits k M t = true
          · rw [if_neg (fun q => fib_.mp q hz)]
            have gd : zgd k M s t := (zgd_i hs h0).mpr ⟨hsub, hb', hz⟩
            have lt1 := zgd_lt hs gd
            have sc : s ^^^ (s &&& t) = s ^^^ t := by rw [Nat.and_comm, hsub]
            unfold D_X11_findRounds_105
            rw [zlet_eq, if_neg (by decide), nI_wo, sc, zi_nI (by omega) (by omega), zg_t, zi_nI (show s < 256 from hs) (by omega), zg_t, zcla (by omega), zcla (by omega), hg, (hG _ lt1).1]
            have a1 : nI (G (s ^^^ t)) + 1 = nI (G (s ^^^ t) + 1) := nI_add _ 1
            have l99 := (hG _ lt1).2
            rw [a1]
            by_cases hc : g ≤ G (s ^^^ t) + 1
            · rw [if_pos (nI_le hc (by omega))]
              obtain ⟨σ1, a1, a2, a3⟩ := skip
              rw [a3]
              exact go σ1 g (by rw [a1]; exact hg) (Nat.le_refl _) a2 (fun c i _ => a1 c i) (fun _ => hc) (Or.inl rfl)
            · rw [if_neg (nI_ge (by omega) (by omega)), zg_t, zg_t, zlet_eq, t4, zlet_eq]
              exact go _ (G (s ^^^ t) + 1) zI_y (by omega) rfl (fun c i hc => zI_n hc) (fun _ => Nat.le_refl _) (Or.inr ⟨t, gd, rfl⟩)
          · rw [if_pos (fib_.mpr hz)]
            unfold D_X11_findRounds_105
            rw [zlet_eq, if_pos rfl]
            exact no fun q => hz ((zgd_i hs h0).mp q).2.2
      · rw [if_neg (fun q => hsub (x0.mp q))]
        unfold D_X11_findRounds_105
        rw [zlet_eq, if_pos rfl]
        exact no fun q => hsub ((zgd_i hs h0).mp q).1
theorem fr45 {k : Nat} {M : Nat → Nat} {K : zS → Option zS} : ∀ q s n σ G, s + q = 256 → q < n → 1 ≤ s → (∀ t, t < s → σ.1 127 t = nI (G t)) → (∀ u, u < 256 → σ.1 128 u = nI (if zfits k M u then 1 else 0)) → zFb 99 k M G s → ∃ σ' G', L_X11_findRounds_45 K n (nI s) σ = K σ' ∧ zFb 99 k M G' 256 ∧ (∀ t, t < 256 → σ'.1 127 t = nI (G' t)) ∧ σ'.2 = σ.2 ∧ ∀ c i, c ≠ 127 → σ'.1 c i = σ.1 c i := by
  intro q
  induction q with
  | zero =>
    intro s n σ G h hn h1 hv hf hG
    cases n with
    | zero => omega
    | succ n =>
      obtain rfl : s = 256 := by omega
      refine ⟨σ, G, ?_, hG, hv, rfl, fun _ _ _ => rfl⟩
      rw [L_X11_findRounds_45, zlet_eq, if_pos (show (256 : Int32) ≤ nI 256 by decide)]
  | succ q ih =>
    intro s n σ G h hn h1 hv hf hG
    cases n with
    | zero => omega
    | succ n =>
      have hs : s < 256 := by omega
      have h0 : s ≠ 0 := by omega
      have t3 : ¬ (256 : Int32) ≤ nI s := nI_ge (b := 256) (by omega) (by omega)
      have t4 : nI s + 1 = nI (s + 1) := nI_add s 1
      have f1 : (nI s &&& -nI s) = nI (2 ^ zlo s) := (zF1 ⟨s, hs⟩ h0).1
      have hG99 : ∀ u, u < s → G u ≤ 99 := by
        intro u hu
        by_cases e : u = 0
        · rw [e, hG.1]; omega
        · exact (hG.2 u (by omega) hu).1
      rw [L_X11_findRounds_45, zlet_eq, if_neg t3, zi_nI (by omega) (by omega), zg_t, zcla (by omega), zlet_eq, f1, zlet_eq, zlet_eq]
      have g1 : (zsI σ 127 s (99 : Int32)).1 127 s = nI 99 := zI_y
      have g2 : ∀ c i, ¬ (c = 127 ∧ i = s) → (zsI σ 127 s (99 : Int32)).1 c i = σ.1 c i := fun c i hc => zI_n hc
      have g4 : (zsI σ 127 s (99 : Int32)).2 = σ.2 := rfl
      generalize zsI σ 127 s (99 : Int32) = τ at *
      obtain ⟨σ1, b, c1, c2, c3, c4, c5, c6, c7⟩ := fr68 (k := k) (M := M) (G := G) (K := D_X11_findRounds_168 (L_X11_findRounds_45 K n) (nI s)) hs h0 s 1 4294967296 99 τ (by omega) (by omega) g1 (by omega) (fun u hu => ⟨by rw [g2 _ _ (by omega)]; exact hv u hu, hG99 u hu⟩) (fun u hu => by rw [g2 _ _ (by omega)]; exact hf u hu)
      have c1' : L_X11_findRounds_68 (nI s) (nI (2 ^ zlo s)) (D_X11_findRounds_168 (L_X11_findRounds_45 K n) (nI s)) 4294967296 (1 : Int32) τ = D_X11_findRounds_168 (L_X11_findRounds_45 K n) (nI s) σ1 := c1
      rw [c1']
      unfold D_X11_findRounds_168
      rw [t4, zlet_eq]
      have hx : ∀ t, t < s → ∀ u, zgd k M t u → t ^^^ u < s := fun t ht u hu => Nat.lt_trans (zgd_lt (by omega) hu) ht
      obtain ⟨σ', G', e1, e2, e3, e4, e5⟩ := ih (s + 1) n σ1 (fun t => if t = s then b else G t) (by omega) (by omega) (by omega) (fun t ht => by
        by_cases e : t = s
        · subst e
          rw [c2]
          simp only [if_true]
        · rw [c4 _ _ (by omega), g2 _ _ (by omega)]
          simp only [if_neg e]
          exact hv t (by omega)) (fun u hu => by rw [c4 _ _ (by omega), g2 _ _ (by omega)]; exact hf u hu) (by
        refine ⟨?_, fun t t0 ht => ?_⟩
        · simp only [if_neg (show ¬ 0 = s by omega)]; exact hG.1
        · by_cases e : t = s
          · subst e
            simp only [if_true]
            refine ⟨c5, fun u hu => ?_, ?_⟩
            · have lt := zgd_lt hs hu
              have u1 : 1 ≤ u := by
                rcases Nat.eq_zero_or_pos u with q | q
                · rw [q, Nat.xor_zero] at lt; omega
                · exact q
              rw [if_neg (by omega)]
              exact c6 u u1 (sub_le hu.2.1) hu
            · rcases c7 with x | ⟨u, u1, u2⟩
              · exact Or.inl x
              · have := zgd_lt hs u1
                exact Or.inr ⟨u, u1, by rw [if_neg (by omega)]; exact u2⟩
          · obtain ⟨d1, d2, d3⟩ := hG.2 t t0 (by omega)
            simp only [if_neg e]
            refine ⟨d1, fun u hu => ?_, ?_⟩
            · have := hx t (by omega) u hu
              rw [if_neg (by omega)]
              exact d2 u hu
            · rcases d3 with x | ⟨u, u1, u2⟩
              · exact Or.inl x
              · have := hx t (by omega) u u1
                exact Or.inr ⟨u, u1, by rw [if_neg (by omega)]; exact u2⟩)
      refine ⟨σ', G', e1, e2, e3, (e4.trans c3).trans g4, fun c i h1 => ?_⟩
      rw [e5 c i h1, c4 _ _ (by omega), g2 _ _ (by omega)]
theorem fr2 {k : Nat} {M : Nat → Nat} {K : zS → Option zS} (hk : k ≤ 4) : ∀ q s n σ, s + q = 256 → q < n → σ.1 105 36 = nI k → (∀ c, c < 4 → M c < 256 ∧ σ.1 125 c = nI (M c)) → (∀ u, u < s → σ.1 128 u = nI (if zfits k M u then 1 else 0)) → ∃ σ', L_X11_findRounds_2 K n (nI s) σ = K σ' ∧ (∀ u, u < 256 → σ'.1 128 u = nI (if zfits k M u then 1 else 0)) ∧ σ'.2 = σ.2 ∧ ∀ c i, c ≠ 128 → σ'.1 c i = σ.1 c i := by
  intro q
  induction q with
  | zero =>
    intro s n σ h hn k4 hM hf
    cases n with
    | zero => omega
    | succ n =>
      obtain rfl : s = 256 := by omega
      refine ⟨σ, ?_, hf, rfl, fun _ _ _ => rfl⟩
      rw [L_X11_findRounds_2, zlet_eq, if_pos (show (256 : Int32) ≤ nI 256 by decide)]
  | succ q ih =>
    intro s n σ h hn k4 hM hf
    cases n with
    | zero => omega
    | succ n =>
      have hs : s < 256 := by omega
      have t3 : ¬ (256 : Int32) ≤ nI s := nI_ge (b := 256) (by omega) (by omega)
      have t4 : nI s + 1 = nI (s + 1) := nI_add s 1
      have W : ∃ w, J_X11_wayOf (nI s) σ = some w ∧ (if w = -4 then (0 : Int32) else 1) = nI (if zfits k M s = true then 1 else 0) := by
        rcases way11 hk k4 hM hs with ⟨f, w, -, w2, w3, W⟩ | ⟨f, W⟩
        · have p4 : 4 ^ (zev s).length ≤ 256 := Nat.le_trans (Nat.pow_le_pow_right (n := 4) (by omega) w3) (by decide)
          have hne : ¬ nI w = -4 := of_eq_false (z_ng (a := w) (b := 4) (by omega) (by omega) (by omega))
          exact ⟨nI w, W, by rw [if_neg hne, if_pos f]; rfl⟩
        · exact ⟨-4, W, by rw [if_pos rfl, f]; rfl⟩
      obtain ⟨w, W1, W2⟩ := W
      rw [L_X11_findRounds_2, zlet_eq, if_neg t3, W1, zb_s, W2, zlet_eq, zi_nI (by omega) (by omega), zg_t, zcla (by omega), vnb, zlet_eq, t4, zlet_eq]
      obtain ⟨σ', e1, e2, e3, e4⟩ := ih (s + 1) n (zsI σ 128 s (nI (if zfits k M s = true then 1 else 0))) (by omega) (by omega) (by rw [zI_n (by omega)]; exact k4) (fun c hc => ⟨(hM c hc).1, by rw [zI_n (by omega)]; exact (hM c hc).2⟩) (fun u hu => by
        by_cases e : u = s
        · rw [e, zI_y]
        · rw [zI_n (by omega)]; exact hf u (by omega))
      refine ⟨σ', e1, e2, e3, fun c i hc => ?_⟩
      rw [e4 c i hc, zI_n (by omega)]
