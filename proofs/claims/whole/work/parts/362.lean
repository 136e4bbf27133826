set_option maxRecDepth 8000
/-- the reference's token, where it begins -/
theorem tkm {n s : Nat} {b : Nat → Nat} (B : bT n b) (hs : s ≤ n) {σ : zS} (t : mT σ n b) (h2 : σ.1 105 26 = nI s) (h6 : σ.1 105 30 = nI 0) : (s = n → ∃ σ', D_X11_next_34 σ = some σ' ∧ mB σ' 3 s s 0 ∧ mfr σ σ') ∧ (s < n → (∀ e, (97 ≤ b s ∧ b s ≤ 122) → s ≤ e → e ≤ n → (e < n → ¬ (97 ≤ b e ∧ b e ≤ 122)) → (∀ j, s ≤ j → j < e → 97 ≤ b j ∧ b j ≤ 122) → ∃ σ', D_X11_next_34 σ = some σ' ∧ mB σ' 0 s e 0 ∧ mfr σ σ') ∧ (¬ (97 ≤ b s ∧ b s ≤ 122) → (∀ e, (48 ≤ b s ∧ b s ≤ 57) → s ≤ e → e ≤ n → (e < n → ¬ (48 ≤ b e ∧ b e ≤ 57)) → (∀ j, s ≤ j → j < e → 48 ≤ b j ∧ b j ≤ 57) → (e - s ≤ 2 → ∃ σ', D_X11_next_34 σ = some σ' ∧ mB σ' 1 s e (zfv b s (e - s)) ∧ mfr σ σ') ∧ (2 < e - s → ∃ σ', D_X11_next_34 σ = some σ' ∧ mF σ' 1 s ∧ mfr σ σ')) ∧ (¬ (48 ≤ b s ∧ b s ≤ 57) → (b s = 59 → ∃ σ', D_X11_next_34 σ = some σ' ∧ mB σ' 2 s (s + 1) 0 ∧ mfr σ σ') ∧ (¬ b s = 59 → ∃ σ', D_X11_next_34 σ = some σ' ∧ mF σ' 1 s ∧ mfr σ σ')))) := by
  have B1 := B.1
  have f1 : mfr σ (zsI σ 105 27 (nI s)) := mfr_I (mfr_r σ) (by omega) (by omega)
  have y2 : (zsI σ 105 27 (nI s)).1 105 26 = nI s := by rw [zI_n (by omega)]; exact h2
  have y4 : (zsI σ 105 27 (nI s)).1 105 27 = nI s := zI_y
  have y6 : (zsI σ 105 27 (nI s)).1 105 30 = nI 0 := by rw [zI_n (by omega)]; exact h6
  have t1 := mT_f f1 t
  unfold D_X11_next_34
  rw [h2, zlet_eq]
  generalize zsI σ 105 27 (nI s) = τ at *
  have lt := inlt (σ := τ) (p := s) B
  have fg := infg (σ := τ) (p := s) B
  rw [y2, look_ B t1 (by omega), zb_s, lt, fg]
  unfold ztl
  refine ⟨fun hsn => ?_, fun hsn => ?_⟩
  · rw [if_neg (show ¬ s < n by omega), if_neg (show ¬ (0 : Int32) ≤ -1 by decide), zlet_eq]
    refine ⟨_, rfl, ⟨?_, zI_y, ?_, ?_, fun q => by omega⟩, mfr_I f1 (by omega) (by omega)⟩
    · rw [zI_n (by omega)]; exact y6
    · rw [zI_n (by omega)]; exact y4
    · rw [zI_n (by omega)]; exact y2
  · have b256 := B.2 s hsn
    rw [if_pos hsn, if_pos (nI_pos' (by omega)), zb_s]
    refine ⟨fun e hl e1 e2 e3 e4 => ?_, fun hnl => ⟨fun e hf e1 e2 e3 e4 => ⟨fun e5 => ?_, fun e5 => ?_⟩, fun hnf => ⟨fun h59 => ?_, fun h59 => ?_⟩⟩⟩
    · have f2 : mfr τ (zsI τ 105 28 (1 : Int32)) := mfr_I (mfr_r τ) (by omega) (by omega)
      obtain ⟨σ', g1, g2, g3, g4⟩ := mlt B e2 e3 (e - s) s 4294967296 (zsI τ 105 28 (1 : Int32)) (by omega) (by omega) (mT_f f2 t1) (by rw [zI_n (by omega)]; exact y2) e4
      rw [if_pos (show s < n ∧ 97 ≤ b s ∧ b s ≤ 122 from ⟨hsn, hl⟩), if_neg (show ¬ (1 : Int32) = 0 by decide), zlet_eq, g1]
      refine ⟨σ', rfl, ⟨?_, ?_, ?_, g2, fun q => by omega⟩, mfr_t f1 (mfr_t f2 ⟨g3, fun c i hc => g4 c i (by omega)⟩)⟩
      · rw [g4 _ _ (by omega), zI_n (by omega)]; exact y6
      · rw [g4 _ _ (by omega), zI_y]; rfl
      · rw [g4 _ _ (by omega), zI_n (by omega)]; exact y4
    · have f2 : mfr τ (zsI (zsI τ 105 28 (2 : Int32)) 105 29 (0 : Int32)) := mfr_I (mfr_I (mfr_r τ) (by omega) (by omega)) (by omega) (by omega)
      obtain ⟨σ', g1, g2, g3, g4, g5⟩ := mfg (K := D_X11_next_217) B e2 e3 e4 (e - s) s 4294967296 (zsI (zsI τ 105 28 (2 : Int32)) 105 29 (0 : Int32)) (by omega) (by omega) (Nat.le_refl _) (mT_f f2 t1) (by rw [zI_n (by omega), zI_n (by omega)]; exact y2) (by rw [zI_n (by omega), zI_n (by omega)]; exact y4) (by rw [zI_y, Nat.sub_self]; rfl)
      have g24 : σ'.1 105 27 = nI s := by rw [g5 _ _ (by omega), zI_n (by omega), zI_n (by omega)]; exact y4
      have sub : nI e - nI s = nI (e - s) := pk_sub e1
      rw [if_neg (show ¬ (s < n ∧ 97 ≤ b s ∧ b s ≤ 122) from fun q => hnl q.2), if_pos rfl, zb_s, if_pos (show s < n ∧ 48 ≤ b s ∧ b s ≤ 57 from ⟨hsn, hf⟩), if_neg (show ¬ (1 : Int32) = 0 by decide), zlet_eq, zlet_eq, zlet_eq, g1]
      unfold D_X11_next_217
      rw [g2, g24, sub, if_neg (show ¬ (2 : Int32) < nI (e - s) from nI_nlt (a := 2) e5 (by omega)), zlet_eq, want1, zb_s]
      refine ⟨σ', rfl, ⟨?_, ?_, g24, g2, fun q => g3⟩, mfr_t f1 (mfr_t f2 ⟨g4, fun c i hc => g5 c i (by omega)⟩)⟩
      · rw [g5 _ _ (by omega), zI_n (by omega), zI_n (by omega)]; exact y6
      · rw [g5 _ _ (by omega), zI_n (by omega), zI_y]; rfl
    · have f2 : mfr τ (zsI (zsI τ 105 28 (2 : Int32)) 105 29 (0 : Int32)) := mfr_I (mfr_I (mfr_r τ) (by omega) (by omega)) (by omega) (by omega)
      obtain ⟨σ', g1, g2, g3, g4, g5⟩ := mfg (K := D_X11_next_217) B e2 e3 e4 (e - s) s 4294967296 (zsI (zsI τ 105 28 (2 : Int32)) 105 29 (0 : Int32)) (by omega) (by omega) (Nat.le_refl _) (mT_f f2 t1) (by rw [zI_n (by omega), zI_n (by omega)]; exact y2) (by rw [zI_n (by omega), zI_n (by omega)]; exact y4) (by rw [zI_y, Nat.sub_self]; rfl)
      have g24 : σ'.1 105 27 = nI s := by rw [g5 _ _ (by omega), zI_n (by omega), zI_n (by omega)]; exact y4
      have g30 : σ'.1 105 30 = nI 0 := by rw [g5 _ _ (by omega), zI_n (by omega), zI_n (by omega)]; exact y6
      have sub : nI e - nI s = nI (e - s) := pk_sub e1
      obtain ⟨σ2, k1, k2, k3⟩ := mfail 1 σ' g30 g24
      have k1' : J_X11_wants (0 : Int32) (1 : Int32) σ' = some σ2 := k1
      rw [if_neg (show ¬ (s < n ∧ 97 ≤ b s ∧ b s ≤ 122) from fun q => hnl q.2), if_pos rfl, zb_s, if_pos (show s < n ∧ 48 ≤ b s ∧ b s ≤ 57 from ⟨hsn, hf⟩), if_neg (show ¬ (1 : Int32) = 0 by decide), zlet_eq, zlet_eq, zlet_eq, g1]
      unfold D_X11_next_217
      rw [g2, g24, sub, if_pos (show (2 : Int32) < nI (e - s) from nI_lt (a := 2) e5 (by omega)), zlet_eq, k1', zb_s]
      exact ⟨σ2, rfl, k2, mfr_t f1 (mfr_t f2 (mfr_t ⟨g4, fun c i hc => g5 c i (by omega)⟩ k3))⟩
    · have t4 : nI s + 1 = nI (s + 1) := nI_add s 1
      have e59 : nI (b s) = (59 : Int32) := by rw [h59]; rfl
      rw [if_neg (show ¬ (s < n ∧ 97 ≤ b s ∧ b s ≤ 122) from fun q => hnl q.2), if_pos rfl, zb_s, if_neg (show ¬ (s < n ∧ 48 ≤ b s ∧ b s ≤ 57) from fun q => hnf q.2), if_pos rfl, zlet_eq, if_pos e59, zlet_eq, want1, zb_s, zI_n (by omega), y2, t4, zlet_eq]
      refine ⟨_, rfl, ⟨?_, ?_, ?_, zI_y, fun q => by omega⟩, mfr_I (mfr_I f1 (by omega) (by omega)) (by omega) (by omega)⟩
      · rw [zI_n (by omega), zI_n (by omega)]; exact y6
      · rw [zI_n (by omega), zI_y]; rfl
      · rw [zI_n (by omega), zI_n (by omega)]; exact y4
    · have e59 : ¬ nI (b s) = (59 : Int32) := fun q => h59 ((nI_eq (a := b s) (b := 59) (by omega) (by omega)).mp q)
      have f2 : mfr τ (zsI τ 105 28 (3 : Int32)) := mfr_I (mfr_r τ) (by omega) (by omega)
      obtain ⟨σ2, k1, k2, k3⟩ := mfail 1 (zsI τ 105 28 (3 : Int32)) (s := s) (by rw [zI_n (by omega)]; exact y6) (by rw [zI_n (by omega)]; exact y4)
      have k1' : J_X11_wants (0 : Int32) (1 : Int32) (zsI τ 105 28 (3 : Int32)) = some σ2 := k1
      rw [if_neg (show ¬ (s < n ∧ 97 ≤ b s ∧ b s ≤ 122) from fun q => hnl q.2), if_pos rfl, zb_s, if_neg (show ¬ (s < n ∧ 48 ≤ b s ∧ b s ≤ 57) from fun q => hnf q.2), if_pos rfl, zlet_eq, if_neg e59, zlet_eq, k1', zb_s, zlet_eq]
      exact ⟨_, rfl, ⟨by rw [zI_n (by omega)]; exact k2.1, by rw [zI_n (by omega)]; exact k2.2⟩, mfr_I (mfr_t f1 (mfr_t f2 k3)) (by omega) (by omega)⟩
/-- the next token is the same on both sides -/
theorem tok_ {n p : Nat} {b : Nat → Nat} (B : bT n b) (hp : p ≤ n) : (∃ k s p' v, tB n k s p' v ∧ p ≤ s ∧ (∀ σ, cT σ n b → σ.1 63 6 = nI 0 → σ.1 63 2 = nI p → ∃ σ', J_X4_takeToken σ = some σ' ∧ cB σ' k s p' v ∧ cfr σ σ') ∧ ∀ σ, mT σ n b → σ.1 105 30 = nI 0 → σ.1 105 26 = nI p → ∃ σ', J_X11_next σ = some σ' ∧ mB σ' k s p' v ∧ mfr σ σ') ∨ ∃ s, s ≤ n ∧ (∀ σ, cT σ n b → σ.1 63 6 = nI 0 → σ.1 63 2 = nI p → ∃ σ', J_X4_takeToken σ = some σ' ∧ cF σ' 1 s ∧ cfr σ σ') ∧ ∀ σ, mT σ n b → σ.1 105 30 = nI 0 → σ.1 105 26 = nI p → ∃ σ', J_X11_next σ = some σ' ∧ mF σ' 1 s ∧ mfr σ σ' := by
  have B1 := B.1
  obtain ⟨s, s1, s2, s3, s4⟩ := run_ (n := n) (fun j => b j = 32) (n - p) p (by omega)
  have C : ∀ (R : zS → Prop), (∀ σ, cT σ n b → σ.1 63 2 = nI s → σ.1 63 6 = nI 0 → ∃ σ', D_X4_takeToken_44 σ = some σ' ∧ R σ' ∧ cfr σ σ') → ∀ σ, cT σ n b → σ.1 63 6 = nI 0 → σ.1 63 2 = nI p → ∃ σ', J_X4_takeToken σ = some σ' ∧ R σ' ∧ cfr σ σ' := by
    intro R h σ t h6 h2
    obtain ⟨σ1, a1, a2, a3, a4⟩ := csk (K := D_X4_takeToken_44) B s2 s4 (s - p) p 4294967296 σ (by omega) (by omega) t h2 s3
    have f : cfr σ σ1 := ⟨a3, fun c i hc => a4 c i (by omega)⟩
    obtain ⟨σ', b1, b2, b3⟩ := h σ1 (cT_f f t) a2 (by rw [a4 _ _ (by omega)]; exact h6)
    refine ⟨σ', ?_, b2, cfr_t f b3⟩
    unfold J_X4_takeToken
    rw [zlet_eq, a1, b1]
  have M : ∀ (R : zS → Prop), (∀ σ, mT σ n b → σ.1 105 26 = nI s → σ.1 105 30 = nI 0 → ∃ σ', D_X11_next_34 σ = some σ' ∧ R σ' ∧ mfr σ σ') → ∀ σ, mT σ n b → σ.1 105 30 = nI 0 → σ.1 105 26 = nI p → ∃ σ', J_X11_next σ = some σ' ∧ R σ' ∧ mfr σ σ' := by
    intro R h σ t h6 h2
    obtain ⟨σ1, a1, a2, a3, a4⟩ := msk (K := D_X11_next_34) B s2 s4 (s - p) p 4294967296 σ (by omega) (by omega) t h2 s3
    have f : mfr σ σ1 := ⟨a3, fun c i hc => a4 c i (by omega)⟩
    obtain ⟨σ', b1, b2, b3⟩ := h σ1 (mT_f f t) a2 (by rw [a4 _ _ (by omega)]; exact h6)
    refine ⟨σ', ?_, b2, mfr_t f b3⟩
    unfold J_X11_next
    rw [h6, if_pos (show nI 0 ≤ 0 by decide), zlet_eq, a1, b1]
  by_cases hn : s = n
  · left
    exact ⟨3, s, s, 0, ⟨Nat.le_refl _, s2, by omega, fun _ => hn, fun q => by omega, fun q => by omega⟩, s1, C _ fun σ t h2 h6 => (tkc B s2 t h2 h6).1 hn, M _ fun σ t h2 h6 => (tkm B s2 t h2 h6).1 hn⟩
  · have hlt : s < n := by omega
    by_cases hl : 97 ≤ b s ∧ b s ≤ 122
    · left
      obtain ⟨e, e1, e2, e3, e4⟩ := run_ (n := n) (fun j => 97 ≤ b j ∧ b j ≤ 122) (n - s) s (by omega)
      have lt : s < e := by
        rcases Nat.lt_or_ge s e with q | q
        · exact q
        · have : e = s := by omega
          rw [this] at e4
          exact absurd hl (e4 hlt)
      exact ⟨0, s, e, 0, ⟨e1, e2, by omega, fun q => by omega, fun _ => lt, fun q => by omega⟩, s1, C _ fun σ t h2 h6 => ((tkc B s2 t h2 h6).2 hlt).1 e hl e1 e2 e4 e3, M _ fun σ t h2 h6 => ((tkm B s2 t h2 h6).2 hlt).1 e hl e1 e2 e4 e3⟩
    · by_cases hf : 48 ≤ b s ∧ b s ≤ 57
      · obtain ⟨e, e1, e2, e3, e4⟩ := run_ (n := n) (fun j => 48 ≤ b j ∧ b j ≤ 57) (n - s) s (by omega)
        have lt : s < e := by
          rcases Nat.lt_or_ge s e with q | q
          · exact q
          · have : e = s := by omega
            rw [this] at e4
            exact absurd hf (e4 hlt)
        by_cases h2 : e - s ≤ 2
        · left
          exact ⟨1, s, e, zfv b s (e - s), ⟨e1, e2, by omega, fun q => by omega, fun _ => lt, fun _ => zfv_b e3 _ (by omega)⟩, s1, C _ fun σ t h2' h6 => ((((tkc B s2 t h2' h6).2 hlt).2 hl).1 e hf e1 e2 e4 e3).1 h2, M _ fun σ t h2' h6 => ((((tkm B s2 t h2' h6).2 hlt).2 hl).1 e hf e1 e2 e4 e3).1 h2⟩
        · right
          exact ⟨s, s2, C _ fun σ t h2' h6 => ((((tkc B s2 t h2' h6).2 hlt).2 hl).1 e hf e1 e2 e4 e3).2 (by omega), M _ fun σ t h2' h6 => ((((tkm B s2 t h2' h6).2 hlt).2 hl).1 e hf e1 e2 e4 e3).2 (by omega)⟩
      · by_cases h59 : b s = 59
        · left
          exact ⟨2, s, s + 1, 0, ⟨by omega, by omega, by omega, fun q => by omega, fun _ => by omega, fun q => by omega⟩, s1, C _ fun σ t h2' h6 => ((((tkc B s2 t h2' h6).2 hlt).2 hl).2 hf).1 h59, M _ fun σ t h2' h6 => ((((tkm B s2 t h2' h6).2 hlt).2 hl).2 hf).1 h59⟩
        · right
          exact ⟨s, s2, C _ fun σ t h2' h6 => ((((tkc B s2 t h2' h6).2 hlt).2 hl).2 hf).2 h59, M _ fun σ t h2' h6 => ((((tkm B s2 t h2' h6).2 hlt).2 hl).2 hf).2 h59⟩
