set_option maxRecDepth 8000
/-! ===== a token, on both sides ===== -/
def cB (σ : zS) (k s p v : Nat) : Prop := σ.1 63 6 = nI 0 ∧ σ.1 63 3 = nI k ∧ σ.1 63 4 = nI s ∧ σ.1 63 2 = nI p ∧ (k = 1 → σ.1 63 5 = nI v)
def mB (σ : zS) (k s p v : Nat) : Prop := σ.1 105 30 = nI 0 ∧ σ.1 105 28 = nI ((k + 1) % 4) ∧ σ.1 105 27 = nI s ∧ σ.1 105 26 = nI p ∧ (k = 1 → σ.1 105 29 = nI v)
def cF (σ : zS) (f fp : Nat) : Prop := σ.1 63 6 = nI f ∧ σ.1 63 7 = nI fp
def mF (σ : zS) (f fp : Nat) : Prop := σ.1 105 30 = nI f ∧ σ.1 105 31 = nI fp
def cfr (σ σ' : zS) : Prop := σ'.2 = σ.2 ∧ ∀ c i, ¬ (c = 63 ∧ 2 ≤ i ∧ i ≤ 7) → σ'.1 c i = σ.1 c i
def mfr (σ σ' : zS) : Prop := σ'.2 = σ.2 ∧ ∀ c i, ¬ (c = 105 ∧ 26 ≤ i ∧ i ≤ 31) → σ'.1 c i = σ.1 c i
def tB (n k s p v : Nat) : Prop := s ≤ p ∧ p ≤ n ∧ k ≤ 3 ∧ (k = 3 → s = n) ∧ (k ≠ 3 → s < p) ∧ (k = 1 → v ≤ 99)
theorem cfr_r (σ : zS) : cfr σ σ := ⟨rfl, fun _ _ _ => rfl⟩
theorem cfr_t {a b c : zS} (h : cfr a b) (g : cfr b c) : cfr a c := ⟨g.1.trans h.1, fun x y q => (g.2 x y q).trans (h.2 x y q)⟩
theorem cfr_I {a b : zS} {k : Nat} {v : Int32} (h : cfr a b) (h1 : 2 ≤ k) (h2 : k ≤ 7) : cfr a (zsI b 63 k v) := ⟨h.1, fun x y q => by rw [zI_n (by omega)]; exact h.2 x y q⟩
theorem mfr_r (σ : zS) : mfr σ σ := ⟨rfl, fun _ _ _ => rfl⟩
theorem mfr_t {a b c : zS} (h : mfr a b) (g : mfr b c) : mfr a c := ⟨g.1.trans h.1, fun x y q => (g.2 x y q).trans (h.2 x y q)⟩
theorem mfr_I {a b : zS} {k : Nat} {v : Int32} (h : mfr a b) (h1 : 26 ≤ k) (h2 : k ≤ 31) : mfr a (zsI b 105 k v) := ⟨h.1, fun x y q => by rw [zI_n (by omega)]; exact h.2 x y q⟩
theorem cT_f {σ σ' : zS} {n : Nat} {b : Nat → Nat} (h : cfr σ σ') (t : cT σ n b) : cT σ' n b := ⟨by rw [h.2 _ _ (by omega)]; exact t.1, fun j hj => by rw [h.2 _ _ (by omega)]; exact t.2 j hj⟩
theorem mT_f {σ σ' : zS} {n : Nat} {b : Nat → Nat} (h : mfr σ σ') (t : mT σ n b) : mT σ' n b := ⟨by rw [h.2 _ _ (by omega)]; exact t.1, fun j hj => by rw [h.2 _ _ (by omega)]; exact t.2 j hj⟩
theorem cfail (f : Nat) (σ : zS) {s : Nat} (h : σ.1 63 4 = nI s) : ∃ σ', J_X4_fail (nI f) σ = some σ' ∧ cF σ' f s ∧ cfr σ σ' := by
  refine ⟨zsI (zsI σ 63 6 (nI f)) 63 7 (nI s), ?_, ⟨by rw [zI_n (by omega), zI_y], zI_y⟩, cfr_I (cfr_I (cfr_r σ) (by omega) (by omega)) (by omega) (by omega)⟩
  unfold J_X4_fail
  rw [zlet_eq, zI_n (by omega), h, zlet_eq]
theorem mfail (f : Nat) (σ : zS) {s : Nat} (h0 : σ.1 105 30 = nI 0) (h : σ.1 105 27 = nI s) : ∃ σ', J_X11_wants 0 (nI f) σ = some σ' ∧ mF σ' f s ∧ mfr σ σ' := by
  refine ⟨zsI (zsI σ 105 30 (nI f)) 105 31 (nI s), ?_, ⟨by rw [zI_n (by omega), zI_y], zI_y⟩, mfr_I (mfr_I (mfr_r σ) (by omega) (by omega)) (by omega) (by omega)⟩
  unfold J_X11_wants
  rw [if_pos rfl, h0, if_pos (show nI 0 = 0 from rfl), zlet_eq, zI_n (by omega), h, zlet_eq]
theorem want1 (f : Int32) (σ : zS) : J_X11_wants 1 f σ = some σ := by
  unfold J_X11_wants
  rw [if_neg (by decide)]
/-- the class's token, where it begins -/
theorem tkc {n s : Nat} {b : Nat → Nat} (B : bT n b) (hs : s ≤ n) {σ : zS} (t : cT σ n b) (h2 : σ.1 63 2 = nI s) (h6 : σ.1 63 6 = nI 0) : (s = n → ∃ σ', D_X4_takeToken_44 σ = some σ' ∧ cB σ' 3 s s 0 ∧ cfr σ σ') ∧ (s < n → (∀ e, (97 ≤ b s ∧ b s ≤ 122) → s ≤ e → e ≤ n → (e < n → ¬ (97 ≤ b e ∧ b e ≤ 122)) → (∀ j, s ≤ j → j < e → 97 ≤ b j ∧ b j ≤ 122) → ∃ σ', D_X4_takeToken_44 σ = some σ' ∧ cB σ' 0 s e 0 ∧ cfr σ σ') ∧ (¬ (97 ≤ b s ∧ b s ≤ 122) → (∀ e, (48 ≤ b s ∧ b s ≤ 57) → s ≤ e → e ≤ n → (e < n → ¬ (48 ≤ b e ∧ b e ≤ 57)) → (∀ j, s ≤ j → j < e → 48 ≤ b j ∧ b j ≤ 57) → (e - s ≤ 2 → ∃ σ', D_X4_takeToken_44 σ = some σ' ∧ cB σ' 1 s e (zfv b s (e - s)) ∧ cfr σ σ') ∧ (2 < e - s → ∃ σ', D_X4_takeToken_44 σ = some σ' ∧ cF σ' 1 s ∧ cfr σ σ')) ∧ (¬ (48 ≤ b s ∧ b s ≤ 57) → (b s = 59 → ∃ σ', D_X4_takeToken_44 σ = some σ' ∧ cB σ' 2 s (s + 1) 0 ∧ cfr σ σ') ∧ (¬ b s = 59 → ∃ σ', D_X4_takeToken_44 σ = some σ' ∧ cF σ' 1 s ∧ cfr σ σ')))) := by
  have B1 := B.1
  have f1 : cfr σ (zsI σ 63 4 (nI s)) := cfr_I (cfr_r σ) (by omega) (by omega)
  have y2 : (zsI σ 63 4 (nI s)).1 63 2 = nI s := by rw [zI_n (by omega)]; exact h2
  have y4 : (zsI σ 63 4 (nI s)).1 63 4 = nI s := zI_y
  have y6 : (zsI σ 63 4 (nI s)).1 63 6 = nI 0 := by rw [zI_n (by omega)]; exact h6
  have t1 := cT_f f1 t
  have D : D_X4_takeToken_44 σ = (fun σ1 : zS => if (σ1.1 63 2) < (σ1.1 1 1) then (zg (zi (σ1.1 63 2) 320) (zb (J_X4_isLetter (σ1.1 2 (σ1.1 63 2).toNatClampNeg) σ1) fun r4 => if r4 = (0 : Int32) then (zg (zi (σ1.1 63 2) 320) (zb (J_X4_isFigure (σ1.1 2 (σ1.1 63 2).toNatClampNeg) σ1) fun r7 => if r7 = (0 : Int32) then (zg (zi (σ1.1 63 2) 320) (if (σ1.1 2 (σ1.1 63 2).toNatClampNeg) = (59 : Int32) then (zlet (zsI σ1 63 3 (2 : Int32)) fun σ13 => zlet (zsI σ13 63 2 ((σ13.1 63 2) + (1 : Int32))) fun σ14 => some σ14) else (zb (J_X4_fail (1 : Int32) σ1) fun σ12 => some σ12))) else (zb (J_X4_takeFigures σ1) fun σ16 => some σ16))) else (zb (J_X4_takeLetters σ1) fun σ18 => some σ18))) else (zlet (zsI σ1 63 3 (3 : Int32)) fun σ19 => some σ19)) (zsI σ 63 4 (nI s)) := by
    unfold D_X4_takeToken_44
    rw [h2, zlet_eq]
  rw [D]
  generalize zsI σ 63 4 (nI s) = τ at *
  dsimp only
  rw [y2, t1.1]
  refine ⟨fun hsn => ?_, fun hsn => ?_⟩
  · rw [if_neg (nI_nlt (by omega) (by omega)), zlet_eq]
    refine ⟨_, rfl, ⟨?_, zI_y, ?_, ?_, fun q => by omega⟩, cfr_I f1 (by omega) (by omega)⟩
    · rw [zI_n (by omega)]; exact y6
    · rw [zI_n (by omega)]; exact y4
    · rw [zI_n (by omega)]; exact y2
  · rw [if_pos (nI_lt hsn (by omega)), zi_nI (by omega) (by omega), zg_t, zg_t, zg_t, zcla (by omega), t1.2 s hsn, il_ (B.2 s hsn), zb_s]
    refine ⟨fun e hl e1 e2 e3 e4 => ?_, fun hnl => ⟨fun e hf e1 e2 e3 e4 => ⟨fun e5 => ?_, fun e5 => ?_⟩, fun hnf => ⟨fun h59 => ?_, fun h59 => ?_⟩⟩⟩
    · rw [if_pos hl, if_neg (show ¬ (1 : Int32) = 0 by decide)]
      unfold J_X4_takeLetters
      have f2 : cfr τ (zsI τ 63 3 (0 : Int32)) := cfr_I (cfr_r τ) (by omega) (by omega)
      obtain ⟨σ', g1, g2, g3, g4⟩ := clt B e2 e3 (e - s) s 4294967296 (zsI τ 63 3 (0 : Int32)) (by omega) (by omega) (cT_f f2 t1) (by rw [zI_n (by omega)]; exact y2) e4
      rw [zlet_eq, g1, zb_s]
      refine ⟨σ', rfl, ⟨?_, ?_, ?_, g2, fun q => by omega⟩, cfr_t f1 (cfr_t f2 ⟨g3, fun c i hc => g4 c i (by omega)⟩)⟩
      · rw [g4 _ _ (by omega), zI_n (by omega)]; exact y6
      · rw [g4 _ _ (by omega), zI_y]; rfl
      · rw [g4 _ _ (by omega), zI_n (by omega)]; exact y4
    · rw [if_neg hnl, if_pos rfl, if_ (B.2 s hsn), zb_s, if_pos hf, if_neg (show ¬ (1 : Int32) = 0 by decide)]
      unfold J_X4_takeFigures
      have f2 : cfr τ (zsI (zsI τ 63 3 (1 : Int32)) 63 5 (0 : Int32)) := cfr_I (cfr_I (cfr_r τ) (by omega) (by omega)) (by omega) (by omega)
      obtain ⟨σ', g1, g2, g3, g4, g5⟩ := cfg (K := D_X4_takeFigures_95) B e2 e3 e4 (e - s) s 4294967296 (zsI (zsI τ 63 3 (1 : Int32)) 63 5 (0 : Int32)) (by omega) (by omega) (Nat.le_refl _) (cT_f f2 t1) (by rw [zI_n (by omega), zI_n (by omega)]; exact y2) (by rw [zI_n (by omega), zI_n (by omega)]; exact y4) (by rw [zI_y, Nat.sub_self]; rfl)
      have g24 : σ'.1 63 4 = nI s := by rw [g5 _ _ (by omega), zI_n (by omega), zI_n (by omega)]; exact y4
      have sub : nI e - nI s = nI (e - s) := pk_sub e1
      rw [zlet_eq, zlet_eq, zlet_eq, g1]
      unfold D_X4_takeFigures_95
      rw [g2, g24, sub, if_pos (show nI (e - s) ≤ (2 : Int32) from nI_le (b := 2) e5 (by omega)), zb_s]
      refine ⟨σ', rfl, ⟨?_, ?_, g24, g2, fun q => g3⟩, cfr_t f1 (cfr_t f2 ⟨g4, fun c i hc => g5 c i (by omega)⟩)⟩
      · rw [g5 _ _ (by omega), zI_n (by omega), zI_n (by omega)]; exact y6
      · rw [g5 _ _ (by omega), zI_n (by omega), zI_y]; rfl
    · rw [if_neg hnl, if_pos rfl, if_ (B.2 s hsn), zb_s, if_pos hf, if_neg (show ¬ (1 : Int32) = 0 by decide)]
      unfold J_X4_takeFigures
      have f2 : cfr τ (zsI (zsI τ 63 3 (1 : Int32)) 63 5 (0 : Int32)) := cfr_I (cfr_I (cfr_r τ) (by omega) (by omega)) (by omega) (by omega)
      obtain ⟨σ', g1, g2, g3, g4, g5⟩ := cfg (K := D_X4_takeFigures_95) B e2 e3 e4 (e - s) s 4294967296 (zsI (zsI τ 63 3 (1 : Int32)) 63 5 (0 : Int32)) (by omega) (by omega) (Nat.le_refl _) (cT_f f2 t1) (by rw [zI_n (by omega), zI_n (by omega)]; exact y2) (by rw [zI_n (by omega), zI_n (by omega)]; exact y4) (by rw [zI_y, Nat.sub_self]; rfl)
      have g24 : σ'.1 63 4 = nI s := by rw [g5 _ _ (by omega), zI_n (by omega), zI_n (by omega)]; exact y4
      have sub : nI e - nI s = nI (e - s) := pk_sub e1
      obtain ⟨σ2, k1, k2, k3⟩ := cfail 1 σ' g24
      have k1' : J_X4_fail (1 : Int32) σ' = some σ2 := k1
      rw [zlet_eq, zlet_eq, zlet_eq, g1]
      unfold D_X4_takeFigures_95
      rw [g2, g24, sub, if_neg (show ¬ nI (e - s) ≤ (2 : Int32) from nI_ge (a := 2) (by omega) (by omega)), k1', zb_s, zb_s]
      exact ⟨σ2, rfl, k2, cfr_t f1 (cfr_t f2 (cfr_t ⟨g4, fun c i hc => g5 c i (by omega)⟩ k3))⟩
    · have z : zsb (b s) = 59 := (sbF ⟨b s, B.2 s hsn⟩).2.1.mpr h59
      have t4 : nI s + 1 = nI (s + 1) := nI_add s 1
      rw [if_neg hnl, if_pos rfl, if_ (B.2 s hsn), zb_s, if_neg hnf, if_pos rfl, if_pos z, zlet_eq, zI_n (by omega), y2, t4, zlet_eq]
      refine ⟨_, rfl, ⟨?_, ?_, ?_, zI_y, fun q => by omega⟩, cfr_I (cfr_I f1 (by omega) (by omega)) (by omega) (by omega)⟩
      · rw [zI_n (by omega), zI_n (by omega)]; exact y6
      · rw [zI_n (by omega), zI_y]; rfl
      · rw [zI_n (by omega), zI_n (by omega)]; exact y4
    · have z : ¬ zsb (b s) = 59 := fun q => h59 ((sbF ⟨b s, B.2 s hsn⟩).2.1.mp q)
      obtain ⟨σ2, k1, k2, k3⟩ := cfail 1 τ y4
      have k1' : J_X4_fail (1 : Int32) τ = some σ2 := k1
      rw [if_neg hnl, if_pos rfl, if_ (B.2 s hsn), zb_s, if_neg hnf, if_pos rfl, if_neg z, k1', zb_s]
      exact ⟨σ2, rfl, k2, cfr_t f1 k3⟩
