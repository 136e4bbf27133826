set_option maxRecDepth 8000
/-! ===== a number, on both sides ===== -/
theorem nx_f {f : Nat} {σ : zS} (h : σ.1 105 30 = nI f) (h1 : 1 ≤ f) (h6 : f ≤ 6) : J_X11_next σ = some σ := by
  unfold J_X11_next
  rw [h, if_neg (nI_nle (by omega) (by omega))]
theorem wt_f {f : Nat} {σ : zS} (x y : Int32) (h : σ.1 105 30 = nI f) (h1 : 1 ≤ f) (h6 : f ≤ 6) : J_X11_wants x y σ = some σ := by
  unfold J_X11_wants
  rw [h, if_neg (nI_ne0 (by omega) (by omega))]
  split <;> rfl
theorem rn_f {f : Nat} {σ : zS} (x y : Int32) (h : σ.1 105 30 = nI f) (h1 : 1 ≤ f) (h6 : f ≤ 6) : J_X11_readNumber x y σ = some (σ.1 105 29, σ) := by
  have e : ¬ nI f = 0 := nI_ne0 (by omega) (by omega)
  unfold J_X11_readNumber
  rw [zlet_eq, h, if_neg e]
  unfold D_X11_readNumber_25
  rw [zlet_eq, h, if_neg e]
  unfold D_X11_readNumber_49
  rw [zlet_eq, nx_f h h1 h6, zb_s]
theorem zb2_zb {o : Option zS} {v : Int32} {K : Int32 → zS → Option zS} : zb2 (zb o fun σ3 => some (v, σ3)) K = zb o fun σ3 => K v σ3 := by
  cases o <;> rfl
theorem num_ {n p lo hi : Nat} {b : Nat → Nat} (B : bT n b) (hp : p ≤ n) (hlo : lo ≤ 99) (hhi : hi ≤ 99) : (∃ s p' v, tB n 1 s p' v ∧ p ≤ s ∧ lo ≤ v ∧ v ≤ hi ∧ (∀ σ, cT σ n b → σ.1 63 6 = nI 0 → σ.1 63 2 = nI p → ∃ σ', J_X4_takeNumber (nI lo) (nI hi) σ = some σ' ∧ cB σ' 1 s p' v ∧ cfr σ σ') ∧ ∀ σ, mT σ n b → σ.1 105 30 = nI 0 → σ.1 105 26 = nI p → ∃ σ', mB σ' 1 s p' v ∧ mfr σ σ' ∧ ∀ K : Int32 → zS → Option zS, zb (J_X11_next σ) (fun σ5 => zb2 (J_X11_readNumber (nI lo) (nI hi) σ5) K) = zb (J_X11_next σ') (fun σ3 => K (nI v) σ3)) ∨ ∃ f fp, 1 ≤ f ∧ f ≤ 6 ∧ fp ≤ n ∧ (∀ σ, cT σ n b → σ.1 63 6 = nI 0 → σ.1 63 2 = nI p → ∃ σ', J_X4_takeNumber (nI lo) (nI hi) σ = some σ' ∧ cF σ' f fp ∧ cfr σ σ') ∧ ∀ σ, mT σ n b → σ.1 105 30 = nI 0 → σ.1 105 26 = nI p → ∃ σ' r, mF σ' f fp ∧ mfr σ σ' ∧ ∀ K : Int32 → zS → Option zS, zb (J_X11_next σ) (fun σ5 => zb2 (J_X11_readNumber (nI lo) (nI hi) σ5) K) = K r σ' := by
  rcases tok_ B hp with ⟨k, s, p', v, tb, ps, C, M⟩ | ⟨s, sn, C, M⟩
  · have sn : s ≤ n := Nat.le_trans tb.1 tb.2.1
    by_cases hk : k = 1
    · subst hk
      have v99 := tb.2.2.2.2.2 rfl
      by_cases hv : lo ≤ v ∧ v ≤ hi
      · left
        refine ⟨s, p', v, tb, ps, hv.1, hv.2, fun σ t h6 h2 => ?_, fun σ t h6 h2 => ?_⟩
        · obtain ⟨σ', a1, a2, a3⟩ := C σ t h6 h2
          refine ⟨σ', ?_, a2, a3⟩
          unfold J_X4_takeNumber
          rw [a1, zb_s, zlet_eq, a2.1, if_pos (show nI 0 = 0 from rfl), a2.2.1, if_pos (show nI 1 = 1 from rfl)]
          unfold D_X4_takeNumber_27
          rw [a2.1, if_pos (show nI 0 = 0 from rfl), zlet_eq, a2.2.2.2.2 rfl, if_neg (nI_nlt hv.1 (by omega)), if_pos (nI_le hv.2 (by omega))]
        · obtain ⟨σ', a1, a2, a3⟩ := M σ t h6 h2
          refine ⟨σ', a2, a3, fun K => ?_⟩
          rw [a1, zb_s]
          unfold J_X11_readNumber
          rw [zlet_eq, a2.1, if_pos (show nI 0 = 0 from rfl), a2.2.1, if_pos (show nI ((1 + 1) % 4) = 2 from rfl), zlet_eq, want1, zb_s]
          unfold D_X11_readNumber_25
          rw [zlet_eq, a2.1, if_pos (show nI 0 = 0 from rfl), a2.2.2.2.2 rfl, inb (by omega) (nI_l (by omega)) (nI_l (by omega)) (by omega) (by omega), zb_s, if_pos hv, want1, zb_s]
          unfold D_X11_readNumber_49
          rw [zlet_eq, a2.2.2.2.2 rfl, zb2_zb]
      · right
        refine ⟨3, s, by omega, by omega, sn, fun σ t h6 h2 => ?_, fun σ t h6 h2 => ?_⟩
        · obtain ⟨σ', a1, a2, a3⟩ := C σ t h6 h2
          obtain ⟨σ2, k1, k2, k3⟩ := cfail 3 σ' a2.2.2.1
          have k1' : J_X4_fail (3 : Int32) σ' = some σ2 := k1
          refine ⟨σ2, ?_, k2, cfr_t a3 k3⟩
          unfold J_X4_takeNumber
          rw [a1, zb_s, zlet_eq, a2.1, if_pos (show nI 0 = 0 from rfl), a2.2.1, if_pos (show nI 1 = 1 from rfl)]
          unfold D_X4_takeNumber_27
          rw [a2.1, if_pos (show nI 0 = 0 from rfl), zlet_eq, a2.2.2.2.2 rfl]
          unfold D_X4_takeNumber_50
          rw [k1', zb_s]
          by_cases h1 : v < lo
          · rw [if_pos (nI_lt h1 (by omega))]
          · rw [if_neg (nI_nlt (by omega) (by omega)), if_neg (nI_ge (by omega) (by omega))]
        · obtain ⟨σ', a1, a2, a3⟩ := M σ t h6 h2
          obtain ⟨σ2, k1, k2, k3⟩ := mfail 3 σ' a2.1 a2.2.2.1
          have k1' : J_X11_wants (0 : Int32) (3 : Int32) σ' = some σ2 := k1
          refine ⟨σ2, σ2.1 105 29, k2, mfr_t a3 k3, fun K => ?_⟩
          rw [a1, zb_s]
          unfold J_X11_readNumber
          rw [zlet_eq, a2.1, if_pos (show nI 0 = 0 from rfl), a2.2.1, if_pos (show nI ((1 + 1) % 4) = 2 from rfl), zlet_eq, want1, zb_s]
          unfold D_X11_readNumber_25
          rw [zlet_eq, a2.1, if_pos (show nI 0 = 0 from rfl), a2.2.2.2.2 rfl, inb (by omega) (nI_l (by omega)) (nI_l (by omega)) (by omega) (by omega), zb_s, if_neg hv, k1', zb_s]
          unfold D_X11_readNumber_49
          rw [zlet_eq, nx_f k2.1 (by omega) (by omega), zb_s, zb2_s]
    · right
      refine ⟨2, s, by omega, by omega, sn, fun σ t h6 h2 => ?_, fun σ t h6 h2 => ?_⟩
      · obtain ⟨σ', a1, a2, a3⟩ := C σ t h6 h2
        obtain ⟨σ2, k1, k2, k3⟩ := cfail 2 σ' a2.2.2.1
        have k1' : J_X4_fail (2 : Int32) σ' = some σ2 := k1
        refine ⟨σ2, ?_, k2, cfr_t a3 k3⟩
        have ne : ¬ nI k = (1 : Int32) := fun q => hk ((nI_eq (a := k) (b := 1) (by have := tb.2.2.1; omega) (by omega)).mp q)
        unfold J_X4_takeNumber
        rw [a1, zb_s, zlet_eq, a2.1, if_pos (show nI 0 = 0 from rfl), a2.2.1, if_neg ne, k1', zb_s]
      · obtain ⟨σ', a1, a2, a3⟩ := M σ t h6 h2
        obtain ⟨σ2, k1, k2, k3⟩ := mfail 2 σ' a2.1 a2.2.2.1
        have k1' : J_X11_wants (0 : Int32) (2 : Int32) σ' = some σ2 := k1
        refine ⟨σ2, σ2.1 105 29, k2, mfr_t a3 k3, fun K => ?_⟩
        have k3' := tb.2.2.1
        have ne : ¬ nI ((k + 1) % 4) = (2 : Int32) := fun q => by
          have := (nI_eq (a := (k + 1) % 4) (b := 2) (by omega) (by omega)).mp q
          omega
        rw [a1, zb_s]
        unfold J_X11_readNumber
        rw [zlet_eq, a2.1, if_pos (show nI 0 = 0 from rfl), a2.2.1, if_neg ne, zlet_eq, k1', zb_s]
        unfold D_X11_readNumber_25
        rw [zlet_eq, k2.1, if_neg (show ¬ nI 2 = 0 by decide)]
        unfold D_X11_readNumber_49
        rw [zlet_eq, nx_f k2.1 (by omega) (by omega), zb_s, zb2_s]
  · right
    refine ⟨1, s, by omega, by omega, sn, fun σ t h6 h2 => ?_, fun σ t h6 h2 => ?_⟩
    · obtain ⟨σ', a1, a2, a3⟩ := C σ t h6 h2
      refine ⟨σ', ?_, a2, a3⟩
      unfold J_X4_takeNumber
      rw [a1, zb_s, zlet_eq, a2.1, if_neg (show ¬ nI 1 = 0 by decide)]
      unfold D_X4_takeNumber_27
      rw [a2.1, if_neg (show ¬ nI 1 = 0 by decide)]
    · obtain ⟨σ', a1, a2, a3⟩ := M σ t h6 h2
      exact ⟨σ', σ'.1 105 29, a2, a3, fun K => by rw [a1, zb_s, rn_f _ _ a2.1 (by omega) (by omega), zb2_s]⟩
