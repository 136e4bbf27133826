set_option maxRecDepth 8000
/-! ===== together, goes ===== -/
theorem cntM {I : zI} (h : rCnt I) : ∃ (k : Nat) (M : Nat → Nat), 1 ≤ k ∧ k ≤ 4 ∧ I 82 0 = nI k ∧ I 105 36 = nI k ∧ (∀ c, c < 4 → M c < 256 ∧ I 83 c = nI (M c)) ∧ ∀ c, c < 4 → M c < 256 ∧ I 125 c = nI (M c) := by
  obtain ⟨k, k1, k2, k3, k4, k5⟩ := h
  refine ⟨k, fun c => (I 83 c).toNatClampNeg, k1, k2, k3, k4, fun c hc => ?_, fun c hc => ?_⟩
  · obtain ⟨⟨m, m1, m2, m3⟩, -⟩ := k5 c hc
    have q : (I 83 c).toNatClampNeg = m := by rw [m2]; exact zcla (by omega)
    show (I 83 c).toNatClampNeg < 256 ∧ I 83 c = nI (I 83 c).toNatClampNeg
    rw [q]
    exact ⟨m1, m2⟩
  · obtain ⟨⟨m, m1, m2, m3⟩, -⟩ := k5 c hc
    have q : (I 83 c).toNatClampNeg = m := by rw [m2]; exact zcla (by omega)
    show (I 83 c).toNatClampNeg < 256 ∧ I 125 c = nI (I 83 c).toNatClampNeg
    rw [q]
    exact ⟨m1, m3⟩
theorem pp_together {σ : zS} (h : zRel σ) (a : Int32) : ∃ r, J_X10_together a σ = some r ∧ J_X11_together a σ = some r := by
  obtain ⟨_, _, _, _, _, g6, _⟩ := h
  obtain ⟨k, M, k1, k2, k3, k4, m1, m2⟩ := cntM g6
  unfold J_X10_together J_X11_together
  by_cases ha : zL a 256
  · have e1 := isSet_y (σ := σ) ha
    have e2 := areEvents_y (σ := σ) ha
    obtain ⟨s, hs, rfl⟩ := ha
    have C : J_X0_canPlace 7 (nI s) 0 σ = _ := cp7 (s := s) (u := 0) k2 k3 m1 hs (Nat.pow_pos (by omega))
    rw [e1, e2, zb_s, zb_s, if_neg (by decide), if_neg (by decide), C, zb_s]
    rcases way11 k2 k4 m2 hs with ⟨f, w, -, w2, w3, W⟩ | ⟨f, W⟩
    · have p4 : 4 ^ (zev s).length ≤ 256 := Nat.le_trans (Nat.pow_le_pow_right (n := 4) (by omega) w3) (by decide)
      have f' : zcan k M (zev s) 0 = true := f
      have hne : ¬ nI w = -4 := of_eq_false (z_ng (a := w) (b := 4) (by omega) (by omega) (by omega))
      refine ⟨1, ?_, ?_⟩
      · rw [if_pos f', if_neg (show ¬ nI 1 = 0 by decide)]
      · rw [W, zb_s, if_neg hne]
    · have f' : ¬ zcan k M (zev s) 0 = true := by
        have f2 : zcan k M (zev s) 0 = false := f
        rw [f2]
        simp
      refine ⟨0, ?_, ?_⟩
      · rw [if_neg f', if_pos (show nI 0 = 0 from rfl)]
      · rw [W, zb_s, if_pos rfl]
  · have e1 := isSet_n (σ := σ) ha
    have e2 := areEvents_n (σ := σ) ha
    exact ⟨-1, by rw [e1, zb_s, if_pos rfl], by rw [e2, zb_s, if_pos rfl]⟩
theorem ev_mem {t e : Nat} : e ∈ zev t ↔ e < 8 ∧ t.testBit e = true := by
  unfold zev
  rw [List.mem_filter, List.mem_range]
theorem su_mem {s e x : Nat} (he : e ≤ 8) : x ∈ zsu s e ↔ e ≤ x ∧ x < 8 ∧ s.testBit x = true := by
  unfold zsu
  rw [List.mem_filter, List.mem_range'_1]
  constructor
  · rintro ⟨⟨h1, h2⟩, h3⟩
    exact ⟨h1, by omega, h3⟩
  · rintro ⟨h1, h2, h3⟩
    exact ⟨⟨h1, by omega⟩, h3⟩
theorem one_shl : ∀ e : Fin 8, ((1 : Int32) <<< (nI e.val &&& 31)) = nI (2 ^ e.val) := by decide +kernel
theorem cf_ {k : Nat} {M : Nat → Nat} {σ : zS} {s b : Nat} (hk : k ≤ 4) (k3 : σ.1 82 0 = nI k) (hM : ∀ c, c < 4 → M c < 256 ∧ σ.1 83 c = nI (M c)) (hb : b < 8) (hsb : s.testBit b = true) : ∀ q e n t u, e + q = b → q < n → t < 256 → u < 2 ^ k → zev t = zsu s e → (zcan k M (zev t) u = false → L_X0_counterFor_8 (nI b) σ n (nI t) (nI u) (nI e) = some (-4)) ∧ (∀ w, zGr k M (zev t) u w → L_X0_counterFor_8 (nI b) σ n (nI t) (nI u) (nI e) = some (nI (w / 4 ^ (zsu s (b + 1)).length % 4))) := by
  have p4 : 2 ^ k ≤ 16 := Nat.pow_le_pow_right (n := 2) (by omega) (show k ≤ 4 from hk)
  intro q
  induction q with
  | zero =>
    intro e n t u h hn ht hu hz
    cases n with
    | zero => omega
    | succ n =>
      obtain rfl : e = b := by omega
      have t3 : ¬ nI e < nI e := nI_nlt (Nat.le_refl _) (by omega)
      have mem : e ∈ zev t := by rw [hz, su_mem (by omega)]; exact ⟨Nat.le_refl _, hb, hsb⟩
      have tbit : t.testBit e = true := (ev_mem.mp mem).2
      have t0 : t ≠ 0 := by
        intro q
        rw [q, Nat.zero_testBit] at tbit
        cases tbit
      obtain ⟨f1, f2, f3, f4, f5⟩ := zF1 ⟨t, ht⟩ t0
      have f5' : zev t = zlo t :: zev (zrs t) := f5
      have zs := zsu_s (s := s) hb
      rw [if_pos hsb] at zs
      have he : zlo t = e ∧ zev (zrs t) = zsu s (e + 1) := by
        rw [hz, zs] at f5'
        have := List.cons.inj f5'
        exact ⟨this.1.symm, this.2.symm⟩
      have tb := tb_bit ht hb
      rw [if_pos tbit] at tb
      have L := lc_ (s := t) (u := u) hk k3 hM ht t0 hu (J_X0_canPlace 7) (fun _ c hc hub => cp7 hk k3 hM f3 ((zF5 ⟨k, by omega⟩ ⟨u, by omega⟩ hu).2 ⟨c, by omega⟩ hc hub).2)
      have step : ∀ r : Int32, J_X0_leastCounter (J_X0_canPlace 7) (nI t) (nI u) σ = some r → L_X0_counterFor_8 (nI e) σ (n + 1) (nI t) (nI u) (nI e) = some r := by
        intro r hr
        rw [L_X0_counterFor_8, zlet_eq, if_neg t3, tb, if_neg (show ¬ nI 1 = 0 by decide), hr, zb_s, if_pos rfl]
        split <;> rfl
      have eqf : ∀ c, zfc k M t u c = (!u.testBit c && (M c).testBit e && zcan k M (zsu s (e + 1)) (u ||| 2 ^ c)) := by
        intro c
        unfold zfc
        rw [he.1, he.2]
      refine ⟨fun hc => ?_, fun w hw => ?_⟩
      · rcases L with ⟨i, i1, i2, i3, i4⟩ | ⟨i1, i2⟩
        · exfalso
          have : zcan k M (zev t) u = true := by
            rw [zcan_c ht t0, List.any_eq_true]
            exact ⟨i, List.mem_range.mpr i1, i2⟩
          rw [hc] at this
          cases this
        · exact step _ i2
      · rw [hz, zs] at hw
        obtain ⟨c, c1, c2, c3, w', g1, g2⟩ := hw
        have wl : ∀ l u w, zGr k M l u w → w < 4 ^ l.length := by
          intro l
          induction l with
          | nil => intro u w h; rw [show w = 0 from h]; simp
          | cons x r ih =>
            intro u w h
            obtain ⟨c, c1, -, -, w', g1, g2⟩ := h
            have := ih _ _ g1
            rw [g2, List.length_cons, Nat.pow_succ]
            have : c * 4 ^ r.length ≤ 3 * 4 ^ r.length := Nat.mul_le_mul_right _ (by omega)
            omega
        have lt := wl _ _ _ g1
        have pp : 0 < 4 ^ (zsu s (e + 1)).length := Nat.pow_pos (by omega)
        have dg : w / 4 ^ (zsu s (e + 1)).length % 4 = c := by
          rw [g2, Nat.add_comm, Nat.add_mul_div_right _ _ pp, Nat.div_eq_of_lt lt, Nat.zero_add]
          exact Nat.mod_eq_of_lt (by omega)
        rw [dg]
        rcases L with ⟨i, i1, i2, i3, i4⟩ | ⟨i1, i2⟩
        · have : i = c := by
            rcases Nat.lt_trichotomy i c with x | x | x
            · have := c3 i x
              rw [← eqf, i2] at this
              cases this
            · exact x
            · have := i3 c x
              rw [eqf, c2] at this
              cases this
          rw [← this]
          exact step _ i4
        · exfalso
          have := i1 c c1
          rw [eqf, c2] at this
          cases this
  | succ q ih =>
    intro e n t u h hn ht hu hz
    cases n with
    | zero => omega
    | succ n =>
      have t3 : ¬ nI b < nI e := nI_nlt (by omega) (by omega)
      have t4 : nI e + 1 = nI (e + 1) := nI_add e 1
      have tb := tb_bit ht (show e < 8 by omega)
      have zs := zsu_s (s := s) (show e < 8 by omega)
      by_cases hse : s.testBit e = true
      · rw [if_pos hse] at zs
        have mem : e ∈ zev t := by rw [hz, su_mem (by omega)]; exact ⟨Nat.le_refl _, by omega, hse⟩
        have tbit : t.testBit e = true := (ev_mem.mp mem).2
        have t0 : t ≠ 0 := by
          intro q
          rw [q, Nat.zero_testBit] at tbit
          cases tbit
        obtain ⟨f1, f2, f3, f4, f5⟩ := zF1 ⟨t, ht⟩ t0
        have f2' : nI t ^^^ nI (2 ^ zlo t) = nI (zrs t) := f2
        have f5' : zev t = zlo t :: zev (zrs t) := f5
        have he : zlo t = e ∧ zev (zrs t) = zsu s (e + 1) := by
          rw [hz, zs] at f5'
          have := List.cons.inj f5'
          exact ⟨this.1.symm, this.2.symm⟩
        rw [if_pos tbit] at tb
        have L := lc_ (s := t) (u := u) hk k3 hM ht t0 hu (J_X0_canPlace 7) (fun _ c hc hub => cp7 hk k3 hM f3 ((zF5 ⟨k, by omega⟩ ⟨u, by omega⟩ hu).2 ⟨c, by omega⟩ hc hub).2)
        have hne : ¬ nI e = nI b := fun q => by have := (nI_eq (by omega) (by omega)).mp q; omega
        have o1 := one_shl ⟨e, by omega⟩
        have o1' : ((1 : Int32) <<< (nI e &&& 31)) = nI (2 ^ zlo t) := by rw [he.1]; exact o1
        have eqf : ∀ c, zfc k M t u c = (!u.testBit c && (M c).testBit e && zcan k M (zsu s (e + 1)) (u ||| 2 ^ c)) := by
          intro c
          unfold zfc
          rw [he.1, he.2]
        refine ⟨fun hc => ?_, fun w hw => ?_⟩
        · rcases L with ⟨i, i1, i2, i3, i4⟩ | ⟨i1, i2⟩
          · exfalso
            have : zcan k M (zev t) u = true := by
              rw [zcan_c ht t0, List.any_eq_true]
              exact ⟨i, List.mem_range.mpr i1, i2⟩
            rw [hc] at this
            cases this
          · rw [L_X0_counterFor_8, zlet_eq, if_neg t3, tb, if_neg (show ¬ nI 1 = 0 by decide), i2, zb_s, if_pos (by decide)]
        · rw [hz, zs] at hw
          obtain ⟨c, c1, c2, c3, w', g1, g2⟩ := hw
          rcases L with ⟨i, i1, i2, i3, i4⟩ | ⟨i1, i2⟩
          · have hic : i = c := by
              rcases Nat.lt_trichotomy i c with x | x | x
              · have := c3 i x
                rw [← eqf, i2] at this
                cases this
              · exact x
              · have := i3 c x
                rw [eqf, c2] at this
                cases this
            subst hic
            have hub : u.testBit i = false := by
              simp only [Bool.and_eq_true, Bool.not_eq_true'] at c2
              exact c2.1.1
            have u2 := ((zF5 ⟨k, by omega⟩ ⟨u, by omega⟩ hu).2 ⟨i, by omega⟩ i1 hub).2
            have or3 := (zF3 ⟨u, by omega⟩ ⟨i, by omega⟩).1
            have or3' : (nI u ||| ((1 : Int32) <<< (nI i &&& 31))) = nI (u ||| 2 ^ i) := or3
            have I := (ih (e + 1) n (zrs t) (u ||| 2 ^ i) (by omega) (by omega) f3 u2 he.2).2 w' (by rw [he.2]; exact g1)
            have sub : (zsu s (b + 1)).length < (zsu s (e + 1)).length := by
              have : ∀ d, (zsu s (b + 1)).length < (zsu s (b - d)).length ∨ b < d := by
                intro d
                induction d with
                | zero =>
                  left
                  rw [Nat.sub_zero, zsu_s hb, if_pos hsb, List.length_cons]
                  omega
                | succ d ihd =>
                  by_cases hd : b < d + 1
                  · exact Or.inr hd
                  · left
                    rcases ihd with x | x
                    · have z := zsu_s (s := s) (show b - (d + 1) < 8 by omega)
                      rw [show b - (d + 1) + 1 = b - d by omega] at z
                      rw [z]
                      split
                      · rw [List.length_cons]; omega
                      · exact x
                    · omega
              rcases this (b - (e + 1)) with x | x
              · rw [show b - (b - (e + 1)) = e + 1 by omega] at x
                exact x
              · omega
            rw [g2, dig_ sub]
            rw [L_X0_counterFor_8, zlet_eq, if_neg t3, tb, if_neg (show ¬ nI 1 = 0 by decide), i4, zb_s, if_neg (nI_pos (by omega)), if_neg hne, o1', f2', zlet_eq, or3', zlet_eq, t4, zlet_eq]
            exact I
          · exfalso
            have := i1 c c1
            rw [eqf, c2] at this
            cases this
      · rw [if_neg hse] at zs
        have nb : t.testBit e = false := by
          cases hx : t.testBit e
          · rfl
          · exfalso
            have : e ∈ zev t := ev_mem.mpr ⟨by omega, hx⟩
            rw [hz, su_mem (by omega)] at this
            exact hse this.2.2
        rw [if_neg (by rw [nb]; simp)] at tb
        have I := ih (e + 1) n t u (by omega) (by omega) ht hu (hz.trans zs)
        rw [L_X0_counterFor_8, zlet_eq, if_neg t3, tb, if_pos (show nI 0 = 0 from rfl), t4, zlet_eq]
        exact I
