set_option maxRecDepth 8000
theorem gF1 : ∀ s : Fin 256, ∀ e : Fin 8, (nI s.val >>> ((nI e.val + 1) &&& 31) : Int32) = nI (s.val / 2 ^ (e.val + 1)) ∧ pcn (s.val / 2 ^ (e.val + 1)) 16 = (zsu s.val (e.val + 1)).length ∧ (s.val.testBit e.val = true → (zsu s.val (e.val + 1)).length < (zev s.val).length) := by decide +kernel
theorem pp_goes {σ : zS} (h : zRel σ) (a b : Int32) : ∃ r, J_X10_goes a b σ = some r ∧ J_X11_goes a b σ = some r := by
  obtain ⟨_, _, _, _, _, g6, _⟩ := h
  obtain ⟨k, M, k1, k2, k3, k4, m1, m2⟩ := cntM g6
  unfold J_X10_goes J_X11_goes
  by_cases ha : zL a 256
  · have e2 := areEvents_y (σ := σ) ha
    by_cases hb : zL b 8
    · have e4 := isEventM_y (σ := σ) hb
      obtain ⟨s, hs, rfl⟩ := ha
      obtain ⟨e, he, rfl⟩ := hb
      have io := ioo (σ := σ) he hs
      have tb := tb_bit hs he
      rw [io, zb_s, e2, zb_s, if_neg (show ¬ (1 : Int32) = 0 by decide), e4, zb_s, if_neg (show ¬ (1 : Int32) = 0 by decide), tb]
      by_cases hbit : s.testBit e = true
      · rw [if_pos hbit, if_neg (show ¬ nI 1 = 0 by decide), if_neg (show ¬ nI 1 = 0 by decide)]
        obtain ⟨c1, c2⟩ := cf_ (σ := σ) (s := s) (b := e) k2 k3 m1 he hbit e 0 4294967296 s 0 (by omega) (by omega) hs (Nat.pow_pos (by omega)) (zsu_0 s).symm
        obtain ⟨x1, x2, x3⟩ := gF1 ⟨s, hs⟩ ⟨e, he⟩
        have x1' : (nI s >>> ((nI e + 1) &&& 31) : Int32) = nI (s / 2 ^ (e + 1)) := x1
        have x2' : pcn (s / 2 ^ (e + 1)) 16 = (zsu s (e + 1)).length := x2
        have x3' : (zsu s (e + 1)).length < (zev s).length := x3 hbit
        have sd := Nat.div_le_self s (2 ^ (e + 1))
        have co := cof (σ := σ) (s := s / 2 ^ (e + 1)) (by omega)
        rw [x2'] at co
        rcases way11 k2 k4 m2 hs with ⟨f, w, w1, w2, w3, W⟩ | ⟨f, W⟩
        · have p4 : 4 ^ (zev s).length ≤ 256 := Nat.le_trans (Nat.pow_le_pow_right (n := 4) (by omega) w3) (by decide)
          have hne : ¬ nI w = -4 := of_eq_false (z_ng (a := w) (b := 4) (by omega) (by omega) (by omega))
          have C : J_X0_counterFor (nI s) (nI e) σ = some (nI (w / 4 ^ (zsu s (e + 1)).length % 4)) := c2 w w1
          have d1 := wF1 ⟨w, by omega⟩ ⟨(zsu s (e + 1)).length, by omega⟩
          have d1' : ((nI w >>> (nI (2 * (zsu s (e + 1)).length) &&& 31)) &&& 3 : Int32) = nI (w / 4 ^ (zsu s (e + 1)).length % 4) := d1
          have m2' : (2 : Int32) * nI (zsu s (e + 1)).length = nI (2 * (zsu s (e + 1)).length) := pk_mul 2 _
          refine ⟨nI (w / 4 ^ (zsu s (e + 1)).length % 4), ?_, ?_⟩
          · rw [C, zb_s]
          · rw [W, zb_s, if_neg hne, x1', co, zb_s, m2', d1']
        · have C : J_X0_counterFor (nI s) (nI e) σ = some (-4) := c1 f
          refine ⟨-4, ?_, ?_⟩
          · rw [C, zb_s]
          · rw [W, zb_s, if_pos rfl]
      · rw [if_neg hbit, if_pos (show nI 0 = 0 from rfl), if_pos (show nI 0 = 0 from rfl)]
        exact ⟨-1, rfl, rfl⟩
    · have e1 := isSet_y (σ := σ) ha
      have e3 := isEvent_n (σ := σ) hb
      have e4 := isEventM_n (σ := σ) hb
      have io : J_X10_isOneOf b a σ = some 0 := by
        unfold J_X10_isOneOf
        rw [e1, zb_s, if_neg (by decide), e3, zb_s, if_pos rfl]
      exact ⟨-1, by rw [io, zb_s, if_pos rfl], by rw [e2, zb_s, if_neg (by decide), e4, zb_s, if_pos rfl]⟩
  · have e1 := isSet_n (σ := σ) ha
    have e2 := areEvents_n (σ := σ) ha
    have io : J_X10_isOneOf b a σ = some 0 := by
      unfold J_X10_isOneOf
      rw [e1, zb_s, if_pos rfl]
    exact ⟨-1, by rw [io, zb_s, if_pos rfl], by rw [e2, zb_s, if_pos rfl]⟩
