set_option maxRecDepth 8000
/-! ===== program ===== -/
theorem tapeB {I : zI} (h : rTape I) : ∃ (n : Nat) (b : Nat → Nat), bT n b ∧ I 1 1 = nI n ∧ I 105 25 = nI n ∧ (∀ j, j < n → I 2 j = zsb (b j)) ∧ ∀ j, j < n → I 121 j = nI (b j) := by
  obtain ⟨n, h1, h2, h3, h4⟩ := h
  have v : ∀ j, j < n → ∃ x, x < 256 ∧ I 121 j = nI x ∧ I 2 j = (nI x).toInt8.toInt32 ∧ (I 121 j).toNatClampNeg = x := by
    intro j hj
    obtain ⟨x, x1, x2, x3⟩ := h4 j hj
    exact ⟨x, x1, x2, x3, by rw [x2]; exact zcla (by omega)⟩
  refine ⟨n, fun j => (I 121 j).toNatClampNeg, ⟨h1, fun j hj => ?_⟩, h2, h3, fun j hj => ?_, fun j hj => ?_⟩
  · obtain ⟨x, x1, x2, x3, x4⟩ := v j hj
    show (I 121 j).toNatClampNeg < 256
    omega
  · obtain ⟨x, x1, x2, x3, x4⟩ := v j hj
    show I 2 j = zsb (I 121 j).toNatClampNeg
    rw [x4, x3]
    rfl
  · obtain ⟨x, x1, x2, x3, x4⟩ := v j hj
    show I 121 j = nI (I 121 j).toNatClampNeg
    rw [x4, x2]
theorem zR_y {σ : zS} {c k v : Nat} : (zsR σ c k v).2.2 c k = v := by
  show (if c = c ∧ k = k then v else σ.2.2 c k) = v
  exact if_pos ⟨rfl, rfl⟩
theorem zR_n {σ : zS} {c k a j v : Nat} (h : ¬ (a = c ∧ j = k)) : (zsR σ c k v).2.2 a j = σ.2.2 a j := by
  show (if a = c ∧ j = k then v else σ.2.2 a j) = _
  exact if_neg h
theorem zR_1 {σ : zS} {c k v : Nat} : (zsR σ c k v).1 = σ.1 := rfl
theorem zR_i {σ : zS} {c k v d i : Nat} {x : Int32} : (zsR (zsI σ d i x) c k v).1 = (zsI σ d i x).1 := rfl
/-- all that a text leaves as it is -/
theorem zRel_p {σ τ : zS} (h : zRel σ) (t : rTape τ.1) (f : rFault τ.1) (r : rRefs τ.2.2) (pr : rProg τ) (ru : rRuns τ.1) (fr : ∀ c i, (64 ≤ c ∧ c ≤ 104 ∧ c ≠ 92) ∨ (c = 105 ∧ i = 36) ∨ (124 ≤ c ∧ c ≤ 126) ∨ (134 ≤ c ∧ c ≤ 136) → τ.1 c i = σ.1 c i) : zRel τ := by
  obtain ⟨_, _, _, _, h5, h6, _, h8⟩ := h
  exact ⟨t, f, r, pr, rKept_c (I := σ.1) (fun c k hc => fr c k (by omega)) h5, rCnt_c (I := σ.1) (fun c k hc => fr c k (by omega)) h6, ru, rSheet_c (I := σ.1) (fun c k hc => fr c k (by omega)) h8⟩
theorem pp_program : zGood J_X10_program J_X11_program := by
  intro σ h hb
  obtain ⟨h1, h2, h3, h4, h5, h6, h7, h8⟩ := id h
  obtain ⟨n, b, B, t1, t2, t3, t4⟩ := tapeB h1
  have B1 := B.1
  obtain ⟨P0, w0, c0, m0⟩ := h4
  obtain ⟨p, p', hp, hp', hpp, r1, r2⟩ : ∃ p p', (p = 3 ∨ p = 33) ∧ (p' = 3 ∨ p' = 33) ∧ p ≠ p' ∧ σ.2.2 0 2 = p ∧ σ.2.2 0 1 = p' := by
    rcases h3 with ⟨a, b⟩ | ⟨a, b⟩
    · exact ⟨33, 3, Or.inr rfl, Or.inl rfl, by omega, b, a⟩
    · exact ⟨3, 33, Or.inl rfl, Or.inr rfl, by omega, b, a⟩
  have hz : zP p = true := by rcases hp with rfl | rfl <;> rfl
  have hz' : zP p' = true := by rcases hp' with rfl | rfl <;> rfl
  rw [r2] at c0
  rcases prog_ B hp hz with ⟨P, cur, w, hw, h6', C, M⟩ | ⟨f, fp, F1, F2, F3, C, M⟩
  · -- it is taken
    obtain ⟨σ4, a1, a2, a3, a4⟩ := C σ ⟨t1, t3⟩
    have fr4 : ∀ c i, ¬ (c = 63 ∧ 2 ≤ i ∧ i ≤ 7) → ¬ (p ≤ c ∧ c < p + 30) → σ4.1 c i = σ.1 c i := fun c i q1 q2 => (a4.2 c i q1 q2).trans rfl
    have rf4 : ∀ c i, ¬ (c = 63 ∧ i = 1) → σ4.2.2 c i = σ.2.2 c i := fun c i q => by
      rw [a4.1]
      exact zR_n q
    obtain ⟨σ13, h13⟩ : ∃ σ13, σ13 = zsR (zsR (zsI (zsI σ4 0 11 (nI 0)) 1 1 (0 : Int32)) 0 2 p') 0 1 p := ⟨_, rfl⟩
    have o13 : ∀ c i, ¬ (c = 0 ∧ i = 11) → ¬ (c = 1 ∧ i = 1) → σ13.1 c i = σ4.1 c i := fun c i q1 q2 => by
      rw [h13]
      show (zsI (zsI σ4 0 11 (nI 0)) 1 1 (0 : Int32)).1 c i = _
      rw [zI_n q2, zI_n q1]
    have d13 : cD σ13.1 p P [] cur := cD_cg w.1 (fun c i q1 q2 => o13 c i (by omega) (by omega)) a2
    obtain ⟨σ17, b1, b2, b3, b4⟩ := ts_ w h6' d13
    obtain ⟨f1, f2, f3, -⟩ := dFin_f (P := P) (cur := cur)
    have w1 := w.1
    have rr1 : σ13.2.2 0 1 = p := by rw [h13]; exact zR_y
    have rr2 : σ13.2.2 0 2 = p' := by
      rw [h13, zR_n (by omega)]
      exact zR_y
    obtain ⟨σ18, h18⟩ : ∃ σ18, σ18 = zsI σ17 92 0 (0 : Int32) := ⟨_, rfl⟩
    have o18 : ∀ c i, ¬ (c = 63 ∧ 2 ≤ i ∧ i ≤ 7) → ¬ (p ≤ c ∧ c < p + 30) → ¬ (c = 0 ∧ i = 11) → ¬ (c = 1 ∧ i = 1) → ¬ (c = 92 ∧ i = 0) → σ18.1 c i = σ.1 c i := fun c i q1 q2 q3 q4 q5 => by
      rw [h18, zI_n q5, b4 _ _ (by omega), o13 c i q3 q4, fr4 c i q1 q2]
    have A : J_X10_program σ = some (nI (zpn P), σ18) := by
      have x6 : (zsI (zsI σ4 0 11 (nI 0)) 1 1 (0 : Int32)).1 0 11 = nI 0 := by rw [zI_n (by omega), zI_y]
      have y8 : (zsI (zsI σ4 0 11 (nI 0)) 1 1 (0 : Int32)).2.2 0 2 = p := by
        show σ4.2.2 0 2 = p
        rw [rf4 _ _ (by omega)]; exact r1
      have y10 : (zsI (zsI σ4 0 11 (nI 0)) 1 1 (0 : Int32)).2.2 0 1 = p' := by
        show σ4.2.2 0 1 = p'
        rw [rf4 _ _ (by omega)]; exact r2
      have y18 : σ18.2.2 0 1 = p := by
        rw [h18]
        show σ17.2.2 0 1 = p
        rw [b3]; exact rr1
      have y0 : σ18.1 p 0 = nI (zpn P) := by
        rw [h18, zI_n (by omega), b4 _ _ (by omega)]
        exact d13.1
      unfold J_X10_program
      rw [r1, zlet_eq, hz, zg_t, a1, zb_s, a3, zlet_eq, zlet_eq, x6, if_pos (show nI 0 = 0 from rfl), y8, zlet_eq, hz, zg_t, y10, zlet_eq, hz', zg_t, zlet_eq, zlet_eq, ← h13, rr1, zlet_eq, hz, zg_t, b1, zb_s, ← h18, zlet_eq, y18, zlet_eq, hz, zg_t, y0]
    obtain ⟨σ5, g1, g2, g3, g4⟩ := M σ18 ⟨by rw [o18 _ _ (by omega) (by omega) (by omega) (by omega) (by omega)]; exact t2, fun j hj => by rw [o18 _ _ (by omega) (by omega) (by omega) (by omega) (by omega)]; exact t4 j hj⟩
    have d12 : mD (zsI σ5 105 25 (0 : Int32)).1 P [] := mD_cg (I := σ5.1) (fun c i hc => zI_n (by omega)) g2
    obtain ⟨σ15, k1, k2, k3, k4, k5⟩ := kp_ w h6' hw d12
    have x30 : (zsI σ5 105 25 (0 : Int32)).1 105 30 = nI 0 := by rw [zI_n (by omega)]; exact g3
    have o15 : ∀ c i, ¬ (c = 105 ∧ (i = 0 ∨ i = 4 ∨ i = 7 ∨ i = 10 ∨ i = 22 ∨ i = 49 ∨ i = 25 ∨ i = 11 ∨ i = 15 ∨ i = 19 ∨ i = 23 ∨ (26 ≤ i ∧ i ≤ 31))) → ¬ (106 ≤ c ∧ c ≤ 120) → ¬ (c = 122 ∨ c = 123) → σ15.1 c i = σ18.1 c i := fun c i q1 q2 q3 => by
      rw [k5 c i (by omega) (by omega) (by omega) q3, zI_n (by omega), g4.2 c i (by omega) (by omega) (by omega)]
    have rf15 : σ15.2.2 = σ18.2.2 := by
      have : σ15.2 = σ18.2 := k4.trans g4.1
      rw [this]
    have rr15 : σ15.2.2 0 1 = p ∧ σ15.2.2 0 2 = p' := by
      rw [rf15, h18]
      show σ17.2.2 0 1 = p ∧ σ17.2.2 0 2 = p'
      rw [b3]
      exact ⟨rr1, rr2⟩
    refine ⟨nI (zpn P), σ18, σ15, A, ?_, zRel_p h ?_ ?_ ?_ ?_ ?_ (fun c i hc => ?_), rBank_c (I := σ.1) (fun c k hc => ?_) hb⟩
    · rw [g1]
      unfold D_X11_program_127
      rw [zlet_eq, x30, if_pos (show nI 0 ≤ (0 : Int32) by decide), k1, zb_s, k2.1, f1]
    · refine ⟨0, by omega, ?_, ?_, fun j hj => by omega⟩
      · rw [o15 _ _ (by omega) (by omega) (by omega), h18, zI_n (by omega), b4 _ _ (by omega), h13]
        show (zsI (zsI σ4 0 11 (nI 0)) 1 1 (0 : Int32)).1 1 1 = nI 0
        rw [zI_y]
        rfl
      · rw [k5 _ _ (by omega) (by omega) (by omega) (by omega), zI_y]
        rfl
    · refine ⟨0, by omega, ?_, ?_⟩
      · rw [o15 _ _ (by omega) (by omega) (by omega), h18, zI_n (by omega), b4 _ _ (by omega), h13]
        show (zsI (zsI σ4 0 11 (nI 0)) 1 1 (0 : Int32)).1 0 11 = nI 0
        rw [zI_n (by omega), zI_y]
      · rw [k5 _ _ (by omega) (by omega) (by omega) (by omega)]
        exact x30
    · rcases hp with rfl | rfl
      · left
        exact ⟨rr15.1, by rw [rr15.2]; omega⟩
      · right
        exact ⟨rr15.1, by rw [rr15.2]; omega⟩
    · refine ⟨dFin P cur, dFin_w w h6', ?_, k2⟩
      rw [rr15.1]
      exact cPr_c (I := σ17.1) (fun c i hc => by rw [o15 _ _ (by omega) (by omega) (by omega), h18, zI_n (by omega)]) (dFin_w w h6') b2
    · refine ⟨0, by omega, ?_, k3, fun i hi => by omega⟩
      rw [o15 _ _ (by omega) (by omega) (by omega), h18, zI_y]
      rfl
    · rw [o15 _ _ (by omega) (by omega) (by omega), o18 _ _ (by omega) (by omega) (by omega) (by omega) (by omega)]
    · rw [o15 _ _ (by omega) (by omega) (by omega), o18 _ _ (by omega) (by omega) (by omega) (by omega) (by omega)]
  · -- it has a fault
    obtain ⟨σ4, a1, a2, a4⟩ := C σ ⟨t1, t3⟩
    have fr4 : ∀ c i, ¬ (c = 63 ∧ 2 ≤ i ∧ i ≤ 7) → ¬ (p ≤ c ∧ c < p + 30) → σ4.1 c i = σ.1 c i := fun c i q1 q2 => (a4.2 c i q1 q2).trans rfl
    have rf4 : ∀ c i, ¬ (c = 63 ∧ i = 1) → σ4.2.2 c i = σ.2.2 c i := fun c i q => by
      rw [a4.1]
      exact zR_n q
    obtain ⟨σ6, h6e⟩ : ∃ σ6, σ6 = zsI (zsI σ4 0 11 (nI f)) 1 1 (0 : Int32) := ⟨_, rfl⟩
    have o6 : ∀ c i, ¬ (c = 63 ∧ 2 ≤ i ∧ i ≤ 7) → ¬ (p ≤ c ∧ c < p + 30) → ¬ (c = 0 ∧ i = 11) → ¬ (c = 1 ∧ i = 1) → σ6.1 c i = σ.1 c i := fun c i q1 q2 q3 q4 => by
      rw [h6e, zI_n q4, zI_n q3, fr4 c i q1 q2]
    have A : J_X10_program σ = some (-10 - nI fp, σ6) := by
      have x6 : σ6.1 0 11 = nI f := by rw [h6e, zI_n (by omega), zI_y]
      have x7 : σ6.1 63 7 = nI fp := by rw [h6e, zI_n (by omega), zI_n (by omega)]; exact a2.2
      unfold J_X10_program
      rw [r1, zlet_eq, hz, zg_t, a1, zb_s, a2.1, zlet_eq, zlet_eq, ← h6e, x6, if_neg (nI_ne0 (by omega) (by omega)), x7]
    obtain ⟨σ5, g1, g2, g4⟩ := M σ6 ⟨by rw [o6 _ _ (by omega) (by omega) (by omega) (by omega)]; exact t2, fun j hj => by rw [o6 _ _ (by omega) (by omega) (by omega) (by omega)]; exact t4 j hj⟩
    have x30 : (zsI σ5 105 25 (0 : Int32)).1 105 30 = nI f := by rw [zI_n (by omega)]; exact g2.1
    have x31 : (zsI σ5 105 25 (0 : Int32)).1 105 31 = nI fp := by rw [zI_n (by omega)]; exact g2.2
    have o5 : ∀ c i, ¬ (c = 105 ∧ (i = 25 ∨ i = 11 ∨ i = 15 ∨ i = 19 ∨ i = 23 ∨ (26 ≤ i ∧ i ≤ 31))) → ¬ (113 ≤ c ∧ c ≤ 118) → ¬ c = 120 → (zsI σ5 105 25 (0 : Int32)).1 c i = σ6.1 c i := fun c i q1 q2 q3 => by
      rw [zI_n (by omega), g4.2 c i (by omega) q2 q3]
    have rf : ∀ c i, ¬ (c = 63 ∧ i = 1) → (zsI σ5 105 25 (0 : Int32)).2.2 c i = σ.2.2 c i := fun c i q => by
      show σ5.2.2 c i = _
      rw [g4.1, h6e]
      exact rf4 c i q
    refine ⟨-10 - nI fp, σ6, zsI σ5 105 25 (0 : Int32), A, ?_, zRel_p h ?_ ?_ ?_ ?_ ?_ (fun c i hc => ?_), rBank_c (I := σ.1) (fun c k hc => ?_) hb⟩
    · rw [g1]
      unfold D_X11_program_127
      rw [zlet_eq, x30, if_neg (nI_nle (by omega) (by omega)), x31]
    · refine ⟨0, by omega, ?_, zI_y, fun j hj => by omega⟩
      rw [o5 _ _ (by omega) (by omega) (by omega), h6e]
      exact zI_y
    · refine ⟨f, F2, ?_, x30⟩
      rw [o5 _ _ (by omega) (by omega) (by omega), h6e, zI_n (by omega), zI_y]
    · rcases h3 with ⟨x, y⟩ | ⟨x, y⟩
      · left
        exact ⟨by rw [rf _ _ (by omega)]; exact x, by rw [rf _ _ (by omega)]; exact y⟩
      · right
        exact ⟨by rw [rf _ _ (by omega)]; exact x, by rw [rf _ _ (by omega)]; exact y⟩
    · refine ⟨P0, w0, ?_, mPr_c (I := σ.1) (fun c k hc => by rw [o5 _ _ (by omega) (by omega) (by omega), o6 _ _ (by omega) (by omega) (by omega) (by omega)]) m0⟩
      rw [rf _ _ (by omega), r2]
      exact cPr_c (I := σ.1) (fun c k hc => by rw [o5 _ _ (by omega) (by omega) (by omega), o6 _ _ (by omega) (by omega) (by omega) (by omega)]) w0 c0
    · exact rRuns_c (I := σ.1) (fun c k hc => by rw [o5 _ _ (by omega) (by omega) (by omega), o6 _ _ (by omega) (by omega) (by omega) (by omega)]) h7
    · rw [o5 _ _ (by omega) (by omega) (by omega), o6 _ _ (by omega) (by omega) (by omega) (by omega)]
    · rw [o5 _ _ (by omega) (by omega) (by omega), o6 _ _ (by omega) (by omega) (by omega) (by omega)]
