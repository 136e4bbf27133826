set_option maxRecDepth 8000
theorem zms_full {v : Nat → Nat} {n : Nat} : ∀ m, m ≤ n → zms v (2 ^ n - 1) m = zsm v m := by
  intro m
  induction m with
  | zero => intro _; rfl
  | succ m ih =>
    intro h
    rw [zms_s, zsm_s, ih (by omega), Nat.testBit_two_pow_sub_one, decide_eq_true (by omega)]
    rfl
/-- the answer: so many lines, and the least of such sets -/
theorem hot_ {p : Nat} {P : zM} {σ : zS} {e x : Nat} (hr : σ.2.2 0 1 = p) (hz : zP p = true) (c : cPr σ.1 p P) (m : mPr σ.1 P) (w : wPr P) (he : e < 8) (hx : x ≤ 100) (hx1 : 1 ≤ x) (ha0 : 0 < zto P e) : ∃ B, B < 65536 ∧ J_X10_fewestLines (nI e) (nI ((x * zto P e + 99) / 100)) σ = some (nI (pcn B 16)) ∧ J_X10_leastLines (nI e) (nI ((x * zto P e + 99) / 100)) (nI (pcn B 16)) σ = some (nI B) ∧ ∀ K : Int32 → Option Int32, L_X11_hot_45 (nI e) (nI x) σ (nI (zto P e)) K 4294967296 (-4 : Int32) (1 : Int32) = K (nI B) := by
  have w1 := w.1
  have ha := zto_le w he
  have xa : x * zto P e ≤ 100 * zto P e := Nat.mul_le_mul_right _ hx
  have xb : 1 * zto P e ≤ x * zto P e := Nat.mul_le_mul_right _ hx1
  have p16 : 2 ^ zpn P ≤ 2 ^ 16 := Nat.pow_le_pow_right (by omega) (by omega)
  have p1 : 0 < 2 ^ zpn P := Nat.pow_pos (by omega)
  have n1 : 1 ≤ zpn P := by
    rcases Nat.eq_zero_or_pos (zpn P) with q | q
    · have : zto P e = 0 := by
        show zsm (zf P e) (zpn P) = 0
        rw [q]
        rfl
      omega
    · exact q
  have T1 : 1 ≤ (x * zto P e + 99) / 100 := by omega
  have TA : (x * zto P e + 99) / 100 ≤ zto P e := by omega
  obtain ⟨T, hTe⟩ : ∃ T, T = (x * zto P e + 99) / 100 := ⟨_, rfl⟩
  rw [← hTe] at T1 TA ⊢
  have z0 : ∀ b, zms (zf P e) 0 b = 0 := by
    intro b
    induction b with
    | zero => rfl
    | succ b ih => rw [zms_s, ih, Nat.zero_testBit]; rfl
  have pc0 : ∀ s, pcn s (zpn P) < 1 → ¬ T ≤ zms (zf P e) s (zpn P) := by
    intro s hs
    have : zms (zf P e) s (zpn P) = zms (zf P e) 0 (zpn P) := zms_cg _ fun i hi => by
      rw [Nat.zero_testBit]
      cases hb : s.testBit i
      · rfl
      · have := pcn_1 hi hb
        omega
    rw [this, z0]
    omega
  obtain ⟨r, r1, r2, r3, r4, r5⟩ := fw_ (T := T) hr hz c w he (by omega) (zpn P - 1) 1 4294967296 (by omega) (by omega) (Nat.le_refl _) pc0
  have full : zms (zf P e) (2 ^ zpn P - 1) (zpn P) = zto P e := zms_full _ (Nat.le_refl _)
  have ex : ∃ s, s < 2 ^ zpn P ∧ pcn s (zpn P) ≤ r ∧ T ≤ zms (zf P e) s (zpn P) := by
    rcases r5 with q | q
    · refine ⟨2 ^ zpn P - 1, by omega, ?_, by omega⟩
      rw [q]
      exact pcn_le _ _
    · exact q
  obtain ⟨B, ⟨B1, B2, B3⟩, B4⟩ := pk_least (fun s => s < 2 ^ zpn P ∧ pcn s (zpn P) ≤ r ∧ T ≤ zms (zf P e) s (zpn P)) ex
  have Br : pcn B (zpn P) = r := by
    rcases Nat.lt_or_ge (pcn B (zpn P)) r with q | q
    · exact absurd B3 (r4 B q)
    · omega
  have up : ∀ s, s < 2 ^ zpn P → pcn s 16 = pcn s (zpn P) := fun s hs => zms_up (v := fun _ => 1) hs 16 (by omega)
  have nz : ∀ s, T ≤ zms (zf P e) s (zpn P) → 1 ≤ s := by
    intro s hs
    rcases Nat.eq_zero_or_pos s with q | q
    · rw [q, z0] at hs
      omega
    · exact q
  refine ⟨B, by omega, ?_, ?_, fun K => ?_⟩
  · rw [up B B1, Br]
    exact r1
  · rw [up B B1]
    unfold J_X10_leastLines
    simp only [zlet_eq, hr, hz, zg_t, c.1]
    have big : zpn P < 4294967296 := by omega
    have L := ll_ (B := B) hr hz c w he (show T < 2147483648 by omega) B1 B3 (fun s s1 s2 s3 => by
      rcases Nat.lt_or_ge s B with q | q
      · exact absurd ⟨s1, by omega, s3⟩ (B4 s q)
      · exact q) (zpn P) 4294967296 0 0 (Nat.le_refl _) big (by omega) (fun i => by
      rw [Nat.zero_testBit]
      by_cases hi : zpn P ≤ i
      · rw [Nat.testBit_lt_two_pow (Nat.lt_of_lt_of_le B1 (Nat.pow_le_pow_right (by omega) hi)), Bool.and_false]
      · rw [decide_eq_false hi, Bool.false_and])
    exact L
  · obtain ⟨y', y1, y2⟩ := h45 (K := K) m w he hx ha0 ha (2 ^ zpn P - 1) 1 4294967296 none (by omega) (by omega) (by omega) ⟨fun _ s h1 h2 => by omega, fun b hb => by cases hb⟩
    rw [← hTe] at y2
    have y1' : L_X11_hot_45 (nI e) (nI x) σ (nI (zto P e)) K 4294967296 (-4 : Int32) (1 : Int32) = K (zob y') := y1
    rw [y1']
    cases y' with
    | none => exact absurd B3 (y2.1 rfl B (nz B B3) B1)
    | some b =>
      obtain ⟨b1, b2, b3, b4⟩ := y2.2 b rfl
      have q1 := b4 B (nz B B3) B1 B3
      rw [up b b2, up B B1] at q1
      have q2 : r ≤ pcn b (zpn P) := by
        rcases Nat.lt_or_ge (pcn b (zpn P)) r with q | q
        · exact absurd b3 (r4 b q)
        · exact q
      have q3 : B ≤ b := by
        rcases Nat.lt_or_ge b B with q | q
        · exact absurd ⟨b2, by omega, b3⟩ (B4 b q)
        · exact q
      have : b = B := by omega
      rw [this]
      rfl
theorem pp_hot {σ : zS} (h : zRel σ) (a b d : Int32) : ∃ r, J_X10_hot a b d σ = some r ∧ J_X11_hot a b d σ = some r := by
  obtain ⟨P, p, hp, hr, hz, w, c, m⟩ := zopen h
  unfold J_X10_hot J_X11_hot
  by_cases ha : zL a 8
  · have e1 := isEvent_y (σ := σ) ha
    have e2 := isEventM_y (σ := σ) ha
    obtain ⟨e, he, rfl⟩ := ha
    rw [e1, e2, zb_s, zb_s, if_neg (show ¬ (1 : Int32) = 0 by decide), if_neg (show ¬ (1 : Int32) = 0 by decide)]
    by_cases hb : zR b 1 100
    · have e3 : J_X11_in b.toInt64 1 100 σ = some 1 := zin_y hb rfl rfl (by decide) (by decide)
      obtain ⟨x, x1, x2, rfl⟩ := hb
      rw [e3, zb_s, if_neg (show ¬ (1 : Int32) = 0 by decide), if_neg (show ¬ nI x < (1 : Int32) from nI_nlt (a := x) (b := 1) x1 (by omega)), if_neg (show ¬ (100 : Int32) < nI x from nI_nlt (a := 100) (b := x) x2 (by omega))]
      by_cases hd : zL d 2
      · have e4 := ei_y (σ := σ) hd
        have e5 := in01_y (σ := σ) hd
        have t1 := tot3 (σ := σ) c w he
        have t2 := tot11 (σ := σ) m w he
        have ta := zto_le w he
        rw [e4, e5, zb_s, zb_s, if_neg (show ¬ (1 : Int32) = 0 by decide), if_neg (show ¬ (1 : Int32) = 0 by decide)]
        simp only [zlet_eq, hr, hz, zg_t]
        rw [t1, t2, zb_s, zb_s]
        by_cases h0 : zto P e = 0
        · rw [h0, if_neg (show ¬ (1 : Int32) ≤ nI 0 by decide)]
          refine ⟨-4, rfl, ?_⟩
          rw [L_X11_hot_45, zlet_eq]
          split
          · unfold D_X11_hot_169
            rw [if_pos rfl]
          · rw [if_pos (show nI 0 ≤ 0 by decide)]
            unfold D_X11_hot_169
            rw [if_pos rfl]
        · obtain ⟨B, B1, B2, B3, B4⟩ := hot_ hr hz c m w he x2 x1 (show 0 < zto P e by omega)
          have xa : x * zto P e ≤ 100 * 594000 := Nat.mul_le_mul x2 ta
          have nd : (nI x * nI (zto P e) + 99) / 100 = nI ((x * zto P e + 99) / 100) := by
            have q1 : nI x * nI (zto P e) = nI (x * zto P e) := pk_mul _ _
            have q2 : nI (x * zto P e) + 99 = nI (x * zto P e + 99) := nI_add _ 99
            have q3 : nI (x * zto P e + 99) / 100 = nI ((x * zto P e + 99) / 100) := pk_div (d := 100) (by omega) (by omega) (by omega)
            rw [q1, q2, q3]
          have ne : ¬ nI B = -4 := of_eq_false (z_ng (a := B) (b := 4) (by omega) (by omega) (by omega))
          rw [if_pos (show (1 : Int32) ≤ nI (zto P e) from nI_le (a := 1) (by omega) (by omega)), nd, B2, zb_s, B3, zb_s, B4]
          unfold D_X11_hot_169
          rw [if_neg ne, cof (by omega), zb_s]
          by_cases d0 : d = 0
          · rw [if_pos d0]
            exact ⟨_, rfl, rfl⟩
          · rw [if_neg d0]
            exact ⟨_, rfl, rfl⟩
      · have e4 := ei_n (σ := σ) hd
        have e5 := in01_n (σ := σ) hd
        exact ⟨-1, by rw [e4, zb_s, if_pos rfl], by rw [e5, zb_s, if_pos rfl]⟩
    · have e3 : J_X11_in b.toInt64 1 100 σ = some 0 := zin_n hb rfl rfl (by decide) (by decide)
      refine ⟨-1, ?_, by rw [e3, zb_s, if_pos rfl]⟩
      rcases zlt0 hb (by decide) (by decide) with q | q
      · rw [if_pos (show b < (1 : Int32) from q)]
      · by_cases q2 : b < (1 : Int32)
        · rw [if_pos q2]
        · rw [if_neg q2, if_pos (show (100 : Int32) < b from q)]
  · have e1 := isEvent_n (σ := σ) ha
    have e2 := isEventM_n (σ := σ) ha
    exact ⟨-1, by rw [e1, zb_s, if_pos rfl], by rw [e2, zb_s, if_pos rfl]⟩
