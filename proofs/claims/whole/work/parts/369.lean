set_option maxRecDepth 8000
/-! ===== a line's events ===== -/
theorem evn0 {n k s p' v had : Nat} {b : Nat → Nat} {σ : zS} (B : bT n b) (t : cT σ n b) (c : cB σ k s p' v) (hk : k ≠ 0) (hk3 : k ≤ 3) (hs : s ≤ n) : ∃ x σ', J_X4_eventNamed (nI had) σ = some (x, σ') ∧ cF σ' 2 s ∧ cfr σ σ' := by
  have B1 := B.1
  obtain ⟨σ2, k1, k2, k3⟩ := cfail 2 σ c.2.2.1
  have k1' : J_X4_fail (2 : Int32) σ = some σ2 := k1
  have ne : ¬ nI k = 0 := nI_ne0 (by omega) (by omega)
  have D : ∀ x0, D_X4_eventNamed_34 (nI had) σ x0 = some (x0, σ2) := by
    intro x0
    unfold D_X4_eventNamed_34
    rw [c.2.1, if_neg ne, k1', zb_s]
  unfold J_X4_eventNamed
  rw [zlet_eq, t.1, c.2.2.1, D, D]
  by_cases h : n ≤ s
  · rw [if_pos (nI_le h (by omega))]
    exact ⟨_, σ2, rfl, k2, k3⟩
  · rw [if_neg (nI_ge (by omega) (by omega)), zi_nI (by omega) (by omega), zg_t]
    exact ⟨_, σ2, rfl, k2, k3⟩
theorem evn1 {n s p' v had : Nat} {b : Nat → Nat} {σ : zS} (B : bT n b) (t : cT σ n b) (c : cB σ 0 s p' v) (hs : s < p') (hp : p' ≤ n) (hh : had < 256) : (¬ (p' - s = 1 ∧ 97 ≤ b s ∧ b s ≤ 104) → ∃ x σ', J_X4_eventNamed (nI had) σ = some (x, σ') ∧ cF σ' 3 s ∧ cfr σ σ') ∧ ∀ e, e < 8 → p' - s = 1 → b s = 97 + e → (had.testBit e = true → ∃ x σ', J_X4_eventNamed (nI had) σ = some (x, σ') ∧ cF σ' 4 s ∧ cfr σ σ') ∧ (had.testBit e = false → J_X4_eventNamed (nI had) σ = some (nI e, σ)) := by
  have B1 := B.1
  have sub : nI p' - nI s = nI (p' - s) := pk_sub (by omega)
  have E : J_X4_eventNamed (nI had) σ = D_X4_eventNamed_34 (nI had) σ (zsb (b s) - 97) := by
    unfold J_X4_eventNamed
    rw [zlet_eq, t.1, c.2.2.1, if_neg (nI_ge (by omega) (by omega)), zi_nI (by omega) (by omega), zg_t, zcla (by omega), t.2 s (by omega)]
  rw [E]
  unfold D_X4_eventNamed_34
  rw [c.2.1, if_pos (show nI 0 = 0 from rfl), zlet_eq, c.2.2.2.1, c.2.2.1, sub]
  obtain ⟨σ2, k1, k2, k3⟩ := cfail 3 σ c.2.2.1
  have k1' : J_X4_fail (3 : Int32) σ = some σ2 := k1
  refine ⟨fun h => ⟨zsb (b s) - 97, σ2, ?_, k2, k3⟩, fun e he h1 hb => ?_⟩
  · unfold D_X4_eventNamed_70
    rw [k1', zb_s]
    by_cases h1 : p' - s = 1
    · have nb : ¬ (97 ≤ b s ∧ b s ≤ 104) := fun q => h ⟨h1, q⟩
      have ne := nz8 (sbE ⟨b s, B.2 s (by omega)⟩ nb).1
      rw [h1, if_pos (show nI 1 = 1 from rfl), isEvent_n ne, zb_s, if_pos rfl]
    · rw [if_neg (show ¬ nI (p' - s) = (1 : Int32) from fun q => h1 ((nI_eq (a := p' - s) (b := 1) (by omega) (by omega)).mp q))]
  · have eb : zsb (b s) - 97 = nI e := by
      have : zsb (b s) = nI (b s) := (sbF ⟨b s, B.2 s (by omega)⟩).2.2.2.2 (show b s < 128 by omega)
      rw [this, hb]
      have := pk_sub (a := 97 + e) (b := 97) (by omega)
      rw [Nat.add_sub_cancel_left] at this
      exact this
    rw [h1, if_pos (show nI 1 = 1 from rfl), eb, isEvent_y ⟨e, he, rfl⟩, zb_s, if_neg (show ¬ (1 : Int32) = 0 by decide), ioo he hh, zb_s]
    refine ⟨fun hb2 => ?_, fun hb2 => ?_⟩
    · obtain ⟨σ4, j1, j2, j3⟩ := cfail 4 σ c.2.2.1
      have j1' : J_X4_fail (4 : Int32) σ = some σ4 := j1
      rw [hb2, if_neg (show ¬ nI (if true = true then 1 else 0) = 0 by decide), j1', zb_s]
      exact ⟨_, σ4, rfl, j2, j3⟩
    · rw [hb2, if_pos (show nI (if false = true then 1 else 0) = 0 by decide)]
/-- the reference's look at an event's name -/
theorem mvn {n s p' v had : Nat} {b : Nat → Nat} {σ : zS} {r : Int32 → zS → Option zS} (B : bT n b) (t : mT σ n b) (c : mB σ 0 s p' v) (hs : s < p') (hp : p' ≤ n) (hh : had < 256) : ∀ Y : Option zS, (¬ (p' - s = 1 ∧ 97 ≤ b s ∧ b s ≤ 104) → ∃ σ', mF σ' 3 s ∧ mfr σ σ' ∧ (zb (J_X11_look (σ.1 105 27) σ) fun r3 => zlet (r3 - (97 : Int32)) fun v4 => zlet (D_X11_readEvents_60 r (nI had) σ v4) fun k60 => if ((σ.1 105 26) - (σ.1 105 27)) = (1 : Int32) then (zb (J_X11_in (v4.toInt64) (0 : Int64) (7 : Int64) σ) fun r22 => if r22 = (0 : Int32) then (k60 (0 : Int32)) else (k60 (1 : Int32))) else (k60 (0 : Int32))) = r (nI had) σ') ∧ ∀ e, e < 8 → p' - s = 1 → b s = 97 + e → (had.testBit e = true → ∃ σ', mF σ' 4 s ∧ mfr σ σ' ∧ (zb (J_X11_look (σ.1 105 27) σ) fun r3 => zlet (r3 - (97 : Int32)) fun v4 => zlet (D_X11_readEvents_60 r (nI had) σ v4) fun k60 => if ((σ.1 105 26) - (σ.1 105 27)) = (1 : Int32) then (zb (J_X11_in (v4.toInt64) (0 : Int64) (7 : Int64) σ) fun r22 => if r22 = (0 : Int32) then (k60 (0 : Int32)) else (k60 (1 : Int32))) else (k60 (0 : Int32))) = r (nI had) σ') ∧ (had.testBit e = false → (zb (J_X11_look (σ.1 105 27) σ) fun r3 => zlet (r3 - (97 : Int32)) fun v4 => zlet (D_X11_readEvents_60 r (nI had) σ v4) fun k60 => if ((σ.1 105 26) - (σ.1 105 27)) = (1 : Int32) then (zb (J_X11_in (v4.toInt64) (0 : Int64) (7 : Int64) σ) fun r22 => if r22 = (0 : Int32) then (k60 (0 : Int32)) else (k60 (1 : Int32))) else (k60 (0 : Int32))) = D_X11_readEvents_89 r (nI had) (nI e) σ) := by
  intro Y
  have B1 := B.1
  have sub : nI p' - nI s = nI (p' - s) := pk_sub (by omega)
  have b256 := B.2 s (by omega)
  have lk : ztl n b s = nI (b s) := if_pos (by omega)
  have d89 : ∀ (σ' : zS) (f : Nat) (x : Int32), σ'.1 105 30 = nI f → 1 ≤ f → f ≤ 6 → D_X11_readEvents_89 r (nI had) x σ' = r (nI had) σ' := by
    intro σ' f x hf h1 h6
    unfold D_X11_readEvents_89
    rw [nx_f hf h1 h6, zb_s, rn_f _ _ hf h1 h6, zb2_s, hf, if_neg (nI_ne0 (by omega) (by omega))]
  rw [c.2.2.1, c.2.2.2.1, look_ B t (by omega), zb_s, lk, zlet_eq, zlet_eq, sub]
  obtain ⟨σ2, k1, k2, k3⟩ := mfail 3 σ c.1 c.2.2.1
  have k1' : J_X11_wants (0 : Int32) (3 : Int32) σ = some σ2 := k1
  refine ⟨fun h => ⟨σ2, k2, k3, ?_⟩, fun e he h1 hb => ?_⟩
  · have D : D_X11_readEvents_60 r (nI had) σ (nI (b s) - 97) 0 = r (nI had) σ2 := by
      unfold D_X11_readEvents_60
      rw [k1', zb_s, zlet_eq, k2.1, if_neg (show ¬ nI 3 = 0 by decide)]
      exact d89 σ2 3 _ k2.1 (by omega) (by omega)
    rw [D]
    by_cases h1 : p' - s = 1
    · have nb : ¬ (97 ≤ b s ∧ b s ≤ 104) := fun q => h ⟨h1, q⟩
      have ne := nz8 (sbE ⟨b s, B.2 s (by omega)⟩ nb).2
      have i0 : J_X11_in ((nI (b s) - 97).toInt64) (0 : Int64) (7 : Int64) σ = some 0 := zinm_n (k := 8) ne (by decide)
      rw [h1, if_pos (show nI 1 = 1 from rfl), i0, zb_s, if_pos rfl]
    · rw [if_neg (show ¬ nI (p' - s) = (1 : Int32) from fun q => h1 ((nI_eq (a := p' - s) (b := 1) (by omega) (by omega)).mp q))]
  · have eb : nI (b s) - 97 = nI e := by
      rw [hb]
      have := pk_sub (a := 97 + e) (b := 97) (by omega)
      rw [Nat.add_sub_cancel_left] at this
      exact this
    have i1 : J_X11_in ((nI e).toInt64) (0 : Int64) (7 : Int64) σ = some 1 := zinm_y (k := 8) ⟨e, he, rfl⟩ (by decide)
    rw [h1, if_pos (show nI 1 = 1 from rfl), eb, i1, zb_s, if_neg (show ¬ (1 : Int32) = 0 by decide)]
    unfold D_X11_readEvents_60
    rw [want1, zb_s, zlet_eq, c.1, if_pos (show nI 0 = 0 from rfl), tb_bit hh he]
    refine ⟨fun hb2 => ?_, fun hb2 => ?_⟩
    · obtain ⟨σ4, j1, j2, j3⟩ := mfail 4 σ c.1 c.2.2.1
      have j1' : J_X11_wants (0 : Int32) (4 : Int32) σ = some σ4 := j1
      refine ⟨σ4, j2, j3, ?_⟩
      rw [hb2, if_neg (show ¬ nI (if true = true then 1 else 0) = 0 by decide), zlet_eq, j1', zb_s]
      exact d89 σ4 4 _ j2.1 (by omega) (by omega)
    · rw [hb2, if_pos (show nI (if false = true then 1 else 0) = 0 by decide), zlet_eq, want1, zb_s]
def zEv (n : Nat) (b : Nat → Nat) (p : Nat) (P : zM) (st : zST) (cur : List Nat) (t i had : Nat) (ev : Nat → Nat) (k s p' v N M : Nat) : Prop :=
  (∃ (s2 p2 : Nat) (ev' : Nat → Nat), s ≤ s2 ∧ tB n 2 s2 p2 0 ∧ (∀ e, e < 8 → ev' e ≤ 99) ∧ (∀ σ, cT σ n b → σ.2.2 63 1 = p → cB σ k s p' v → cD σ.1 p (dLn P st t ev) st cur → ∃ σ', L_X4_readLine_52 N (nI had) (nI i) σ = some σ' ∧ cB σ' 2 s2 p2 0 ∧ cD σ'.1 p (dLn P st t ev') st cur ∧ cf2 p σ σ') ∧ ∀ σ, mT σ n b → mB σ k s p' v → mD σ.1 P st → (∀ e, e < 8 → σ.1 114 (8 * zpn P + e) = nI (ev e)) → ∃ σ', L_X11_readEvents_2 M (nI had) σ = some σ' ∧ mB σ' 2 s2 p2 0 ∧ mD σ'.1 P st ∧ (∀ e, e < 8 → σ'.1 114 (8 * zpn P + e) = nI (ev' e)) ∧ mf2 σ σ') ∨
  (∃ f fp, 1 ≤ f ∧ f ≤ 6 ∧ fp ≤ n ∧ (∀ σ, cT σ n b → σ.2.2 63 1 = p → cB σ k s p' v → cD σ.1 p (dLn P st t ev) st cur → ∃ σ', L_X4_readLine_52 N (nI had) (nI i) σ = some σ' ∧ cF σ' f fp ∧ cf2 p σ σ') ∧ ∀ σ, mT σ n b → mB σ k s p' v → mD σ.1 P st → (∀ e, e < 8 → σ.1 114 (8 * zpn P + e) = nI (ev e)) → ∃ σ', L_X11_readEvents_2 M (nI had) σ = some σ' ∧ mF σ' f fp ∧ mD σ'.1 P st ∧ mf2 σ σ') ∨
  ∃ (k2 s2 p2 v2 : Nat) (ev' : Nat → Nat), (k2 = 1 ∨ k2 = 3) ∧ tB n k2 s2 p2 v2 ∧ (∀ e, e < 8 → ev' e ≤ 99) ∧ (∀ σ, cT σ n b → σ.2.2 63 1 = p → cB σ k s p' v → cD σ.1 p (dLn P st t ev) st cur → ∃ σ', L_X4_readLine_52 N (nI had) (nI i) σ = some σ' ∧ cF σ' 2 s2 ∧ cf2 p σ σ') ∧ ∀ σ, mT σ n b → mB σ k s p' v → mD σ.1 P st → (∀ e, e < 8 → σ.1 114 (8 * zpn P + e) = nI (ev e)) → ∃ σ', L_X11_readEvents_2 M (nI had) σ = some σ' ∧ mB σ' k2 s2 p2 v2 ∧ mD σ'.1 P st ∧ (∀ e, e < 8 → σ'.1 114 (8 * zpn P + e) = nI (ev' e)) ∧ mf2 σ σ'
theorem ev_step {n : Nat} {b : Nat → Nat} (B : bT n b) {p : Nat} {P : zM} {st : zST} {cur : List Nat} {t : Nat} (hp : p = 3 ∨ p = 33) (hz : zP p = true) (w7 : dSk P st) (hm : zpn P < 16) {i had : Nat} {ev : Nat → Nat} {k s p' v N M : Nat} (hi : i ≤ 8) (hh : had < 256) (hpc : pcn had 8 = i) (tb : tB n k s p' v) (hev : ∀ e, e < 8 → ev e ≤ 99) (hN : 1 ≤ N) (hM : 1 ≤ M) (IH : i < 8 → ∀ had' ev' k2 s2 p2 v2, had' < 256 → pcn had' 8 = i + 1 → tB n k2 s2 p2 v2 → s ≤ s2 → (∀ e, e < 8 → ev' e ≤ 99) → zEv n b p P st cur t (i + 1) had' ev' k2 s2 p2 v2 N M) : zEv n b p P st cur t i had ev k s p' v (N + 1) (M + 1) := by
  have B1 := B.1
  obtain ⟨tb1, tb2, tb3, tb4, tb5, tb6⟩ := tb
  have pn : zpn (dLn P st t ev) = zpn P + 1 := (Ln_f (by omega)).1
  -- behind a fault nothing more is done
  have cstop : ∀ (x y : Int32) σ f fp, cF σ f fp → 1 ≤ f → f ≤ 6 → L_X4_readLine_52 N x y σ = some σ := by
    intro x y σ f fp hc h1 h6
    cases N with
    | zero => omega
    | succ N =>
      rw [L_X4_readLine_52, zlet_eq, hc.1, if_neg (show ¬ nI f = 0 from nI_ne0 (by omega) (by omega))]
      split <;> rfl
  have mstop : ∀ (x : Int32) σ f fp, mF σ f fp → 1 ≤ f → f ≤ 6 → L_X11_readEvents_2 M x σ = some σ := by
    intro x σ f fp hc h1 h6
    cases M with
    | zero => omega
    | succ M =>
      rw [L_X11_readEvents_2, zlet_eq, hc.1, if_neg (show ¬ nI f = 0 from nI_ne0 (by omega) (by omega))]
  have k111f : ∀ (w : Int32) σ f fp, cF σ f fp → 1 ≤ f → f ≤ 6 → D_X4_readLine_111 (L_X4_readLine_52 N) (nI i) w σ = some σ := by
    intro w σ f fp hc h1 h6
    unfold D_X4_readLine_111
    rw [hc.1, if_neg (show ¬ nI f = 0 from nI_ne0 (by omega) (by omega)), zlet_eq]
    exact cstop _ _ σ f fp hc h1 h6
  have i8 : ¬ (8 : Int32) < nI i := nI_nlt (a := 8) (b := i) hi (by omega)
  have head : ∀ σ, cB σ k s p' v → k ≠ 2 → L_X4_readLine_52 (N + 1) (nI had) (nI i) σ = zb2 (J_X4_eventNamed (nI had) σ) fun r16 σ17 => zlet (D_X4_readLine_111 (L_X4_readLine_52 N) (nI i)) fun k111 => if (σ17.1 63 6) = (0 : Int32) then (zlet (nI had ||| ((1 : Int32) <<< (r16 &&& 31))) fun v24 => zb (J_X4_takeNumber (0 : Int32) (99 : Int32) σ17) fun σ26 => zlet (σ26.2.2 63 1) fun p27 => zg (zP p27) (zb (J_X3_setEvent p27 r16 (σ26.1 63 5) σ26) fun σ30 => k111 v24 σ30)) else (k111 (nI had) σ17) := by
    intro σ c hk
    have ne : ¬ nI k = (2 : Int32) := fun q => hk ((nI_eq (a := k) (b := 2) (by omega) (by omega)).mp q)
    rw [L_X4_readLine_52, zlet_eq, if_neg i8, c.1, if_pos (show nI 0 = 0 from rfl), c.2.1, if_neg ne]
  unfold zEv
  by_cases hk2 : k = 2
  · -- the sign: all is taken
    subst hk2
    left
    refine ⟨s, p', ev, Nat.le_refl _, ⟨tb1, tb2, tb3, fun q => by omega, tb5, fun q => by omega⟩, hev, fun σ t' hr c d => ⟨σ, ?_, ⟨c.1, c.2.1, c.2.2.1, c.2.2.2.1, fun q => by omega⟩, d, cf2_r p σ⟩, fun σ t' c d he => ⟨σ, ?_, ⟨c.1, c.2.1, c.2.2.1, c.2.2.2.1, fun q => by omega⟩, d, he, mf2_r σ⟩⟩
    · rw [L_X4_readLine_52, zlet_eq, if_neg i8, c.1, if_pos (show nI 0 = 0 from rfl), c.2.1, if_pos (show nI 2 = 2 from rfl)]
    · rw [L_X11_readEvents_2, zlet_eq, c.1, if_pos (show nI 0 = 0 from rfl), c.2.1, if_neg (show ¬ nI ((2 + 1) % 4) = 1 by decide)]
  · by_cases hk0 : k = 0
    · subst hk0
      have slt := tb5 (by omega)
      have mhead : ∀ σ, mB σ 0 s p' v → L_X11_readEvents_2 (M + 1) (nI had) σ = zb (J_X11_look (σ.1 105 27) σ) fun r3 => zlet (r3 - (97 : Int32)) fun v4 => zlet (D_X11_readEvents_60 (L_X11_readEvents_2 M) (nI had) σ v4) fun k60 => if ((σ.1 105 26) - (σ.1 105 27)) = (1 : Int32) then (zb (J_X11_in (v4.toInt64) (0 : Int64) (7 : Int64) σ) fun r22 => if r22 = (0 : Int32) then (k60 (0 : Int32)) else (k60 (1 : Int32))) else (k60 (0 : Int32)) := by
        intro σ c
        rw [L_X11_readEvents_2, zlet_eq, c.1, if_pos (show nI 0 = 0 from rfl), c.2.1, if_pos (show nI ((0 + 1) % 4) = 1 from rfl)]
      by_cases hev3 : p' - s = 1 ∧ 97 ≤ b s ∧ b s ≤ 104
      · obtain ⟨e, he, hbe⟩ : ∃ e, e < 8 ∧ b s = 97 + e := ⟨b s - 97, by omega, by omega⟩
        cases hbit : had.testBit e
        · -- a new event
          have hi8 : i < 8 := by
            rcases Nat.lt_or_ge i 8 with q | q
            · exact q
            · exfalso
              have o := zms_or (v := fun _ => 1) hbit 8
              rw [if_pos he] at o
              have o' : pcn (had ||| 2 ^ e) 8 = pcn had 8 + 1 := o
              have := pcn_le (had ||| 2 ^ e) 8
              omega
          have o := zms_or (v := fun _ => 1) hbit 8
          rw [if_pos he] at o
          have o' : pcn (had ||| 2 ^ e) 8 = pcn had 8 + 1 := o
          have hh' : had ||| 2 ^ e < 256 := Nat.or_lt_two_pow (n := 8) hh (Nat.pow_lt_pow_right (by omega) he)
          have sh : nI had ||| ((1 : Int32) <<< (nI e &&& 31)) = nI (had ||| 2 ^ e) := by
            have := one_shl ⟨e, he⟩
            rw [show ((1 : Int32) <<< (nI e &&& 31)) = nI (2 ^ e) from this, nI_or]
          have E1 : ∀ σ, cT σ n b → cB σ 0 s p' v → J_X4_eventNamed (nI had) σ = some (nI e, σ) := fun σ t' c => ((evn1 (had := had) B t' c slt tb2 hh).2 e he hev3.1 hbe).2 hbit
          have E2 : ∀ σ, mT σ n b → mB σ 0 s p' v → L_X11_readEvents_2 (M + 1) (nI had) σ = D_X11_readEvents_89 (L_X11_readEvents_2 M) (nI had) (nI e) σ := fun σ t' c => by
            rw [mhead σ c]
            exact ((mvn (r := L_X11_readEvents_2 M) B t' c slt tb2 hh none).2 e he hev3.1 hbe).2 hbit
          rcases num_ (lo := 0) (hi := 99) B tb2 (by omega) (by omega) with ⟨s1, p1, v1, T1, S1, V1, V2, C, Mm⟩ | ⟨f, fp, F1, F2, F3, C, Mm⟩
          · -- its number
            have set1 : ∀ σ1 : zS, cT σ1 n b → cB σ1 1 s1 p1 v1 → cD σ1.1 p (dLn P st t ev) st cur → ∃ σ2, J_X3_setEvent p (nI e) (σ1.1 63 5) σ1 = some σ2 ∧ cT σ2 n b ∧ cB σ2 1 s1 p1 v1 ∧ cD σ2.1 p (dLn P st t fun x => if x = e then v1 else ev x) st cur ∧ cf2 p σ1 σ2 := by
              intro σ1 t1 c d
              have d0 := d.1
              rw [pn] at d0
              obtain ⟨σ2, x1, x2, x3, x4⟩ := caE (e := e) (σ1.1 63 5) d0 hm he
              refine ⟨σ2, x1, ⟨by rw [x3 _ _ (by omega)]; exact t1.1, fun j hj => by rw [x3 _ _ (by omega)]; exact t1.2 j hj⟩, ⟨by rw [x3 _ _ (by omega)]; exact c.1, by rw [x3 _ _ (by omega)]; exact c.2.1, by rw [x3 _ _ (by omega)]; exact c.2.2.1, by rw [x3 _ _ (by omega)]; exact c.2.2.2.1, fun q => by rw [x3 _ _ (by omega)]; exact c.2.2.2.2 q⟩, ?_, x2, fun c' i' h1 h2 => x3 c' i' (by omega)⟩
              refine cD_ev hm w7 d (fun c' i' hc => x3 c' i' (by omega)) (fun e' he' => ?_)
              by_cases ee : e' = e
              · rw [ee, x4, c.2.2.2.2 rfl, if_pos rfl]
              · rw [x3 _ _ (by omega), if_neg ee]
                have dd := (d.2.2.2.2.1 (zpn P) (by rw [pn]; omega)).2.2.2 e' he'
                have q9 : zpev (dLn P st t ev) (zpn P) e' = ev e' := (Ln_f (P := P) (st := st) (t := t) (ev := ev) (by omega)).2.2.2.1.2.2.2.2.2 e'
                rw [q9] at dd
                exact dd
            rcases tok_ B T1.2.1 with ⟨k2, s2, p2, v2, T2, S2, C2, M2⟩ | ⟨s2, S2, C2, M2⟩
            · -- and on it goes
              have I := IH hi8 (had ||| 2 ^ e) (fun x => if x = e then v1 else ev x) k2 s2 p2 v2 hh' (by omega) T2 (by have := T1.1; omega) (fun x hx => by
                show (if x = e then v1 else ev x) ≤ 99
                split
                · exact V2
                · exact hev x hx)
              have CC : ∀ σ, cT σ n b → σ.2.2 63 1 = p → cB σ 0 s p' v → cD σ.1 p (dLn P st t ev) st cur → ∃ σ3, L_X4_readLine_52 (N + 1) (nI had) (nI i) σ = L_X4_readLine_52 N (nI (had ||| 2 ^ e)) (nI (i + 1)) σ3 ∧ cT σ3 n b ∧ σ3.2.2 63 1 = p ∧ cB σ3 k2 s2 p2 v2 ∧ cD σ3.1 p (dLn P st t fun x => if x = e then v1 else ev x) st cur ∧ cf2 p σ σ3 := by
                intro σ t' hr c d
                obtain ⟨σ1, a1, a2, a3⟩ := C σ t' c.1 c.2.2.2.1
                have a1' : J_X4_takeNumber (0 : Int32) (99 : Int32) σ = some σ1 := a1
                have hr1 : σ1.2.2 63 1 = p := by rw [a3.1]; exact hr
                obtain ⟨σ2, g1, g2, g3, g4, g5⟩ := set1 σ1 (cT_f a3 t') a2 (cD_f hp (by rw [pn]; omega) a3 d)
                obtain ⟨σ3, h1, h2, h3⟩ := C2 σ2 g2 g3.1 g3.2.2.2.1
                have t4 : nI i + 1 = nI (i + 1) := nI_add i 1
                refine ⟨σ3, ?_, cT_f h3 g2, by rw [h3.1, g5.1]; exact hr1, h2, cD_f hp (by rw [(Ln_f (P := P) (st := st) (t := t) (ev := fun x => if x = e then v1 else ev x) (by omega)).1]; omega) h3 g4, cf2_t (cf2_c a3) (cf2_t g5 (cf2_c h3))⟩
                rw [head σ c (by omega), E1 σ t' c, zb2_s, zlet_eq, c.1, if_pos (show nI 0 = 0 from rfl), sh, zlet_eq, a1', zb_s, zlet_eq, hr1, hz, zg_t, g1, zb_s]
                unfold D_X4_readLine_111
                rw [g3.1, if_pos (show nI 0 = 0 from rfl), h1, zb_s, t4, zlet_eq]
              have MM : ∀ σ, mT σ n b → mB σ 0 s p' v → mD σ.1 P st → (∀ e, e < 8 → σ.1 114 (8 * zpn P + e) = nI (ev e)) → ∃ σ3, L_X11_readEvents_2 (M + 1) (nI had) σ = L_X11_readEvents_2 M (nI (had ||| 2 ^ e)) σ3 ∧ mT σ3 n b ∧ mB σ3 k2 s2 p2 v2 ∧ mD σ3.1 P st ∧ (∀ x, x < 8 → σ3.1 114 (8 * zpn P + x) = nI (if x = e then v1 else ev x)) ∧ mf2 σ σ3 := by
                intro σ t' c d hv
                obtain ⟨σ1, a2, a3, a1⟩ := Mm σ t' c.1 c.2.2.2.1
                obtain ⟨σ2, h1, h2, h3⟩ := M2 σ1 (mT_f a3 t') a2.1 a2.2.2.2.1
                have f2 := mfr_t a3 h3
                have d2 := mD_f f2 d
                have m8 : 8 * nI (zpn P) = nI (8 * zpn P) := pk_mul 8 _
                have a8 : nI (8 * zpn P) + nI e = nI (8 * zpn P + e) := nI_add _ _
                refine ⟨zsI σ2 114 (8 * zpn P + e) (nI v1), ?_, ⟨by rw [zI_n (by omega)]; exact (mT_f f2 t').1, fun j hj => by rw [zI_n (by omega)]; exact (mT_f f2 t').2 j hj⟩, ⟨by rw [zI_n (by omega)]; exact h2.1, by rw [zI_n (by omega)]; exact h2.2.1, by rw [zI_n (by omega)]; exact h2.2.2.1, by rw [zI_n (by omega)]; exact h2.2.2.2.1, fun q => by rw [zI_n (by omega)]; exact h2.2.2.2.2 q⟩, mD_cg (I := σ2.1) (fun c' i' hc => zI_n (by omega)) d2, fun x hx => ?_, ⟨f2.1, fun c' i' q1 q2 q3 => by rw [zI_n (by omega)]; exact f2.2 c' i' (by omega)⟩⟩
                · rw [E2 σ t' c]
                  unfold D_X11_readEvents_89
                  have a1' := a1 (fun r9 σ10 => if (σ10.1 105 30) = (0 : Int32) then (zlet (nI had ||| ((1 : Int32) <<< (nI e &&& 31))) fun v12 => zg (zi (((8 : Int32) * (σ10.1 105 11)) + nI e) 128) (zlet (zsI σ10 114 (((8 : Int32) * (σ10.1 105 11)) + nI e).toNatClampNeg r9) fun σ14 => L_X11_readEvents_2 M v12 σ14)) else (L_X11_readEvents_2 M (nI had) σ10))
                  have a1'' : (zb (J_X11_next σ) fun σ8 => zb2 (J_X11_readNumber (0 : Int32) (99 : Int32) σ8) fun r9 σ10 => if (σ10.1 105 30) = (0 : Int32) then (zlet (nI had ||| ((1 : Int32) <<< (nI e &&& 31))) fun v12 => zg (zi (((8 : Int32) * (σ10.1 105 11)) + nI e) 128) (zlet (zsI σ10 114 (((8 : Int32) * (σ10.1 105 11)) + nI e).toNatClampNeg r9) fun σ14 => L_X11_readEvents_2 M v12 σ14)) else (L_X11_readEvents_2 M (nI had) σ10)) = _ := a1'
                  rw [a1'', h1, zb_s, h2.1, if_pos (show nI 0 = 0 from rfl), sh, zlet_eq, d2.1, m8, a8, zi_nI (by omega) (by omega), zg_t, zcla (by omega), zlet_eq]
                · by_cases ee : x = e
                  · rw [ee, zI_y, if_pos rfl]
                  · rw [zI_n (by omega), if_neg ee, f2.2 _ _ (by omega)]
                    exact hv x hx
              rcases I with ⟨s3, p3, ev3, J1, J2, J3, J4, J5⟩ | ⟨f, fp, J1, J2, J3, J4, J5⟩ | ⟨k3, s3, p3, v3, ev3, J1, J2, J3, J4, J5⟩
              · left
                refine ⟨s3, p3, ev3, by have := T1.1; omega, J2, J3, fun σ t' hr c d => ?_, fun σ t' c d hv => ?_⟩
                · obtain ⟨σ3, x1, x2, x3, x4, x5, x6⟩ := CC σ t' hr c d
                  obtain ⟨σ', y1, y2, y3, y4⟩ := J4 σ3 x2 x3 x4 x5
                  exact ⟨σ', x1.trans y1, y2, y3, cf2_t x6 y4⟩
                · obtain ⟨σ3, x1, x2, x3, x4, x5, x6⟩ := MM σ t' c d hv
                  obtain ⟨σ', y1, y2, y3, y4, y5⟩ := J5 σ3 x2 x3 x4 x5
                  exact ⟨σ', x1.trans y1, y2, y3, y4, mf2_t x6 y5⟩
              · right; left
                refine ⟨f, fp, J1, J2, J3, fun σ t' hr c d => ?_, fun σ t' c d hv => ?_⟩
                · obtain ⟨σ3, x1, x2, x3, x4, x5, x6⟩ := CC σ t' hr c d
                  obtain ⟨σ', y1, y2, y3⟩ := J4 σ3 x2 x3 x4 x5
                  exact ⟨σ', x1.trans y1, y2, cf2_t x6 y3⟩
                · obtain ⟨σ3, x1, x2, x3, x4, x5, x6⟩ := MM σ t' c d hv
                  obtain ⟨σ', y1, y2, y3, y4⟩ := J5 σ3 x2 x3 x4 x5
                  exact ⟨σ', x1.trans y1, y2, y3, mf2_t x6 y4⟩
              · right; right
                refine ⟨k3, s3, p3, v3, ev3, J1, J2, J3, fun σ t' hr c d => ?_, fun σ t' c d hv => ?_⟩
                · obtain ⟨σ3, x1, x2, x3, x4, x5, x6⟩ := CC σ t' hr c d
                  obtain ⟨σ', y1, y2, y3⟩ := J4 σ3 x2 x3 x4 x5
                  exact ⟨σ', x1.trans y1, y2, cf2_t x6 y3⟩
                · obtain ⟨σ3, x1, x2, x3, x4, x5, x6⟩ := MM σ t' c d hv
                  obtain ⟨σ', y1, y2, y3, y4, y5⟩ := J5 σ3 x2 x3 x4 x5
                  exact ⟨σ', x1.trans y1, y2, y3, y4, mf2_t x6 y5⟩
            · -- the token behind it is none
              right; left
              refine ⟨1, s2, by omega, by omega, S2, fun σ t' hr c d => ?_, fun σ t' c d hv => ?_⟩
              · obtain ⟨σ1, a1, a2, a3⟩ := C σ t' c.1 c.2.2.2.1
                have a1' : J_X4_takeNumber (0 : Int32) (99 : Int32) σ = some σ1 := a1
                have hr1 : σ1.2.2 63 1 = p := by rw [a3.1]; exact hr
                obtain ⟨σ2, g1, g2, g3, g4, g5⟩ := set1 σ1 (cT_f a3 t') a2 (cD_f hp (by rw [pn]; omega) a3 d)
                obtain ⟨σ3, h1, h2, h3⟩ := C2 σ2 g2 g3.1 g3.2.2.2.1
                refine ⟨σ3, ?_, h2, cf2_t (cf2_c a3) (cf2_t g5 (cf2_c h3))⟩
                rw [head σ c (by omega), E1 σ t' c, zb2_s, zlet_eq, c.1, if_pos (show nI 0 = 0 from rfl), sh, zlet_eq, a1', zb_s, zlet_eq, hr1, hz, zg_t, g1, zb_s]
                unfold D_X4_readLine_111
                rw [g3.1, if_pos (show nI 0 = 0 from rfl), h1, zb_s, zlet_eq]
                exact cstop _ _ σ3 1 s2 h2 (by omega) (by omega)
              · obtain ⟨σ1, a2, a3, a1⟩ := Mm σ t' c.1 c.2.2.2.1
                obtain ⟨σ2, h1, h2, h3⟩ := M2 σ1 (mT_f a3 t') a2.1 a2.2.2.2.1
                refine ⟨σ2, ?_, h2, mD_f (mfr_t a3 h3) d, mf2_m (mfr_t a3 h3)⟩
                rw [E2 σ t' c]
                unfold D_X11_readEvents_89
                have a1' := a1 (fun r9 σ10 => if (σ10.1 105 30) = (0 : Int32) then (zlet (nI had ||| ((1 : Int32) <<< (nI e &&& 31))) fun v12 => zg (zi (((8 : Int32) * (σ10.1 105 11)) + nI e) 128) (zlet (zsI σ10 114 (((8 : Int32) * (σ10.1 105 11)) + nI e).toNatClampNeg r9) fun σ14 => L_X11_readEvents_2 M v12 σ14)) else (L_X11_readEvents_2 M (nI had) σ10))
                have a1'' : (zb (J_X11_next σ) fun σ8 => zb2 (J_X11_readNumber (0 : Int32) (99 : Int32) σ8) fun r9 σ10 => if (σ10.1 105 30) = (0 : Int32) then (zlet (nI had ||| ((1 : Int32) <<< (nI e &&& 31))) fun v12 => zg (zi (((8 : Int32) * (σ10.1 105 11)) + nI e) 128) (zlet (zsI σ10 114 (((8 : Int32) * (σ10.1 105 11)) + nI e).toNatClampNeg r9) fun σ14 => L_X11_readEvents_2 M v12 σ14)) else (L_X11_readEvents_2 M (nI had) σ10)) = _ := a1'
                rw [a1'', h1, zb_s, h2.1, if_neg (show ¬ nI 1 = 0 by decide)]
                exact mstop _ σ2 1 s2 h2 (by omega) (by omega)
          · -- no number
            right; left
            refine ⟨f, fp, F1, F2, F3, fun σ t' hr c d => ?_, fun σ t' c d hv => ?_⟩
            · obtain ⟨σ1, a1, a2, a3⟩ := C σ t' c.1 c.2.2.2.1
              have a1' : J_X4_takeNumber (0 : Int32) (99 : Int32) σ = some σ1 := a1
              have hr1 : σ1.2.2 63 1 = p := by rw [a3.1]; exact hr
              have d0 := (cD_f hp (by rw [pn]; omega) a3 d).1
              rw [pn] at d0
              obtain ⟨σ2, x1, x2, x3, x4⟩ := caE (e := e) (σ1.1 63 5) d0 hm he
              have f2 : cF σ2 f fp := ⟨by rw [x3 _ _ (by omega)]; exact a2.1, by rw [x3 _ _ (by omega)]; exact a2.2⟩
              refine ⟨σ2, ?_, f2, cf2_t (cf2_c a3) ⟨x2, fun c' i' h1 h2 => x3 c' i' (by omega)⟩⟩
              rw [head σ c (by omega), E1 σ t' c, zb2_s, zlet_eq, c.1, if_pos (show nI 0 = 0 from rfl), sh, zlet_eq, a1', zb_s, zlet_eq, hr1, hz, zg_t, x1, zb_s]
              exact k111f _ σ2 f fp f2 F1 F2
            · obtain ⟨σ1, r, a2, a3, a1⟩ := Mm σ t' c.1 c.2.2.2.1
              refine ⟨σ1, ?_, a2, mD_f a3 d, mf2_m a3⟩
              rw [E2 σ t' c]
              unfold D_X11_readEvents_89
              have a1' := a1 (fun r9 σ10 => if (σ10.1 105 30) = (0 : Int32) then (zlet (nI had ||| ((1 : Int32) <<< (nI e &&& 31))) fun v12 => zg (zi (((8 : Int32) * (σ10.1 105 11)) + nI e) 128) (zlet (zsI σ10 114 (((8 : Int32) * (σ10.1 105 11)) + nI e).toNatClampNeg r9) fun σ14 => L_X11_readEvents_2 M v12 σ14)) else (L_X11_readEvents_2 M (nI had) σ10))
              have a1'' : (zb (J_X11_next σ) fun σ8 => zb2 (J_X11_readNumber (0 : Int32) (99 : Int32) σ8) fun r9 σ10 => if (σ10.1 105 30) = (0 : Int32) then (zlet (nI had ||| ((1 : Int32) <<< (nI e &&& 31))) fun v12 => zg (zi (((8 : Int32) * (σ10.1 105 11)) + nI e) 128) (zlet (zsI σ10 114 (((8 : Int32) * (σ10.1 105 11)) + nI e).toNatClampNeg r9) fun σ14 => L_X11_readEvents_2 M v12 σ14)) else (L_X11_readEvents_2 M (nI had) σ10)) = _ := a1'
              rw [a1'', a2.1, if_neg (nI_ne0 (by omega) (by omega))]
              exact mstop _ σ1 f fp a2 F1 F2
        · -- an event that it has already
          right; left
          refine ⟨4, s, by omega, by omega, by omega, fun σ t' hr c d => ?_, fun σ t' c d hv => ?_⟩
          · obtain ⟨x, σ', a1, a2, a3⟩ := ((evn1 (had := had) B t' c slt tb2 hh).2 e he hev3.1 hbe).1 hbit
            refine ⟨σ', ?_, a2, cf2_c a3⟩
            rw [head σ c (by omega), a1, zb2_s, zlet_eq, a2.1, if_neg (show ¬ nI 4 = 0 by decide)]
            exact k111f _ σ' 4 s a2 (by omega) (by omega)
          · obtain ⟨σ', a2, a3, a1⟩ := ((mvn (r := L_X11_readEvents_2 M) B t' c slt tb2 hh none).2 e he hev3.1 hbe).1 hbit
            refine ⟨σ', ?_, a2, mD_f a3 d, mf2_m a3⟩
            rw [mhead σ c, a1]
            exact mstop _ σ' 4 s a2 (by omega) (by omega)
      · -- no event
        right; left
        refine ⟨3, s, by omega, by omega, by omega, fun σ t' hr c d => ?_, fun σ t' c d hv => ?_⟩
        · obtain ⟨x, σ', a1, a2, a3⟩ := (evn1 (had := had) B t' c slt tb2 hh).1 hev3
          refine ⟨σ', ?_, a2, cf2_c a3⟩
          rw [head σ c (by omega), a1, zb2_s, zlet_eq, a2.1, if_neg (show ¬ nI 3 = 0 by decide)]
          exact k111f _ σ' 3 s a2 (by omega) (by omega)
        · obtain ⟨σ', a2, a3, a1⟩ := (mvn (r := L_X11_readEvents_2 M) B t' c slt tb2 hh none).1 hev3
          refine ⟨σ', ?_, a2, mD_f a3 d, mf2_m a3⟩
          rw [mhead σ c, a1]
          exact mstop _ σ' 3 s a2 (by omega) (by omega)
    · -- neither a name nor the sign
      right; right
      refine ⟨k, s, p', v, ev, by omega, ⟨tb1, tb2, tb3, tb4, tb5, tb6⟩, hev, fun σ t' hr c d => ?_, fun σ t' c d hv => ⟨σ, ?_, c, d, hv, mf2_r σ⟩⟩
      · obtain ⟨x, σ', a1, a2, a3⟩ := evn0 (had := had) B t' c hk0 tb3 (by omega)
        refine ⟨σ', ?_, a2, cf2_c a3⟩
        rw [head σ c hk2, a1, zb2_s, zlet_eq, a2.1, if_neg (show ¬ nI 2 = 0 by decide)]
        exact k111f _ σ' 2 s a2 (by omega) (by omega)
      · have ne : ¬ nI ((k + 1) % 4) = (1 : Int32) := fun q => by
          have := (nI_eq (a := (k + 1) % 4) (b := 1) (by omega) (by omega)).mp q
          omega
        rw [L_X11_readEvents_2, zlet_eq, c.1, if_pos (show nI 0 = 0 from rfl), c.2.1, if_neg ne]
theorem ev_ {n : Nat} {b : Nat → Nat} (B : bT n b) {p : Nat} {P : zM} {st : zST} {cur : List Nat} {t : Nat} (hp : p = 3 ∨ p = 33) (hz : zP p = true) (w7 : dSk P st) (hm : zpn P < 16) : ∀ q i had ev k s p' v N M, i + q = 8 → q + 2 ≤ N → q + 2 ≤ M → had < 256 → pcn had 8 = i → tB n k s p' v → (∀ e, e < 8 → ev e ≤ 99) → zEv n b p P st cur t i had ev k s p' v N M := by
  intro q
  induction q with
  | zero =>
    intro i had ev k s p' v N M h hN hM hh hpc tb hev
    obtain ⟨N, rfl⟩ : ∃ x, N = x + 1 := ⟨N - 1, by omega⟩
    obtain ⟨M, rfl⟩ : ∃ x, M = x + 1 := ⟨M - 1, by omega⟩
    exact ev_step B hp hz w7 hm (by omega) hh hpc tb hev (by omega) (by omega) (fun h8 => by omega)
  | succ q ih =>
    intro i had ev k s p' v N M h hN hM hh hpc tb hev
    obtain ⟨N, rfl⟩ : ∃ x, N = x + 1 := ⟨N - 1, by omega⟩
    obtain ⟨M, rfl⟩ : ∃ x, M = x + 1 := ⟨M - 1, by omega⟩
    exact ev_step B hp hz w7 hm (by omega) hh hpc tb hev (by omega) (by omega) (fun h8 had' ev' k2 s2 p2 v2 h1 h2 h3 _ h4 => ih (i + 1) had' ev' k2 s2 p2 v2 N M (by omega) (by omega) (by omega) h1 h2 h3 h4)
