set_option maxRecDepth 8000
/-! ===== slices, by turns ===== -/
def zct (P : zM) (e t N R : Nat) : Nat → Nat := zsm fun i => if zptt P i / t % N = R then zge P e i else 0
def zck (P : zM) (t N R : Nat) : Nat → Nat := zsm fun i => if zptt P i / t % N = R then zptk P (zplo P i) else 0
theorem zct_b {P : zM} (w : wPr P) {e t N R : Nat} (he : e < 8) : ∀ i, i ≤ zps P → zct P e t N R i ≤ 99 * i := by
  intro i
  induction i with
  | zero => intro _; exact Nat.zero_le _
  | succ i ih =>
    intro h
    have a := ih (by omega)
    have b := zge_le w he (show i < zps P by omega)
    have u : zct P e t N R (i + 1) = zct P e t N R i + (if zptt P i / t % N = R then zge P e i else 0) := rfl
    rw [u]
    split <;> omega
theorem zck_b {P : zM} (w : wPr P) {t N R : Nat} : ∀ i, i ≤ zps P → zck P t N R i ≤ 20 * i := by
  intro i
  induction i with
  | zero => intro _; exact Nat.zero_le _
  | succ i ih =>
    intro h
    have a := ih (by omega)
    have lo := w.2.2.2.2.2.1 i (by omega)
    have b := (w.2.2.2.1 _ lo).2.1
    have u : zck P t N R (i + 1) = zck P t N R i + (if zptt P i / t % N = R then zptk P (zplo P i) else 0) := rfl
    rw [u]
    split <;> omega
theorem tk10_ {p : Nat} {P : zM} (hp : p = 3 ∨ p = 33) (w : wPr P) {e t N R : Nat} (he : e < 8) (h1 : 1 ≤ t) (ht : t ≤ 999) (hN : 1 ≤ N) (hN8 : N ≤ 8) (hR : R < 8) : ∀ q i n σ, i + q = zps P → q < n → cPr σ.1 p P → σ.1 88 0 = nI (zct P e t N R i) → σ.1 88 1 = nI (zck P t N R i) → ∃ σ', L_X9_take_19 p (nI t) (nI N) (nI R) (nI e) n (nI i) σ = some σ' ∧ σ'.2 = σ.2 ∧ (∀ c j, ¬ (c = 88 ∧ (j = 0 ∨ j = 1)) → σ'.1 c j = σ.1 c j) ∧ σ'.1 88 0 = nI (zct P e t N R (zps P)) ∧ σ'.1 88 1 = nI (zck P t N R (zps P)) := by
  have w1 := w.1
  have w3 := w.2.2.1
  intro q
  induction q with
  | zero =>
    intro i n σ h hn c h0 h2
    cases n with
    | zero => omega
    | succ n =>
      obtain rfl : i = zps P := by omega
      refine ⟨σ, ?_, rfl, fun _ _ _ => rfl, h0, h2⟩
      rw [L_X9_take_19, zlet_eq, c.2.2.1, if_pos (nI_le (Nat.le_refl _) (by omega))]
  | succ q ih =>
    intro i n σ h hn c h0 h2
    cases n with
    | zero => omega
    | succ n =>
      have c' := c
      obtain ⟨c1, c2, c3, c4, c5, c6, c7⟩ := c'
      have lo := w.2.2.2.2.2.1 i (by omega)
      have sl := slc_ (σ := σ) (i := i) c w (by omega) h1 (by omega)
      have tl := tt_le w i (by omega)
      have dl : zptt P i / t ≤ zptt P i := Nat.div_le_self _ _
      have rm : nI (zptt P i / t) - nI (zptt P i / t) / nI N * nI N = nI (zptt P i / t % N) := pk_rem (by omega) (by omega) (by omega)
      have ml := Nat.mod_lt (zptt P i / t) (show 0 < N by omega)
      have t4 : nI i + 1 = nI (i + 1) := nI_add i 1
      have u1 : zct P e t N R (i + 1) = zct P e t N R i + (if zptt P i / t % N = R then zge P e i else 0) := rfl
      have u2 : zck P t N R (i + 1) = zck P t N R i + (if zptt P i / t % N = R then zptk P (zplo P i) else 0) := rfl
      have g := (c4 _ lo).2.2.2 e he
      have tk := (c4 _ lo).1
      rw [L_X9_take_19, zlet_eq, c3, if_neg (nI_ge (by omega) (by omega)), sl, zb_s, zn_nI (by omega) (by omega), rm, t4]
      by_cases hc : zptt P i / t % N = R
      · rw [if_pos hc] at u1 u2
        have a1 : nI (zct P e t N R i) + nI (zge P e i) = nI (zct P e t N R (i + 1)) := by rw [u1]; exact nI_add _ _
        have a2 : nI (zck P t N R i) + nI (zptk P (zplo P i)) = nI (zck P t N R (i + 1)) := by rw [u2]; exact nI_add _ _
        have e1 : (zsI σ 88 0 (nI (zct P e t N R (i + 1)))).1 88 1 = nI (zck P t N R i) := by rw [zI_n (by omega)]; exact h2
        have e2 : (zsI σ 88 0 (nI (zct P e t N R (i + 1)))).1 (p + 1) (zplo P i) = nI (zptk P (zplo P i)) := by rw [zI_n (by omega)]; exact tk
        have g' : σ.1 (p + 4 + 1 + zplo P i) e = nI (zge P e i) := g
        rw [if_pos (by rw [hc]), zi_nI (by omega) (by omega), zg_t, zcla (by omega), c6 i (by omega), zlet_eq, zi_nI (by omega) (by omega), zg_t, zi_nI (by omega) (by omega), zg_t, h0, zcla (by omega), zcla (by omega), g', a1, zlet_eq, zg_t, e1, e2, a2, zlet_eq, zlet_eq]
        obtain ⟨σ', b1, b2, b3, b4, b5⟩ := ih (i + 1) n (zsI (zsI σ 88 0 (nI (zct P e t N R (i + 1)))) 88 1 (nI (zck P t N R (i + 1)))) (by omega) (by omega) (cPr_c (I := σ.1) (fun c k hc => by rw [zI_n (by omega), zI_n (by omega)]) w c) (by rw [zI_n (by omega), zI_y]) zI_y
        exact ⟨σ', b1, b2, fun c j hc => by rw [b3 c j hc, zI_n (by omega), zI_n (by omega)], b4, b5⟩
      · rw [if_neg hc] at u1 u2
        have ne : ¬ nI (zptt P i / t % N) = nI R := fun q => hc ((nI_eq (by omega) (by omega)).mp q)
        rw [if_neg ne, zlet_eq]
        exact ih (i + 1) n σ (by omega) (by omega) c (by rw [u1]; exact h0) (by rw [u2]; exact h2)
theorem tk10 {p : Nat} {P : zM} {σ : zS} (hp : p = 3 ∨ p = 33) (w : wPr P) {e t N R : Nat} (he : e < 8) (h1 : 1 ≤ t) (ht : t ≤ 999) (hN : 1 ≤ N) (hN8 : N ≤ 8) (hR : R < 8) (c : cPr σ.1 p P) : ∃ σ', J_X9_take p (nI t) (nI N) (nI R) (nI e) σ = some σ' ∧ zsim σ σ' ∧ (∀ c j, ¬ (c = 88 ∧ (j = 0 ∨ j = 1)) → σ'.1 c j = σ.1 c j) ∧ σ'.1 88 0 = nI (zct P e t N R (zps P)) ∧ σ'.1 88 1 = nI (zck P t N R (zps P)) := by
  have w3 := w.2.2.1
  obtain ⟨σ', b1, b2, b3, b4, b5⟩ := tk10_ hp w he h1 ht hN hN8 hR (zps P) 0 4294967296 (zsI (zsI σ 88 0 (0 : Int32)) 88 1 (0 : Int32)) (by omega) (by omega) (cPr_c (I := σ.1) (fun c k hc => by rw [zI_n (by omega), zI_n (by omega)]) w c) (by rw [zI_n (by omega), zI_y]; rfl) zI_y
  have fr : ∀ c j, ¬ (c = 88 ∧ (j = 0 ∨ j = 1)) → σ'.1 c j = σ.1 c j := fun c j hc => by rw [b3 c j hc, zI_n (by omega), zI_n (by omega)]
  refine ⟨σ', ?_, ⟨fun c j h _ => fr c j (by simp only [zscr] at h; omega), by rw [b2]; rfl⟩, fr, b4, b5⟩
  unfold J_X9_take
  rw [zlet_eq, zlet_eq, if_pos (show (1 : Int32) ≤ nI N from nI_le (a := 1) hN (by omega))]
  exact b1
/-- the round of an event -/
def zrd (cell : Nat → Int32) (e N R : Nat) : Prop := R < N ∧ N ≤ 8 ∧ ∃ g : Nat → Nat, (∀ j, j < N → g j < 256 ∧ cell j = nI (g j)) ∧ (g R).testBit e = true ∧ ∀ j, j < R → (g j).testBit e = false
theorem ro10 {σ : zS} {e N R : Nat} (he : e < 8) (h : zrd (σ.1 85) e N R) : J_X0_roundOf (nI e) (nI N) σ = some (nI R) := by
  obtain ⟨h1, h2, g, h3, h4, h5⟩ := h
  have L : ∀ q i n, i + q = R → q < n → L_X0_roundOf_2 (nI e) (nI N) σ n (nI i) = some (nI R) := by
    intro q
    induction q with
    | zero =>
      intro i n h hn
      cases n with
      | zero => omega
      | succ n =>
        obtain rfl : i = R := by omega
        obtain ⟨g1, g2⟩ := h3 i h1
        rw [L_X0_roundOf_2, zlet_eq, if_neg (nI_ge h1 (by omega)), if_neg (show ¬ (8 : Int32) ≤ nI i from nI_ge (b := 8) (by omega) (by omega)), zi_nI (by omega) (by omega), zg_t, zcla (by omega), g2, ioo he g1, zb_s, h4, if_neg (show ¬ nI (if true = true then 1 else 0) = 0 by decide)]
    | succ q ih =>
      intro i n h hn
      cases n with
      | zero => omega
      | succ n =>
        obtain ⟨g1, g2⟩ := h3 i (by omega)
        have t4 : nI i + 1 = nI (i + 1) := nI_add i 1
        rw [L_X0_roundOf_2, zlet_eq, if_neg (nI_ge (by omega) (by omega)), if_neg (show ¬ (8 : Int32) ≤ nI i from nI_ge (b := 8) (by omega) (by omega)), zi_nI (by omega) (by omega), zg_t, zcla (by omega), g2, ioo he g1, zb_s, h5 i (by omega), if_pos (show nI (if false = true then 1 else 0) = 0 by decide), t4, zlet_eq]
        exact ih (i + 1) n (by omega) (by omega)
  exact L R 0 4294967296 (by omega) (by omega)
theorem ci2 {σ : zS} {e N R : Nat} {K : Int32 → Option zS} (he : e < 8) (h : zrd (σ.1 129) e N R) : L_X11_countsIn_2 (nI e) σ K 4294967296 (0 : Int32) = K (nI R) := by
  obtain ⟨h1, h2, g, h3, h4, h5⟩ := h
  have L : ∀ q i n, i + q = R → q < n → L_X11_countsIn_2 (nI e) σ K n (nI i) = K (nI R) := by
    intro q
    induction q with
    | zero =>
      intro i n h hn
      cases n with
      | zero => omega
      | succ n =>
        obtain rfl : i = R := by omega
        obtain ⟨g1, g2⟩ := h3 i h1
        rw [L_X11_countsIn_2, zlet_eq, zi_nI (by omega) (by omega), zg_t, zcla (by omega), g2, tb_bit g1 he, h4, if_neg (show ¬ nI (if true = true then 1 else 0) = 0 by decide)]
    | succ q ih =>
      intro i n h hn
      cases n with
      | zero => omega
      | succ n =>
        obtain ⟨g1, g2⟩ := h3 i (by omega)
        have t4 : nI i + 1 = nI (i + 1) := nI_add i 1
        rw [L_X11_countsIn_2, zlet_eq, zi_nI (by omega) (by omega), zg_t, zcla (by omega), g2, tb_bit g1 he, h5 i (by omega), if_pos (show nI (if false = true then 1 else 0) = 0 by decide), t4, zlet_eq]
        exact ih (i + 1) n (by omega) (by omega)
  exact L R 0 4294967296 (by omega) (by omega)
theorem zL_g {σ : zS} {c k : Nat} {v : Int64} : (zsL σ c k v).2.1 c k = v := if_pos ⟨rfl, rfl⟩
theorem zL_n' {σ : zS} {c k a j : Nat} {v : Int64} (h : ¬ (a = c ∧ j = k)) : (zsL σ c k v).2.1 a j = σ.2.1 a j := if_neg h
theorem ci37 {P : zM} (w : wPr P) {e t N R : Nat} (he : e < 8) (h1 : 1 ≤ t) (ht : t ≤ 999) (hN : 1 ≤ N) (hN8 : N ≤ 8) (hR : R < 8) : ∀ q i n σ, i + q = zps P → q < n → mPr σ.1 P → σ.1 105 41 = nI N → σ.2.1 105 43 = lN (zct P e t N R i) → σ.2.1 105 44 = lN (zck P t N R i) → ∃ σ', L_X11_countsIn_37 (nI t) (nI e) (nI R) n (nI (zptt P i)) (nI i) σ = some σ' ∧ σ'.1 = σ.1 ∧ σ'.2.2 = σ.2.2 ∧ σ'.2.1 105 43 = lN (zct P e t N R (zps P)) ∧ σ'.2.1 105 44 = lN (zck P t N R (zps P)) := by
  have w1 := w.1
  have w3 := w.2.2.1
  intro q
  induction q with
  | zero =>
    intro i n σ h hn m h41 h0 h2
    cases n with
    | zero => omega
    | succ n =>
      obtain rfl : i = zps P := by omega
      refine ⟨σ, ?_, rfl, rfl, h0, h2⟩
      rw [L_X11_countsIn_37, zlet_eq, m.2.2.1, if_pos (nI_le (Nat.le_refl _) (by omega))]
  | succ q ih =>
    intro i n σ h hn m h41 h0 h2
    cases n with
    | zero => omega
    | succ n =>
      obtain ⟨m1, m2, m3, m4, m5, m6, m7⟩ := id m
      have lo := w.2.2.2.2.2.1 i (by omega)
      have tl := tt_le w i (by omega)
      have dl : zptt P i / t ≤ zptt P i := Nat.div_le_self _ _
      have dv : nI (zptt P i) / nI t = nI (zptt P i / t) := pk_div (by omega) (by omega) (by omega)
      have rm : nI (zptt P i / t) - nI (zptt P i / t) / nI N * nI N = nI (zptt P i / t % N) := pk_rem (by omega) (by omega) (by omega)
      have ml := Nat.mod_lt (zptt P i / t) (show 0 < N by omega)
      have t4 : nI i + 1 = nI (i + 1) := nI_add i 1
      have t5 : nI (zptt P i) + nI (zptk P (zplo P i)) = nI (zptt P (i + 1)) := by
        rw [w.2.2.2.2.2.2.2.1 i (by omega)]
        exact nI_add _ _
      have u1 : zct P e t N R (i + 1) = zct P e t N R i + (if zptt P i / t % N = R then zge P e i else 0) := rfl
      have u2 : zck P t N R (i + 1) = zck P t N R i + (if zptt P i / t % N = R then zptk P (zplo P i) else 0) := rfl
      have tk := (m5 _ lo).1
      have tk20 := (w.2.2.2.1 _ lo).2.1
      have ge := zge_le w he (show i < zps P by omega)
      have D : ∀ τ : zS, τ.1 = σ.1 → D_X11_countsIn_103 (L_X11_countsIn_37 (nI t) (nI e) (nI R) n) (nI (zptt P i)) (nI i) τ = L_X11_countsIn_37 (nI t) (nI e) (nI R) n (nI (zptt P (i + 1))) (nI (i + 1)) τ := by
        intro τ hτ
        unfold D_X11_countsIn_103
        rw [hτ, zi_nI (by omega) (by omega), zg_t, zcla (by omega), m7 i (by omega), zi_nI (by omega) (by omega), zg_t, zcla (by omega), tk, t5, zlet_eq, t4, zlet_eq]
      rw [L_X11_countsIn_37, zlet_eq, m3, if_neg (nI_ge (by omega) (by omega)), zn_nI (by omega) (by omega), dv, zlet_eq, h41, zlet_eq, zn_nI (by omega) (by omega), zlet_eq, rm]
      by_cases hc : zptt P i / t % N = R
      · rw [if_pos hc] at u1 u2
        have mk := made11 (σ := σ) m w1 lo he
        have a1 : lN (zct P e t N R i) + lN (zge P e i) = lN (zct P e t N R (i + 1)) := by rw [u1]; exact lN_add _ _
        have a2 : lN (zck P t N R i) + lN (zptk P (zplo P i)) = lN (zck P t N R (i + 1)) := by rw [u2]; exact lN_add _ _
        have i1 : (nI (zpev P (zplo P i) e)).toInt64 = lN (zge P e i) := nI_l (Nat.lt_of_le_of_lt ge (by omega))
        have i2 : (nI (zptk P (zplo P i))).toInt64 = lN (zptk P (zplo P i)) := nI_l (by omega)
        have e1 : (zsL σ 105 43 (lN (zct P e t N R (i + 1)))).2.1 105 44 = lN (zck P t N R i) := by rw [zL_n' (by omega)]; exact h2
        rw [if_pos (by rw [hc]), zi_nI (by omega) (by omega), zg_t, zcla (by omega), m7 i (by omega), mk, zb_s, h0, i1, a1, zlet_eq, zg_t, zL_1, m7 i (by omega), zi_nI (by omega) (by omega), zg_t, zcla (by omega), tk, e1, i2, a2, zlet_eq, D (zsL (zsL σ 105 43 (lN (zct P e t N R (i + 1)))) 105 44 (lN (zck P t N R (i + 1)))) rfl]
        obtain ⟨σ', b1, b2, b3, b4, b5⟩ := ih (i + 1) n (zsL (zsL σ 105 43 (lN (zct P e t N R (i + 1)))) 105 44 (lN (zck P t N R (i + 1)))) (by omega) (by omega) m h41 (by rw [zL_n' (by omega), zL_g]) zL_g
        exact ⟨σ', b1, b2, b3, b4, b5⟩
      · rw [if_neg hc] at u1 u2
        have ne : ¬ nI (zptt P i / t % N) = nI R := fun q => hc ((nI_eq (by omega) (by omega)).mp q)
        rw [if_neg ne, D _ rfl]
        exact ih (i + 1) n σ (by omega) (by omega) m h41 (by rw [u1]; exact h0) (by rw [u2]; exact h2)
theorem ci11 {P : zM} {σ : zS} (w : wPr P) {e t N R : Nat} (he : e < 8) (h1 : 1 ≤ t) (ht : t ≤ 999) (hN : 1 ≤ N) (hN8 : N ≤ 8) (hR : R < 8) (m : mPr σ.1 P) (h41 : σ.1 105 41 = nI N) (h : zrd (σ.1 129) e N R) : ∃ σ', J_X11_countsIn (nI t) (nI e) σ = some σ' ∧ σ'.1 = σ.1 ∧ σ'.2.2 = σ.2.2 ∧ σ'.2.1 105 43 = lN (zct P e t N R (zps P)) ∧ σ'.2.1 105 44 = lN (zck P t N R (zps P)) := by
  have w3 := w.2.2.1
  have w0 := w.2.2.2.2.2.2.1
  obtain ⟨σ', b1, b2, b3, b4, b5⟩ := ci37 w he h1 ht hN hN8 hR (zps P) 0 4294967296 (zsL (zsL σ 105 43 (0 : Int64)) 105 44 (0 : Int64)) (by omega) (by omega) m h41 (by rw [zL_n' (by omega), zL_g]; rfl) (by rw [zL_g]; rfl)
  refine ⟨σ', ?_, b2, b3, b4, b5⟩
  unfold J_X11_countsIn
  rw [zlet_eq, ci2 he h]
  unfold D_X11_countsIn_21
  rw [zlet_eq, zlet_eq]
  rw [w0] at b1
  exact b1
