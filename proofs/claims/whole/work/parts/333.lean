set_option maxRecDepth 8000
/-! ===== far, truest ===== -/
def zGoodL (A B : zS → Option (Int64 × zS)) : Prop := ∀ σ, zRel σ → rBank σ.1 → ∃ r σ1 σ2, A σ = some (r, σ1) ∧ B σ1 = some (r, σ2) ∧ zRel σ2 ∧ rBank σ2.1
theorem zab_sub {a b : Nat} : zab (lN a - lN b) (zds a b) := by
  unfold zds
  rcases Nat.le_total b a with h | h
  · left
    rw [lN_sub h, Nat.sub_eq_zero_of_le h, Nat.add_zero]
  · right
    rw [Nat.sub_eq_zero_of_le h, Nat.zero_add, ← lN_sub h, Int64.neg_sub]
def zfr (P : zM) (e all : Nat) (v : Nat → Nat) : Nat → Nat := zsm fun l => zds (v l * zto P e) (zkp P l e * all)
theorem ff10 {p : Nat} {P : zM} {σ : zS} {e all : Nat} {v : Nat → Nat} (c : cPr σ.1 p P) (w : wPr P) (he : e < 8) (hv : ∀ l, l < 16 → σ.1 90 l = nI (v l)) (hb : ∀ l, v l < 1000000) (ha : σ.1 89 1 = nI all) (hall : all < 1000000) : ∀ k l n, l + k = 16 → k < n → L_X6_farFrom_13 p (nI e) σ (lN (zto P e)) n (lN (zfr P e all v l)) (nI l) = some (lN (zfr P e all v 16)) := by
  intro k
  have tl := zto_le w he
  induction k with
  | zero =>
    intro l n h hn
    cases n with
    | zero => omega
    | succ n =>
      obtain rfl : l = 16 := by omega
      rw [L_X6_farFrom_13]
      simp (disch := omega) only [zlet_eq, zg_t, zb_s, zb2_s, zl_0, zl_1, zl_2, zl_3, zl_4, zl_5, zl_6, zl_7, zl_8, zl_9, zl_10, zl_12, zl_16, zl_19, zl_20, zl_24, zl_31, zl_36, zl_39, zl_40, zl_48, zl_57, zl_63, zl_80, zl_97, zl_99, zl_100, zl_122, zl_128, zl_160, zl_199, zl_200, zl_255, zl_256, zl_320, zl_999, zl_6000, zl_6001, zl_9999, zl_999999, zq_0, zq_1, zq_2, zq_3, zq_4, zq_5, zq_7, zq_9, zq_10, zq_16, zq_17, zq_20, zq_48, zq_57, zq_97, zq_100, zq_122, zq_255, zq_999, zq_6000, zq_9999, zq_999999, nI_add, pk_mul, z_le_t, z_le_f, z_lt_t, z_lt_f, z_eq_t, z_eq_f, zcla, zi_nI, ↓reduceIte, z_ng, z_ngb, z_ngl, z_ngt, zI_y, zI_n, zI_2, zL_1, zL_2, nI_l, inN_t, inN_f, z_or0, lc_le_t, lc_le_f, lc_lt_t, lc_lt_f, lc_ge_t, lc_ge_f, lc_gt_t, lc_gt_f, lc_eq_t, lc_eq_f, z_ngle, lN_i, lN_add, lN_mul]
  | succ k ih =>
    intro l n h hn
    cases n with
    | zero => omega
    | succ n =>
      have q := ih (l + 1) n (by omega) (by omega)
      have b := hb l
      have zk := zkp_le (l := l) w he
      have e0 := made3 (σ := σ) c w.1 (show l < 16 by omega) he
      have m1 : v l * zto P e ≤ 1000000 * 594000 := Nat.mul_le_mul (by omega) tl
      have m2 : zkp P l e * all ≤ 594000 * 1000000 := Nat.mul_le_mul zk (by omega)
      have zd : zds (v l * zto P e) (zkp P l e * all) ≤ 2000000000000 := by unfold zds; omega
      have x1 := abs10 (zab_sub (a := v l * zto P e) (b := zkp P l e * all)) (by omega)
      have e1 : J_X3_made p (nI l) (nI e) σ = some (nI (zkp P l e)) := e0
      have t1 : zi (nI l) 16 = true := zi_nI (by omega) (by omega)
      have t2 : (nI l).toNatClampNeg = l := zcla (by omega)
      have t3 : ¬ (16 : Int32) ≤ nI l := of_eq_false (z_le_f (a := 16) (by omega) (by omega))
      have t4 : nI l + 1 = nI (l + 1) := nI_add l 1
      rw [L_X6_farFrom_13]
      simp only [zlet_eq, zg_t, zb_s, zb2_s, z10_eq, eq_self, ↓reduceIte, t1, t2, t3, t4, e1, hv l (by omega), ha, nI_l (show v l < 2147483648 by omega), nI_l (show zkp P l e < 2147483648 by omega), nI_l (show all < 2147483648 by omega), lN_mul, x1, lN_add]
      exact q
theorem ff6 {p : Nat} {P : zM} {σ : zS} {e all : Nat} {v : Nat → Nat} (c : cPr σ.1 p P) (w : wPr P) (he : e < 8) (hv : ∀ l, l < 16 → σ.1 90 l = nI (v l)) (hb : ∀ l, v l < 1000000) (ha : σ.1 89 1 = nI all) (hall : all < 1000000) : J_X6_farFrom p (nI e) σ = some (lN (zfr P e all v 16)) := by
  have tl := zto_le w he
  unfold J_X6_farFrom
  rw [tot3 c w he, zb_s, zlet_eq, nI_l (by omega)]
  exact ff10 c w he hv hb ha hall 16 0 4294967296 (by omega) (by omega)
theorem ff11_ {P : zM} {σ : zS} {e all ls : Nat} {v : Nat → Nat} (m : mPr σ.1 P) (w : wPr P) (he : e < 8) (hv : ∀ l, l < 16 → σ.1 130 l = nI (v l)) (hb : ∀ l, v l < 1000000) (h45 : σ.1 105 45 = nI (all + ls)) (h46 : σ.1 105 46 = nI ls) (hall : all < 1000000) : ∀ k l n, l + k = zpn P → k < n → L_X11_farNow_13 (nI e) σ (lN (zto P e)) n (lN (zfr P e all v l)) (nI l) = some (lN (zfr P e all v (zpn P))) := by
  intro k
  have tl := zto_le w he
  have w1 := w.1
  have m' := m
  obtain ⟨c1, c2, c3, c4, c5, c6, c7⟩ := m
  have hs : σ.1 105 45 - σ.1 105 46 = nI all := by
    rw [h45, h46, pk_sub (by omega), Nat.add_sub_cancel]
  induction k with
  | zero =>
    intro l n h hn
    cases n with
    | zero => omega
    | succ n =>
      obtain rfl : l = zpn P := by omega
      rw [L_X11_farNow_13]
      simp (disch := omega) only [zlet_eq, zg_t, zb_s, zb2_s, zl_0, zl_1, zl_2, zl_3, zl_4, zl_5, zl_6, zl_7, zl_8, zl_9, zl_10, zl_12, zl_16, zl_19, zl_20, zl_24, zl_31, zl_36, zl_39, zl_40, zl_48, zl_57, zl_63, zl_80, zl_97, zl_99, zl_100, zl_122, zl_128, zl_160, zl_199, zl_200, zl_255, zl_256, zl_320, zl_999, zl_6000, zl_6001, zl_9999, zl_999999, zq_0, zq_1, zq_2, zq_3, zq_4, zq_5, zq_7, zq_9, zq_10, zq_16, zq_17, zq_20, zq_48, zq_57, zq_97, zq_100, zq_122, zq_255, zq_999, zq_6000, zq_9999, zq_999999, nI_add, pk_mul, z_le_t, z_le_f, z_lt_t, z_lt_f, z_eq_t, z_eq_f, zcla, zi_nI, ↓reduceIte, z_ng, z_ngb, z_ngl, z_ngt, zI_y, zI_n, zI_2, zL_1, zL_2, nI_l, inN_t, inN_f, z_or0, lc_le_t, lc_le_f, lc_lt_t, lc_lt_f, lc_ge_t, lc_ge_f, lc_gt_t, lc_gt_f, lc_eq_t, lc_eq_f, z_ngle, lN_i, lN_add, lN_mul, c1]
  | succ k ih =>
    intro l n h hn
    cases n with
    | zero => omega
    | succ n =>
      have q := ih (l + 1) n (by omega) (by omega)
      have b := hb l
      have zk := zkp_le (l := l) w he
      have e0 := made11 (σ := σ) m' w1 (show l < zpn P by omega) he
      have ez : zkp P l e = zptm P l * zpev P l e := if_pos (show l < zpn P by omega)
      have m1 : v l * zto P e ≤ 1000000 * 594000 := Nat.mul_le_mul (by omega) tl
      have m2 : zkp P l e * all ≤ 594000 * 1000000 := Nat.mul_le_mul zk (by omega)
      have zd : zds (v l * zto P e) (zkp P l e * all) ≤ 2000000000000 := by unfold zds; omega
      have x1 := size11 (σ := σ) (zab_sub (a := v l * zto P e) (b := zkp P l e * all)) (by omega)
      rw [ez] at x1
      have tm := tm_le w (show l < zpn P by omega)
      have ev := (w.2.2.2.1 l (by omega)).2.2.2.2.1 e he
      have t1 : zi (nI l) 16 = true := zi_nI (by omega) (by omega)
      have t2 : (nI l).toNatClampNeg = l := zcla (by omega)
      have t3 : ¬ nI (zpn P) ≤ nI l := nI_ge (by omega) (by omega)
      have t4 : nI l + 1 = nI (l + 1) := nI_add l 1
      have u : zfr P e all v (l + 1) = zfr P e all v l + zds (v l * zto P e) (zptm P l * zpev P l e * all) := by
        rw [← ez]; rfl
      rw [u] at q
      rw [L_X11_farNow_13]
      simp only [zlet_eq, zg_t, zb_s, zb2_s, z10_eq, eq_self, ↓reduceIte, t1, t2, t3, t4, e0, c1, (c5 l (by omega)).2.1, hv l (by omega), hs, nI_l (show v l < 2147483648 by omega), nI_l (show zptm P l < 2147483648 by omega), nI_l (show zpev P l e < 2147483648 by omega), nI_l (show all < 2147483648 by omega), lN_mul, x1, lN_add]
      exact q
theorem zfr_n {P : zM} {e all : Nat} {v : Nat → Nat} (hn : ∀ l, zpn P ≤ l → v l = 0) : ∀ k, zfr P e all v (zpn P + k) = zfr P e all v (zpn P) := by
  intro k
  induction k with
  | zero => rfl
  | succ k ih =>
    have u : zfr P e all v (zpn P + (k + 1)) = zfr P e all v (zpn P + k) + zds (v (zpn P + k) * zto P e) (zkp P (zpn P + k) e * all) := rfl
    rw [u, ih, hn _ (by omega), show zkp P (zpn P + k) e = 0 from if_neg (by omega), Nat.zero_mul, Nat.zero_mul]
    rfl
theorem ff11 {P : zM} {σ : zS} {e all ls : Nat} {v : Nat → Nat} (m : mPr σ.1 P) (w : wPr P) (he : e < 8) (hv : ∀ l, l < 16 → σ.1 130 l = nI (v l)) (hb : ∀ l, v l < 1000000) (hn : ∀ l, zpn P ≤ l → v l = 0) (h45 : σ.1 105 45 = nI (all + ls)) (h46 : σ.1 105 46 = nI ls) (hall : all < 1000000) : J_X11_farNow (nI e) σ = some (lN (zfr P e all v 16)) := by
  have tl := zto_le w he
  have w1 := w.1
  have z := zfr_n (e := e) (all := all) hn (16 - zpn P)
  rw [show zpn P + (16 - zpn P) = 16 by omega] at z
  rw [z]
  unfold J_X11_farNow
  rw [tot11 m w he, zb_s, zlet_eq, nI_l (by omega)]
  exact ff11_ m w he hv hb h45 h46 hall (zpn P) 0 4294967296 (by omega) (by omega)
theorem zfr_b {P : zM} (w : wPr P) {e all : Nat} {v : Nat → Nat} (he : e < 8) (hb : ∀ l, v l < 1000000) (hall : all < 1000000) : zfr P e all v 16 < 9223372036854775808 := by
  have tl := zto_le w he
  have h : zfr P e all v 16 ≤ zsm (fun l => 2000000000000 * 1) 16 := zsm_le fun l _ => by
    have b := hb l
    have zk := zkp_le (l := l) w he
    have m1 : v l * zto P e ≤ 1000000 * 594000 := Nat.mul_le_mul (by omega) tl
    have m2 : zkp P l e * all ≤ 594000 * 1000000 := Nat.mul_le_mul zk (by omega)
    unfold zds
    omega
  have : zsm (fun l => 2000000000000 * 1) 16 = 32000000000000 := by decide
  omega
theorem pp_far (a b d f g : Int32) : zGoodL (J_X10_far a b d f g) (J_X11_far a b d f g) := by
  intro σ h kb
  obtain ⟨P, p, hp, hr, hz, w, c, m⟩ := zopen h
  have w1 := w.1
  unfold J_X10_far J_X11_far
  rcases as_ a b d f σ with ⟨e, E, L, t, he, rfl, E1, E2, rfl, hL, rfl, ht, rfl, s1, s2⟩ | ⟨s1, s2⟩
  · by_cases hg : zL g 2
    · have i1 := ei_y (σ := σ) hg
      have i2 := fun σ => in01_y (σ := σ) hg
      obtain ⟨σ1, a1, a2, a3, a4⟩ := st10 hp w he E1 E2 hL ht c
      obtain ⟨σ2, b1, b2, b3, b4⟩ := st11 w he E1 E2 hL ht (zsim_m a2 m)
      have fin : zRel σ2 ∧ rBank σ2.1 := ⟨zRel_s (zsim_t a2 b2) h, rBank_c (fun c k hc => by rw [b3 _ _ (by omega), a3 _ _ (by omega)]) kb⟩
      have c1 := zsim_c a2 hp w c
      have m2 := zsim_m (zsim_t a2 b2) m
      have hr1 : σ1.2.2 0 1 = p := by rw [a2.2]; exact hr
      have tl := zto_le w he
      have x2 := zs_b (t := t) w he E1 (show L ≤ 9999 by omega) (Nat.le_refl (zps P))
      obtain ⟨v, hv⟩ : ∃ v : Nat → Nat, v = fun l => zssh P e E L t l (zps P) := ⟨_, rfl⟩
      have v1 : ∀ l, l < 16 → σ1.1 90 l = nI (v l) := by rw [hv]; exact a4.2.2
      have v2 : ∀ l, l < 16 → σ2.1 130 l = nI (v l) := by rw [hv]; exact b4.2.2
      have vb : ∀ l, v l < 1000000 := by
        intro l
        rw [hv]
        have x1 := zssh_le (P := P) (e := e) (E := E) (L := L) (t := t) (l := l) (zps P)
        show zssh P e E L t l (zps P) < _
        omega
      have vn : ∀ l, zpn P ≤ l → v l = 0 := by
        intro l hl
        rw [hv]
        exact zssh_0 w hl _
      have T1 := tot3 (σ := σ1) c1 w he
      have T2 := tot11 (σ := σ2) m2 w he
      obtain ⟨al, hal⟩ : ∃ al, al = zsal P e E L t (zps P) := ⟨_, rfl⟩
      obtain ⟨ls, hls⟩ : ∃ ls, ls = zsls P e E L t (zps P) := ⟨_, rfl⟩
      have none_ : zto P e = 0 → al = 0 := fun q => by rw [hal]; exact zsal_none w E1 hL q
      obtain ⟨k1, k2, -⟩ := a4
      obtain ⟨k3, k4, -⟩ := b4
      rw [← hal, ← hls] at k3
      rw [← hal] at k1
      rw [← hls] at k4
      rw [← hal, ← hls] at x2
      have F1 := ff6 c1 w he v1 vb k1 (by omega)
      have F2 := ff11 m2 w he v2 vb vn k3 k4 (by omega)
      have fb := zfr_b (all := al) w he vb (by omega)
      by_cases h0 : al = 0
      · refine ⟨-4, σ1, σ2, ?_, ?_, fin⟩
        · simp (disch := omega) only [zlet_eq, zg_t, zb_s, zb2_s, z10_eq, eq_self, ↓reduceIte, s1, i1, hr, hz, a1, hr1, T1, k1, nI_l, lN_mul]
          rw [h0, Nat.zero_mul]
          rfl
        · have : nI (al + ls) = nI ls := by rw [h0, Nat.zero_add]
          simp only [zlet_eq, zg_t, zb_s, zb2_s, z10_eq, eq_self, ↓reduceIte, s2, i2, b1, k3, k4, this]
      · have tp : 0 < zto P e := Nat.pos_of_ne_zero fun q => h0 (none_ q)
        have mp : 0 < al * zto P e := Nat.mul_pos (by omega) tp
        have mb : al * zto P e ≤ 1000000 * 594000 := Nat.mul_le_mul (by omega) tl
        have g1 : (0 : Int32) ≤ lg_cmp (lN (al * zto P e)) 1 := of_eq_true (lc_ge_t (b := 1) (by omega) (by omega))
        have L1 := fun ww => low10 (w := ww) (σ := σ1) (x := lN (zfr P e al v 16)) (Or.inl rfl) fb (show al * zto P e < 9223372036854775808 by omega) mp
        have L2 := fun ww => told11 (w := ww) (σ := σ2) (x := lN (zfr P e al v 16)) (Or.inl rfl) fb (show al * zto P e < 9223372036854775808 by omega) mp
        have ns : ¬ nI (al + ls) = nI ls := fun q => h0 (by have := (nI_eq (by omega) (by omega)).mp q; omega)
        have hs : nI (al + ls) - nI ls = nI al := by rw [pk_sub (by omega), Nat.add_sub_cancel]
        obtain ⟨x, hx, rfl⟩ := hg
        refine ⟨if nI x = nI 0 then lN (zfr P e al v 16) / lN (Nat.gcd (zfr P e al v 16) (al * zto P e)) else lN (al * zto P e) / lN (Nat.gcd (zfr P e al v 16) (al * zto P e)), σ1, σ2, ?_, ?_, fin⟩
        · simp (disch := omega) only [zlet_eq, zg_t, zb_s, zb2_s, z10_eq, eq_self, ↓reduceIte, s1, i1, hr, hz, a1, hr1, T1, k1, nI_l, lN_mul, g1, F1, L1]
          by_cases hx0 : nI x = 0
          · rw [if_pos hx0, if_neg (show ¬ (1 : Int32) = nI 0 by decide), if_pos (show nI x = nI 0 from hx0)]
          · rw [if_neg hx0, if_pos (show (0 : Int32) = nI 0 from rfl), if_neg (show ¬ nI x = nI 0 from hx0)]
        · have i2' : ∀ σ, J_X11_in (lN x) 0 1 σ = some 1 := fun σ => by rw [← nI_l (by omega)]; exact i2 σ
          simp (disch := omega) only [zlet_eq, zg_t, zb_s, zb2_s, z10_eq, eq_self, ↓reduceIte, s2, i2', b1, k3, k4, ns, hs, F2, T2, nI_l, lN_mul, L2]
    · have i1 := ei_n (σ := σ) hg
      have i2 := in01_n (σ := σ) hg
      exact ⟨-1, σ, σ, by simp only [zlet_eq, zg_t, zb_s, zb2_s, z10_eq, eq_self, ↓reduceIte, s1, i1], by simp only [zlet_eq, zg_t, zb_s, zb2_s, z10_eq, eq_self, ↓reduceIte, s2, i2], h, kb⟩
  · exact ⟨-1, σ, σ, by simp only [zlet_eq, zg_t, zb_s, zb2_s, z10_eq, eq_self, ↓reduceIte, s1], by simp only [zlet_eq, zg_t, zb_s, zb2_s, z10_eq, eq_self, ↓reduceIte, s2], h, kb⟩
theorem trl_ {P : zM} (w : wPr P) {p e hi t : Nat} (hp : p = 3 ∨ p = 33) (he : e < 8) (hhi : hi ≤ 9999) (ht : t ≤ 9) : ∀ k E n (x : Int32) (y z : Int64), E + k = hi + 1 → 1 ≤ E → k < n → ∃ r, (∀ σ, σ.2.2 0 1 = p → zP p = true → cPr σ.1 p P → ∃ σ', L_X10_truest_41 (nI e) (nI hi) (nI t) n x y z (nI E) σ = some (r, σ') ∧ zsim σ σ' ∧ ∀ c j, ¬ (c = 89 ∨ c = 90) → σ'.1 c j = σ.1 c j) ∧ ∀ σ, mPr σ.1 P → ∃ σ', L_X11_truest_48 (nI e) (nI hi) (nI t) n x y z (nI E) σ = some (r, σ') ∧ zsim σ σ' ∧ ∀ c j, ¬ (c = 130 ∨ (c = 105 ∧ (j = 45 ∨ j = 46))) → σ'.1 c j = σ.1 c j := by
  have w1 := w.1
  intro k
  induction k with
  | zero =>
    intro E n x y z h E1 hn
    cases n with
    | zero => omega
    | succ n =>
      have hlt : nI hi < nI E := nI_lt (by omega) (by omega)
      refine ⟨x, ?_, ?_⟩
      · intro σ _ _ _
        rw [L_X10_truest_41, zlet_eq, if_pos hlt]
        exact ⟨σ, rfl, zsim_r σ, fun _ _ _ => rfl⟩
      · intro σ _
        rw [L_X11_truest_48, zlet_eq, if_pos hlt]
        exact ⟨σ, rfl, zsim_r σ, fun _ _ _ => rfl⟩
  | succ k ih =>
    intro E n x y z h E1 hn
    cases n with
    | zero => omega
    | succ n =>
      have hlt : ¬ nI hi < nI E := nI_nlt (by omega) (by omega)
      have t4 : nI E + 1 = nI (E + 1) := nI_add E 1
      have x2 := zs_b (P := P) (e := e) (E := E) (L := 0) (t := t) w he E1 (by omega) (Nat.le_refl (zps P))
      obtain ⟨al, hal⟩ : ∃ al, al = zsal P e E 0 t (zps P) := ⟨_, rfl⟩
      obtain ⟨ls, hls⟩ : ∃ ls, ls = zsls P e E 0 t (zps P) := ⟨_, rfl⟩
      rw [← hal, ← hls] at x2
      obtain ⟨v, hv⟩ : ∃ v : Nat → Nat, v = fun l => zssh P e E 0 t l (zps P) := ⟨_, rfl⟩
      have vb : ∀ l, v l < 1000000 := by
        intro l
        rw [hv]
        have x1 := zssh_le (P := P) (e := e) (E := E) (L := 0) (t := t) (l := l) (zps P)
        show zssh P e E 0 t l (zps P) < _
        omega
      have vn : ∀ l, zpn P ≤ l → v l = 0 := by
        intro l hl
        rw [hv]
        exact zssh_0 w hl _
      obtain ⟨F, hF⟩ : ∃ F, F = lN (zfr P e al v 16) := ⟨_, rfl⟩
      obtain ⟨keep, hkeep⟩ : ∃ keep : Bool, keep = (decide (al = 0) || (!decide (x = -4) && decide ((0 : Int32) ≤ lg_cmp (F * z) (y * lN al)))) := ⟨_, rfl⟩
      obtain ⟨r, r1, r2⟩ := ih (E + 1) n (if keep then x else nI E) (if keep then y else F) (if keep then z else lN al) (by omega) (by omega) (by omega)
      have pick : ∀ {α : Type} (u v : α), (if nI al ≤ 0 then u else if x = -4 then v else if (0 : Int32) ≤ lg_cmp (F * z) (y * lN al) then u else v) = if keep then u else v := by
        intro α u v'
        rw [hkeep]
        by_cases h0 : al = 0
        · rw [if_pos (show nI al ≤ 0 by rw [h0]; decide)]
          simp [h0]
        · rw [if_neg (show ¬ nI al ≤ 0 from nI_nle (by omega) (by omega))]
          by_cases hx : x = -4
          · simp [h0, hx]
          · by_cases hc : (0 : Int32) ≤ lg_cmp (F * z) (y * lN al)
            · simp [h0, hx, hc]
            · simp [h0, hx, hc]
      refine ⟨r, ?_, ?_⟩
      · intro σ hr hz c
        obtain ⟨σ1, a1, a2, a3, a4⟩ := st10 (L := 0) hp w he E1 (by omega) (by omega) ht c
        obtain ⟨k1, k2, k5⟩ := a4
        rw [← hal] at k1
        have c1 := zsim_c a2 hp w c
        have hr1 : σ1.2.2 0 1 = p := by rw [a2.2]; exact hr
        have F1 := ff6 c1 w he (show ∀ l, l < 16 → σ1.1 90 l = nI (v l) by rw [hv]; exact k5) vb k1 (by omega)
        rw [← hF] at F1
        obtain ⟨σ', g1, g2, g3⟩ := r1 σ1 hr1 hz c1
        refine ⟨σ', ?_, zsim_t a2 g2, fun c j hc => by rw [g3 c j hc, a3 c j hc]⟩
        have a1' : J_X6_take p (nI e) (nI E) 0 (nI t) σ = some σ1 := a1
        rw [L_X10_truest_41, zlet_eq, if_neg hlt, zlet_eq, hr, hz, zg_t, a1', zb_s, zlet_eq, hr1, hz, zg_t, F1, zb_s, k1, nI_l (show al < 2147483648 by omega), pick, pick, pick, zlet_eq, zlet_eq, zlet_eq, zlet_eq, t4]
        exact g1
      · intro σ m
        obtain ⟨σ1, b1, b2, b3, b4⟩ := st11 (L := 0) w he E1 (by omega) (by omega) ht m
        obtain ⟨k3, k4, k5⟩ := b4
        rw [← hal, ← hls] at k3
        rw [← hls] at k4
        have m1 := zsim_m b2 m
        have F2 := ff11 m1 w he (show ∀ l, l < 16 → σ1.1 130 l = nI (v l) by rw [hv]; exact k5) vb vn k3 k4 (by omega)
        rw [← hF] at F2
        obtain ⟨σ', g1, g2, g3⟩ := r2 σ1 m1
        refine ⟨σ', ?_, zsim_t b2 g2, fun c j hc => by rw [g3 c j hc, b3 c j hc]⟩
        have b1' : J_X11_findSamples (nI e) (nI E) 0 (nI t) σ = some σ1 := b1
        have hs : nI (al + ls) - nI ls = nI al := by rw [pk_sub (by omega), Nat.add_sub_cancel]
        have hle : (nI (al + ls) ≤ nI ls) = (nI al ≤ 0) := by
          rw [z_le (by omega) (by omega), show (0 : Int32) = nI 0 from rfl, z_le (by omega) (by omega)]
          exact propext ⟨fun _ => by omega, fun _ => by omega⟩
        have flag : (if nI al ≤ 0 then (0 : Int32) else if x = -4 then 1 else if (0 : Int32) ≤ lg_cmp (F * z) (y * lN al) then 0 else 1) = if keep then 0 else 1 := pick 0 1
        have flag' : ∀ {α : Type} (u v : α), (if (if keep = true then (0 : Int32) else 1) = 0 then u else v) = if keep then u else v := by
          intro α u v
          cases keep <;> rfl
        rw [L_X11_truest_48, zlet_eq, if_neg hlt, b1', zb_s, F2, zb_s, k3, k4, hs, nI_l (show al < 2147483648 by omega)]
        simp only [hle]
        rw [flag, zlet_eq, flag', flag', flag', zlet_eq, zlet_eq, zlet_eq, zlet_eq, t4]
        exact g1
theorem pp_truest (a b d f : Int32) : zGood (J_X10_truest a b d f) (J_X11_truest a b d f) := by
  intro σ h kb
  obtain ⟨P, p, hp, hr, hz, w, c, m⟩ := zopen h
  unfold J_X10_truest J_X11_truest
  rcases as_ a b 0 f σ with ⟨e, E, L, t, he, rfl, E1, E2, rfl, hL, -, ht, rfl, s1, s2⟩ | ⟨s1, s2⟩
  · have il : (nI E).toInt64 = lN E := nI_l (by omega)
    by_cases hd : zR d E 9999
    · have i1 := fun σ => zin_y (σ := σ) (y := lN E) (z := 9999) hd rfl rfl (by omega) (by omega)
      obtain ⟨hi, h1, h2, rfl⟩ := hd
      have t1 : ¬ 9999 < nI hi := of_eq_false (z_lt_f (a := 9999) (by omega) (by omega))
      have t2 : ¬ nI hi < nI E := nI_nlt h1 (by omega)
      have t3 : nI hi - nI E = nI (hi - E) := pk_sub h1
      by_cases hw : hi - E ≤ 199
      · have t4 : ¬ (200 : Int32) ≤ nI (hi - E) := of_eq_false (z_le_f (a := 200) (by omega) (by omega))
        have t5 : nI (hi - E) ≤ 199 := nI_le (b := 199) hw (by omega)
        obtain ⟨r, r1, r2⟩ := trl_ w hp he h2 ht (hi + 1 - E) E 4294967296 (-4) 0 1 (by omega) E1 (by omega)
        obtain ⟨σ1, a1, a2, a3⟩ := r1 σ hr hz c
        obtain ⟨σ2, b1, b2, b3⟩ := r2 σ1 (zsim_m a2 m)
        refine ⟨r, σ1, σ2, ?_, ?_, zRel_s (zsim_t a2 b2) h, rBank_c (fun c k hc => by rw [b3 _ _ (by omega), a3 _ _ (by omega)]) kb⟩
        · simp only [zlet_eq, zg_t, zb_s, zb2_s, z10_eq, eq_self, ↓reduceIte, s1, t1, J_X10_isRange, t2, t3, t4]
          exact a1
        · simp only [zlet_eq, zg_t, zb_s, zb2_s, z10_eq, eq_self, ↓reduceIte, s2, il, i1, t3, t5]
          exact b1
      · have t4 : (200 : Int32) ≤ nI (hi - E) := of_eq_true (z_le_t (a := 200) (by omega) (by omega))
        have t5 : ¬ nI (hi - E) ≤ 199 := nI_ge (a := 199) (by omega) (by omega)
        exact ⟨-1, σ, σ, by simp only [zlet_eq, zg_t, zb_s, zb2_s, z10_eq, eq_self, ↓reduceIte, s1, t1, J_X10_isRange, t2, t3, t4], by simp only [zlet_eq, zg_t, zb_s, zb2_s, z10_eq, eq_self, ↓reduceIte, s2, il, i1, t3, t5], h, kb⟩
    · have i1 := fun σ => zin_n (σ := σ) (y := lN E) (z := 9999) hd rfl rfl (by omega) (by omega)
      refine ⟨-1, σ, σ, ?_, by simp only [zlet_eq, zg_t, zb_s, zb2_s, z10_eq, eq_self, ↓reduceIte, s2, il, i1], h, kb⟩
      simp only [zlet_eq, zg_t, zb_s, zb2_s, z10_eq, eq_self, ↓reduceIte, s1, J_X10_isRange]
      rcases zlt0 hd (by omega) (by omega) with q | q
      · by_cases h9 : 9999 < d
        · rw [if_pos h9]
        · rw [if_neg h9, if_pos q, zb_s, if_pos rfl]
      · exact if_pos q
  · exact ⟨-1, σ, σ, by simp only [zlet_eq, zg_t, zb_s, zb2_s, z10_eq, eq_self, ↓reduceIte, s1], by simp only [zlet_eq, zg_t, zb_s, zb2_s, z10_eq, eq_self, ↓reduceIte, s2], h, kb⟩
