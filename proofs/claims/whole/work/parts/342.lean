set_option maxRecDepth 8000
/-! ===== wayOf ===== -/
def zsu (s e : Nat) : List Nat := (List.range' e (8 - e)).filter fun i => s.testBit i
theorem zsu_0 (s : Nat) : zsu s 0 = zev s := rfl
theorem zsu_8 (s : Nat) : zsu s 8 = [] := rfl
theorem zsu_s {s e : Nat} (he : e < 8) : zsu s e = if s.testBit e = true then e :: zsu s (e + 1) else zsu s (e + 1) := by
  unfold zsu
  rw [show 8 - e = (8 - (e + 1)) + 1 by omega, List.range'_succ, List.filter_cons]
theorem wF1 : ∀ w : Fin 256, ∀ p : Fin 4, ((nI w.val >>> (nI (2 * p.val) &&& 31)) &&& 3 : Int32) = nI (w.val / 4 ^ p.val % 4) := by decide +kernel
theorem wF2 : ∀ n : Fin 5, ((1 : Int32) <<< (((2 : Int32) * nI n.val) &&& 31)) = nI (4 ^ n.val) := by decide +kernel
theorem wi39 {k : Nat} {M : Nat → Nat} {σ : zS} {s w : Nat} (hk : k ≤ 4) (k4 : σ.1 105 36 = nI k) (hM : ∀ c, c < 4 → M c < 256 ∧ σ.1 125 c = nI (M c)) (hs : s < 256) (hw : w < 256) (K : Int32 → Option Int32) : ∀ q e n u (fl : Bool), e + q = 8 → q < n → u < 16 → (zsu s e).length ≤ 4 → L_X11_wayOf_39 (nI s) σ (nI w) K n (nI u) (nI (zsu s e).length) (nI (if fl = true then 1 else 0)) (nI e) = K (nI (if (fl && zvl k M (zsu s e) u w) = true then 1 else 0)) := by
  intro q
  induction q with
  | zero =>
    intro e n u fl h hn hu hl
    cases n with
    | zero => omega
    | succ n =>
      obtain rfl : e = 8 := by omega
      rw [L_X11_wayOf_39, zlet_eq, if_pos (show (8 : Int32) ≤ nI 8 by decide), zsu_8]
      cases fl <;> rfl
  | succ q ih =>
    intro e n u fl h hn hu hl
    cases n with
    | zero => omega
    | succ n =>
      have t3 : ¬ (8 : Int32) ≤ nI e := of_eq_false (z_le_f (a := 8) (by omega) (by omega))
      have t4 : nI e + 1 = nI (e + 1) := nI_add e 1
      have tb := tb_bit hs (show e < 8 by omega)
      have zs := zsu_s (s := s) (show e < 8 by omega)
      rw [L_X11_wayOf_39, zlet_eq, if_neg t3, tb]
      by_cases hb : s.testBit e = true
      · rw [if_pos hb] at zs
        rw [if_pos hb, if_pos (show nI 1 = 1 from rfl), zs] 
        have len : (e :: zsu s (e + 1)).length = (zsu s (e + 1)).length + 1 := rfl
        rw [zs, len] at hl
        have p1 := pk_m1 (zsu s (e + 1)).length
        have m2 : (2 : Int32) * nI (zsu s (e + 1)).length = nI (2 * (zsu s (e + 1)).length) := pk_mul 2 _
        have d1 := wF1 ⟨w, hw⟩ ⟨(zsu s (e + 1)).length, by omega⟩
        have d1' : ((nI w >>> (nI (2 * (zsu s (e + 1)).length) &&& 31)) &&& 3 : Int32) = nI (w / 4 ^ (zsu s (e + 1)).length % 4) := d1
        rw [len, zlet_eq, p1, zlet_eq, m2, d1', zlet_eq, zvl]
        have d4 : w / 4 ^ (zsu s (e + 1)).length % 4 < 4 := Nat.mod_lt _ (by omega)
        generalize w / 4 ^ (zsu s (e + 1)).length % 4 = d at *
        have go : ∀ x : Bool, D_X11_wayOf_114 (L_X11_wayOf_39 (nI s) σ (nI w) K n) (nI u) (nI e) (nI (zsu s (e + 1)).length) (nI d) (nI (if x = true then 1 else 0)) = K (nI (if (x && zvl k M (zsu s (e + 1)) (u ||| 2 ^ d) w) = true then 1 else 0)) := by
          intro x
          have or3 := zF3 ⟨u, hu⟩ ⟨d, d4⟩
          have or3' : (nI u ||| ((1 : Int32) <<< (nI d &&& 31))) = nI (u ||| 2 ^ d) := or3.1
          unfold D_X11_wayOf_114
          rw [or3', zlet_eq, t4, zlet_eq]
          exact ih (e + 1) n (u ||| 2 ^ d) x (by omega) (by omega) or3.2 (by omega)
        have go0 := go false
        have go1 := go true
        rw [if_neg (by decide), Bool.false_and, if_neg (by decide)] at go0
        rw [if_pos rfl, Bool.true_and] at go1
        have z0 : (0 : Int32) = nI 0 := rfl
        have z1 : (1 : Int32) = nI 1 := rfl
        cases fl
        · rw [if_pos (show nI (if false = true then 1 else 0) = 0 from rfl), z0, go0, Bool.false_and, if_neg (by decide)]
        · rw [if_pos rfl, if_neg (show ¬ nI 1 = 0 by decide), k4, Bool.true_and]
          by_cases hdk : d < k
          · rw [if_neg (nI_ge hdk (by omega)), tb31 (by omega) (by omega)]
            by_cases hub : u.testBit d = true
            · rw [if_pos hub, if_neg (show ¬ nI 1 = 0 by decide), z0, go0, hub]
              simp
            · have hub' : u.testBit d = false := by simpa using hub
              obtain ⟨mb, mv⟩ := hM d (by omega)
              rw [if_neg hub, if_pos (show nI 0 = 0 from rfl), zi_nI (by omega) (by omega), zg_t, zcla (by omega), mv, tb_bit mb (by omega), hub']
              by_cases hmb : (M d).testBit e = true
              · rw [if_pos hmb, if_pos (show nI 1 = 1 from rfl), z1, go1, hmb]
                simp [hdk]
              · have hmb' : (M d).testBit e = false := by simpa using hmb
                rw [if_neg hmb, if_neg (show ¬ nI 0 = 1 by decide), z0, go0, hmb']
                simp
          · rw [if_pos (nI_le (by omega) (by omega)), z0, go0]
            simp [hdk]
      · rw [if_neg hb] at zs
        rw [if_neg hb, if_neg (show ¬ nI 0 = 1 by decide), zlet_eq, t4, zs]
        rw [zs] at hl
        exact ih (e + 1) n u fl (by omega) (by omega) hu hl
theorem wo18 {k : Nat} {M : Nat → Nat} {σ : zS} {s : Nat} (hk : k ≤ 4) (k4 : σ.1 105 36 = nI k) (hM : ∀ c, c < 4 → M c < 256 ∧ σ.1 125 c = nI (M c)) (hs : s < 256) (hl : (zev s).length ≤ 4) : ∀ q w N, w + q = 4 ^ (zev s).length → q < N → (∀ w0, w ≤ w0 → w0 < 4 ^ (zev s).length → zvl k M (zev s) 0 w0 = true → (∀ w', w ≤ w' → w' < w0 → zvl k M (zev s) 0 w' = false) → L_X11_wayOf_18 (nI s) σ (nI (zev s).length) N (nI w) = some (nI w0)) ∧ ((∀ w', w ≤ w' → w' < 4 ^ (zev s).length → zvl k M (zev s) 0 w' = false) → L_X11_wayOf_18 (nI s) σ (nI (zev s).length) N (nI w) = some (-4)) := by
  have p4 : 4 ^ (zev s).length ≤ 256 := Nat.le_trans (Nat.pow_le_pow_right (n := 4) (by omega) hl) (by decide)
  have b := wF2 ⟨(zev s).length, by omega⟩
  have b' : ((1 : Int32) <<< (((2 : Int32) * nI (zev s).length) &&& 31)) = nI (4 ^ (zev s).length) := b
  intro q
  induction q with
  | zero =>
    intro w N h hn
    cases N with
    | zero => omega
    | succ N =>
      refine ⟨fun w0 h1 h2 => absurd h1 (by omega), fun _ => ?_⟩
      rw [L_X11_wayOf_18, zlet_eq, b', if_pos (nI_le (by omega) (by omega))]
  | succ q ih =>
    intro w N h hn
    cases N with
    | zero => omega
    | succ N =>
      have t4 : nI w + 1 = nI (w + 1) := nI_add w 1
      obtain ⟨i1, i2⟩ := ih (w + 1) N (by omega) (by omega)
      have I := wi39 (w := w) hk k4 hM hs (by omega) (D_X11_wayOf_131 (L_X11_wayOf_18 (nI s) σ (nI (zev s).length) N) (nI w)) 8 0 4294967296 0 true (by omega) (by omega) (by omega) (by rw [zsu_0]; exact hl)
      rw [zsu_0, Bool.true_and, if_pos rfl] at I
      have step : L_X11_wayOf_18 (nI s) σ (nI (zev s).length) (N + 1) (nI w) = D_X11_wayOf_131 (L_X11_wayOf_18 (nI s) σ (nI (zev s).length) N) (nI w) (nI (if zvl k M (zev s) 0 w = true then 1 else 0)) := by
        rw [L_X11_wayOf_18, zlet_eq, b', if_neg (nI_ge (by omega) (by omega)), zlet_eq]
        exact I
      rw [step]
      unfold D_X11_wayOf_131
      rw [t4, zlet_eq]
      cases hz : zvl k M (zev s) 0 w
      · rw [if_pos (show nI (if false = true then 1 else 0) = 0 from rfl)]
        refine ⟨fun w0 h1 h2 h3 h4 => ?_, fun f => i2 fun w' h1 h2 => f w' (by omega) h2⟩
        have : w ≠ w0 := fun q => by rw [q, h3] at hz; cases hz
        exact i1 w0 (by omega) h2 h3 fun w' h5 h6 => h4 w' (by omega) h6
      · rw [if_pos rfl, if_neg (show ¬ nI 1 = 0 by decide)]
        refine ⟨fun w0 h1 h2 h3 h4 => ?_, fun f => ?_⟩
        · by_cases hww : w = w0
          · rw [hww]
          · have := h4 w (Nat.le_refl _) (by omega)
            rw [hz] at this
            cases this
        · have := f w (Nat.le_refl _) (by omega)
          rw [hz] at this
          cases this
/-- what the reference finds: nothing, or the greedy way -/
theorem way11 {k : Nat} {M : Nat → Nat} {σ : zS} {s : Nat} (hk : k ≤ 4) (k4 : σ.1 105 36 = nI k) (hM : ∀ c, c < 4 → M c < 256 ∧ σ.1 125 c = nI (M c)) (hs : s < 256) : (zfits k M s = true ∧ ∃ w, zGr k M (zev s) 0 w ∧ w < 4 ^ (zev s).length ∧ (zev s).length ≤ 4 ∧ J_X11_wayOf (nI s) σ = some (nI w)) ∨ (zfits k M s = false ∧ J_X11_wayOf (nI s) σ = some (-4)) := by
  have l := zF2 ⟨s, hs⟩
  have l' : pcn s 16 = (zev s).length := l
  have pl := pcn_le s 16
  unfold J_X11_wayOf
  rw [cof (by omega), zb_s, k4, l']
  rw [l'] at pl
  by_cases hp : (zev s).length ≤ k
  · rw [if_pos (nI_le hp (by omega))]
    have W := wo18 hk k4 hM hs (by omega) (4 ^ (zev s).length) 0 4294967296 (by omega) (by
      have : 4 ^ (zev s).length ≤ 4 ^ 4 := Nat.pow_le_pow_right (by omega) (by omega)
      have e : 4 ^ 4 = 256 := by decide
      omega)
    obtain ⟨Z1, Z2⟩ := zway (M := M) hk (zev s) 0
    cases hz : zcan k M (zev s) 0
    · right
      exact ⟨hz, W.2 fun w' _ h2 => Z2 hz w' h2⟩
    · left
      obtain ⟨w, g1, g2, g3, g4⟩ := Z1 hz
      exact ⟨hz, w, g1, g2, by omega, W.1 w (by omega) g2 g3 fun w' _ h2 => g4 w' h2⟩
  · rw [if_neg (nI_ge (by omega) (by omega))]
    right
    refine ⟨?_, rfl⟩
    cases hz : zfits k M s
    · rfl
    · have := zcan_len hk (zev s) 0 (Nat.pow_pos (by omega)) hz
      omega
