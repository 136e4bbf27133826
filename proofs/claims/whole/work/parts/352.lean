set_option maxRecDepth 8000
/-! ===== hot: choices of lines ===== -/
theorem zms_s (v : Nat → Nat) (s n : Nat) : zms v s (n + 1) = zms v s n + (if s.testBit n then v n else 0) := rfl
theorem pcn_ms (s n : Nat) : pcn s n = zms (fun _ => 1) s n := rfl
theorem zms_cg {v : Nat → Nat} {s t : Nat} : ∀ n, (∀ i, i < n → s.testBit i = t.testBit i) → zms v s n = zms v t n := by
  intro n
  induction n with
  | zero => intro _; rfl
  | succ n ih =>
    intro h
    rw [zms_s, zms_s, ih (fun i hi => h i (by omega)), h n (by omega)]
/-- the same from l on -/
theorem zms_hi {v : Nat → Nat} {s t l : Nat} (h : ∀ i, l ≤ i → s.testBit i = t.testBit i) : ∀ n, l ≤ n → zms v s n + zms v t l = zms v t n + zms v s l := by
  intro n
  induction n with
  | zero =>
    intro hl
    rw [show l = 0 by omega]
    omega
  | succ n ih =>
    intro hl
    by_cases e : l = n + 1
    · rw [e]; omega
    · have := ih (by omega)
      rw [zms_s, zms_s, h n (by omega)]
      omega
theorem zms_up {v : Nat → Nat} {s n : Nat} (hs : s < 2 ^ n) : ∀ m, n ≤ m → zms v s m = zms v s n := by
  intro m
  induction m with
  | zero => intro h; rw [show n = 0 by omega]
  | succ m ih =>
    intro h
    by_cases e : n = m + 1
    · rw [e]
    · rw [zms_s, ih (by omega), Nat.testBit_lt_two_pow (Nat.lt_of_lt_of_le hs (Nat.pow_le_pow_right (by omega) (show n ≤ m by omega)))]
      rfl
theorem zms_or {v : Nat → Nat} {s l : Nat} (h : s.testBit l = false) : ∀ n, zms v (s ||| 2 ^ l) n = zms v s n + (if l < n then v l else 0) := by
  intro n
  induction n with
  | zero => rfl
  | succ n ih =>
    rw [zms_s, zms_s, ih, Nat.testBit_or, two_b]
    by_cases e : l = n
    · subst e
      rw [h, if_neg (Nat.lt_irrefl l), if_pos (Nat.lt_succ_self l)]
      simp
    · have : decide (l = n) = false := decide_eq_false e
      rw [this, Bool.or_false]
      by_cases hl : l < n
      · rw [if_pos hl, if_pos (show l < n + 1 by omega)]; omega
      · rw [if_neg hl, if_neg (show ¬ l < n + 1 by omega)]; omega
theorem zms_le {v : Nat → Nat} {s : Nat} : ∀ n, zms v s n ≤ zsm v n := by
  intro n
  induction n with
  | zero => exact Nat.le_refl _
  | succ n ih =>
    rw [zms_s, zsm_s]
    split <;> omega
theorem bits_lt {s b j : Nat} (hb : b.testBit j = true) (hs : s.testBit j = false) (h : ∀ i, j < i → s.testBit i = b.testBit i) : s < b := by
  -- what lies above j is the same; below, s is less than the bit
  have e1 : s / 2 ^ (j + 1) = b / 2 ^ (j + 1) := by
    apply Nat.eq_of_testBit_eq
    intro i
    rw [Nat.testBit_div_two_pow, Nat.testBit_div_two_pow]
    exact h _ (by omega)
  have b1 : s / 2 ^ j % 2 = 0 := by
    rw [Nat.testBit_eq_decide_div_mod_eq] at hs
    have := of_decide_eq_false hs
    omega
  have b2 : b / 2 ^ j % 2 = 1 := by
    rw [Nat.testBit_eq_decide_div_mod_eq] at hb
    exact of_decide_eq_true hb
  have d1 : s / 2 ^ (j + 1) = s / 2 ^ j / 2 := by rw [Nat.pow_succ, Nat.div_div_eq_div_mul]
  have d2 : b / 2 ^ (j + 1) = b / 2 ^ j / 2 := by rw [Nat.pow_succ, Nat.div_div_eq_div_mul]
  have lt : s / 2 ^ j < b / 2 ^ j := by omega
  exact Nat.lt_of_div_lt_div lt
theorem shl16 : ∀ e : Fin 17, ((1 : Int32) <<< (nI e.val &&& 31)) = nI (2 ^ e.val) := by decide +kernel
/-! ===== the class's greedy choice ===== -/
theorem bl_ {p : Nat} {P : zM} {σ : zS} {e b g : Nat} (c : cPr σ.1 p P) (w : wPr P) (he : e < 8) (hb : b ≤ zpn P) (hg : g < 2 ^ 16) : ∀ q l n (x : Option Nat), l + q = b → q < n → (x = none → ∀ j, j < l → g.testBit j = true) → (∀ i, x = some i → i < l ∧ g.testBit i = false ∧ ∀ j, j < l → g.testBit j = false → zf P e j ≤ zf P e i) → (L_X3_bestLine_6 p (nI e) (nI b) (nI g) σ n (match x with | none => -1 | some i => nI i) (nI l) = some (-1) ∧ ∀ j, j < b → g.testBit j = true) ∨ ∃ i, i < b ∧ g.testBit i = false ∧ (∀ j, j < b → g.testBit j = false → zf P e j ≤ zf P e i) ∧ L_X3_bestLine_6 p (nI e) (nI b) (nI g) σ n (match x with | none => -1 | some i => nI i) (nI l) = some (nI i) := by
  have w1 := w.1
  intro q
  induction q with
  | zero =>
    intro l n x h hn h1 h2
    cases n with
    | zero => omega
    | succ n =>
      obtain rfl : l = b := by omega
      have t : nI l ≤ nI l := nI_le (Nat.le_refl _) (by omega)
      cases x with
      | none =>
        left
        refine ⟨?_, h1 rfl⟩
        rw [L_X3_bestLine_6, zlet_eq, if_pos t]
      | some i =>
        right
        obtain ⟨a1, a2, a3⟩ := h2 i rfl
        refine ⟨i, a1, a2, a3, ?_⟩
        rw [L_X3_bestLine_6, zlet_eq, if_pos t]
  | succ q ih =>
    intro l n x h hn h1 h2
    cases n with
    | zero => omega
    | succ n =>
      have t3 : ¬ nI b ≤ nI l := nI_ge (by omega) (by omega)
      have t4 : nI l + 1 = nI (l + 1) := nI_add l 1
      have tb := tb31 (s := g) (e := l) (by omega) (by omega)
      cases hgl : g.testBit l
      · rw [hgl] at tb
        have tb' : ((nI g >>> (nI l &&& 31)) &&& 1 : Int32) = 0 := tb
        cases x with
        | none =>
          have I := ih (l + 1) n (some l) (by omega) (by omega) (fun q => by cases q) (fun i hi => by
            cases hi
            refine ⟨by omega, hgl, fun j hj hj2 => ?_⟩
            by_cases ej : j = l
            · rw [ej]; exact Nat.le_refl _
            · have := h1 rfl j (by omega)
              rw [hj2] at this
              cases this)
          have step : L_X3_bestLine_6 p (nI e) (nI b) (nI g) σ (n + 1) (-1) (nI l) = L_X3_bestLine_6 p (nI e) (nI b) (nI g) σ n (nI l) (nI (l + 1)) := by
            rw [L_X3_bestLine_6, zlet_eq, if_neg t3, tb', if_pos rfl, if_pos (by decide), t4, zlet_eq]
          show (L_X3_bestLine_6 p (nI e) (nI b) (nI g) σ (n + 1) (-1) (nI l) = _ ∧ _) ∨ ∃ i, _ ∧ _ ∧ _ ∧ L_X3_bestLine_6 p (nI e) (nI b) (nI g) σ (n + 1) (-1) (nI l) = _
          rw [step]
          exact I
        | some i =>
          obtain ⟨a1, a2, a3⟩ := h2 i rfl
          have m1 := made3 (e := e) c w.1 (show l < 16 by omega) he
          have m2 := made3 (e := e) c w.1 (show i < 16 by omega) he
          rw [if_pos (by omega)] at m1 m2
          have v1 := zf_le w he (show l < zpn P by omega)
          have v2 := zf_le w he (show i < zpn P by omega)
          by_cases hc : zf P e l ≤ zf P e i
          · have I := ih (l + 1) n (some i) (by omega) (by omega) (fun q => by cases q) (fun i' hi => by
              cases hi
              refine ⟨by omega, a2, fun j hj hj2 => ?_⟩
              by_cases ej : j = l
              · rw [ej]; exact hc
              · exact a3 j (by omega) hj2)
            have step : L_X3_bestLine_6 p (nI e) (nI b) (nI g) σ (n + 1) (nI i) (nI l) = L_X3_bestLine_6 p (nI e) (nI b) (nI g) σ n (nI i) (nI (l + 1)) := by
              rw [L_X3_bestLine_6, zlet_eq, if_neg t3, tb', if_pos rfl, if_neg (nI_pos (by omega)), m1, m2, zb_s, zb_s, if_pos (nI_le hc (by omega)), t4, zlet_eq]
            show (L_X3_bestLine_6 p (nI e) (nI b) (nI g) σ (n + 1) (nI i) (nI l) = _ ∧ _) ∨ ∃ i', _ ∧ _ ∧ _ ∧ L_X3_bestLine_6 p (nI e) (nI b) (nI g) σ (n + 1) (nI i) (nI l) = _
            rw [step]
            exact I
          · have I := ih (l + 1) n (some l) (by omega) (by omega) (fun q => by cases q) (fun i' hi => by
              cases hi
              refine ⟨by omega, hgl, fun j hj hj2 => ?_⟩
              by_cases ej : j = l
              · rw [ej]; exact Nat.le_refl _
              · have := a3 j (by omega) hj2
                omega)
            have step : L_X3_bestLine_6 p (nI e) (nI b) (nI g) σ (n + 1) (nI i) (nI l) = L_X3_bestLine_6 p (nI e) (nI b) (nI g) σ n (nI l) (nI (l + 1)) := by
              rw [L_X3_bestLine_6, zlet_eq, if_neg t3, tb', if_pos rfl, if_neg (nI_pos (by omega)), m1, m2, zb_s, zb_s, if_neg (nI_ge (by omega) (by omega)), t4, zlet_eq]
            show (L_X3_bestLine_6 p (nI e) (nI b) (nI g) σ (n + 1) (nI i) (nI l) = _ ∧ _) ∨ ∃ i', _ ∧ _ ∧ _ ∧ L_X3_bestLine_6 p (nI e) (nI b) (nI g) σ (n + 1) (nI i) (nI l) = _
            rw [step]
            exact I
      · rw [hgl] at tb
        have tb' : ((nI g >>> (nI l &&& 31)) &&& 1 : Int32) = nI 1 := tb
        have I := ih (l + 1) n x (by omega) (by omega) (fun q j hj => by
          by_cases ej : j = l
          · rw [ej]; exact hgl
          · exact h1 q j (by omega)) (fun i hi => by
          obtain ⟨a1, a2, a3⟩ := h2 i hi
          refine ⟨by omega, a2, fun j hj hj2 => ?_⟩
          by_cases ej : j = l
          · rw [ej, hgl] at hj2
            cases hj2
          · exact a3 j (by omega) hj2)
        have step : ∀ y, L_X3_bestLine_6 p (nI e) (nI b) (nI g) σ (n + 1) y (nI l) = L_X3_bestLine_6 p (nI e) (nI b) (nI g) σ n y (nI (l + 1)) := by
          intro y
          rw [L_X3_bestLine_6, zlet_eq, if_neg t3, tb', if_neg (show ¬ nI 1 = 0 by decide), t4, zlet_eq]
        rw [step]
        exact I
/-- greedy: so many are chosen, with a threshold -/
def zgy (v : Nat → Nat) (b g i : Nat) : Prop := g < 2 ^ b ∧ pcn g b = min i b ∧ ∃ tau, (∀ l, l < b → g.testBit l = true → tau ≤ v l) ∧ ∀ l, l < b → g.testBit l = false → v l ≤ tau
theorem mo_ {p : Nat} {P : zM} {σ : zS} {e b m : Nat} (c : cPr σ.1 p P) (w : wPr P) (he : e < 8) (hb : b ≤ zpn P) (hm : m ≤ 16) : ∀ q i n g, i + q = m → q < n → zgy (zf P e) b g i → ∃ g', L_X3_mostOf_9 p (nI e) (nI b) (nI m) σ n (nI (zms (zf P e) g b)) (nI g) (nI i) = some (nI (zms (zf P e) g' b)) ∧ zgy (zf P e) b g' m := by
  have w1 := w.1
  have p16 : 2 ^ b ≤ 2 ^ 16 := Nat.pow_le_pow_right (by omega) (by omega)
  intro q
  induction q with
  | zero =>
    intro i n g h hn hg
    cases n with
    | zero => omega
    | succ n =>
      obtain rfl : i = m := by omega
      refine ⟨g, ?_, hg⟩
      rw [L_X3_mostOf_9, zlet_eq, if_pos (nI_le (Nat.le_refl _) (by omega))]
  | succ q ih =>
    intro i n g h hn hg
    cases n with
    | zero => omega
    | succ n =>
      have t3 : ¬ nI m ≤ nI i := nI_ge (by omega) (by omega)
      have t4 : nI i + 1 = nI (i + 1) := nI_add i 1
      obtain ⟨g1, g2, tau, g3, g4⟩ := hg
      have B : (J_X3_bestLine p (nI e) (nI b) (nI g) σ = some (-1) ∧ ∀ j, j < b → g.testBit j = true) ∨ ∃ i, i < b ∧ g.testBit i = false ∧ (∀ j, j < b → g.testBit j = false → zf P e j ≤ zf P e i) ∧ J_X3_bestLine p (nI e) (nI b) (nI g) σ = some (nI i) := bl_ c w he hb (by omega) b 0 4294967296 none (by omega) (by omega) (fun _ j hj => by omega) (fun i hi => by cases hi)
      rw [L_X3_mostOf_9, zlet_eq, if_neg t3]
      rcases B with ⟨B1, B2⟩ | ⟨l, l1, l2, l3, B1⟩
      · rw [B1, zb_s, if_pos (by decide), t4, zlet_eq]
        refine ih (i + 1) n g (by omega) (by omega) ⟨g1, ?_, tau, g3, g4⟩
        have : pcn g b = b := by
          have : ∀ n, n ≤ b → pcn g n = n := by
            intro n
            induction n with
            | zero => intro _; rfl
            | succ n ihn =>
              intro hn
              have u : pcn g (n + 1) = pcn g n + (if g.testBit n then 1 else 0) := rfl
              rw [u, ihn (by omega), B2 n (by omega)]
              rfl
          exact this b (Nat.le_refl _)
        omega
      · have m1 := made3 (e := e) c w.1 (show l < 16 by omega) he
        rw [if_pos (by omega)] at m1
        have sh := shl16 ⟨l, by omega⟩
        have sh' : ((1 : Int32) <<< (nI l &&& 31)) = nI (2 ^ l) := sh
        have o1 := zms_or (v := zf P e) l2 b
        have o2 := zms_or (v := fun _ => 1) l2 b
        rw [if_pos l1] at o1 o2
        have a1 : nI (zms (zf P e) g b) + nI (zf P e l) = nI (zms (zf P e) (g ||| 2 ^ l) b) := by rw [o1]; exact nI_add _ _
        rw [B1, zb_s, if_neg (nI_pos (by omega)), sh', nI_or, zlet_eq, m1, zb_s, a1, zlet_eq, t4, zlet_eq]
        have pl : pcn (g ||| 2 ^ l) b = pcn g b + 1 := o2
        have lt : pcn g b < b := by
          have u := pcn_le (g ||| 2 ^ l) b
          omega
        refine ih (i + 1) n (g ||| 2 ^ l) (by omega) (by omega) ⟨Nat.or_lt_two_pow g1 (Nat.pow_lt_pow_right (by omega) l1), by omega, zf P e l, fun j hj hj2 => ?_, fun j hj hj2 => ?_⟩
        · rw [Nat.testBit_or, two_b] at hj2
          by_cases ej : l = j
          · rw [ej]; exact Nat.le_refl _
          · simp [ej] at hj2
            exact Nat.le_trans (g4 l l1 l2) (g3 j hj hj2)
        · rw [Nat.testBit_or] at hj2
          cases hgj : g.testBit j
          · exact l3 j hj hgj
          · rw [hgj, Bool.true_or] at hj2
            cases hj2
/-- what so many of the lines below one make at most -/
theorem most_ {p : Nat} {P : zM} {σ : zS} {e b m : Nat} (c : cPr σ.1 p P) (w : wPr P) (he : e < 8) (hb : b ≤ zpn P) (hm : m ≤ 16) : ∃ g, J_X3_mostOf p (nI e) (nI b) (nI m) σ = some (nI (zms (zf P e) g b)) ∧ g < 2 ^ b ∧ pcn g b ≤ m ∧ ∀ s, pcn s b ≤ m → zms (zf P e) s b ≤ zms (zf P e) g b := by
  have z0 : ∀ b, zms (zf P e) 0 b = 0 := by
    intro b
    induction b with
    | zero => rfl
    | succ b ih => rw [zms_s, ih, Nat.zero_testBit]; rfl
  have y0 : ∀ b, pcn 0 b = 0 := by
    intro b
    induction b with
    | zero => rfl
    | succ b ih =>
      have u : pcn 0 (b + 1) = pcn 0 b + (if Nat.testBit 0 b then 1 else 0) := rfl
      rw [u, ih, Nat.zero_testBit]
      rfl
  obtain ⟨g, g1, g2, g3, tau, g4, g5⟩ := mo_ (m := m) c w he hb hm m 0 4294967296 0 (by omega) (by omega) ⟨Nat.pow_pos (by omega), by rw [y0]; omega, zsm (zf P e) b, (fun l _ h => by rw [Nat.zero_testBit] at h; cases h), fun l hl _ => zsm_at hl⟩
  rw [z0] at g1
  refine ⟨g, g1, g2, by omega, fun s hs => thr_le g4 g5 ?_⟩
  have := pcn_le s b
  omega
