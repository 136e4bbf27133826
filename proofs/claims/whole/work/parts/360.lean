set_option maxRecDepth 8000
/-! ===== the tape's bytes, and tokens ===== -/
def zsb (x : Nat) : Int32 := (nI x).toInt8.toInt32
theorem sbF : ∀ x : Fin 256, (zsb x.val = 32 ↔ x.val = 32) ∧ (zsb x.val = 59 ↔ x.val = 59) ∧ (if zsb x.val < 97 then (0 : Int32) else if 122 < zsb x.val then 0 else 1) = (if 97 ≤ x.val ∧ x.val ≤ 122 then 1 else 0) ∧ (if zsb x.val < 48 then (0 : Int32) else if 57 < zsb x.val then 0 else 1) = (if 48 ≤ x.val ∧ x.val ≤ 57 then 1 else 0) ∧ (x.val < 128 → zsb x.val = nI x.val) := by decide +kernel
def cT (σ : zS) (n : Nat) (b : Nat → Nat) : Prop := σ.1 1 1 = nI n ∧ ∀ j, j < n → σ.1 2 j = zsb (b j)
def mT (σ : zS) (n : Nat) (b : Nat → Nat) : Prop := σ.1 105 25 = nI n ∧ ∀ j, j < n → σ.1 121 j = nI (b j)
def bT (n : Nat) (b : Nat → Nat) : Prop := n ≤ 320 ∧ ∀ j, j < n → b j < 256
theorem il_ {x : Nat} (hx : x < 256) (σ : zS) : J_X4_isLetter (zsb x) σ = some (if 97 ≤ x ∧ x ≤ 122 then 1 else 0) := by
  have h := (sbF ⟨x, hx⟩).2.2.1
  rw [← show (if zsb x < 97 then (0 : Int32) else if 122 < zsb x then 0 else 1) = (if 97 ≤ x ∧ x ≤ 122 then 1 else 0) from h]
  unfold J_X4_isLetter
  split
  · rfl
  · split <;> rfl
theorem if_ {x : Nat} (hx : x < 256) (σ : zS) : J_X4_isFigure (zsb x) σ = some (if 48 ≤ x ∧ x ≤ 57 then 1 else 0) := by
  have h := (sbF ⟨x, hx⟩).2.2.2.1
  rw [← show (if zsb x < 48 then (0 : Int32) else if 57 < zsb x then 0 else 1) = (if 48 ≤ x ∧ x ≤ 57 then 1 else 0) from h]
  unfold J_X4_isFigure
  split
  · rfl
  · split <;> rfl
def ztl (n : Nat) (b : Nat → Nat) (p : Nat) : Int32 := if p < n then nI (b p) else -1
theorem look_ {n p : Nat} {b : Nat → Nat} {σ : zS} (B : bT n b) (m : mT σ n b) (hp : p ≤ 1000) : J_X11_look (nI p) σ = some (ztl n b p) := by
  have B1 := B.1
  unfold J_X11_look ztl
  rw [m.1]
  by_cases h : p < n
  · rw [if_neg (nI_ge h (by omega)), if_pos h, zi_nI (by omega) (by omega), zg_t, zcla (by omega), m.2 p h]
  · rw [if_pos (nI_le (by omega) (by omega)), if_neg h]
theorem inb {x lo hi : Nat} {σ : zS} {y z : Int64} (hx : x < 256) (hy : y = lN lo) (hz : z = lN hi) (hl : lo < 256) (hh : hi < 256) : J_X11_in (nI x).toInt64 y z σ = some (if lo ≤ x ∧ x ≤ hi then 1 else 0) := by
  by_cases h : lo ≤ x ∧ x ≤ hi
  · rw [if_pos h]
    exact zin_y ⟨x, h.1, h.2, rfl⟩ hy hz (by omega) (by omega)
  · rw [if_neg h]
    refine zin_n ?_ hy hz (by omega) (by omega)
    rintro ⟨j, h1, h2, h3⟩
    have := (nI_eq (by omega) (by omega)).mp h3
    omega
theorem inlt {n p : Nat} {b : Nat → Nat} {σ : zS} (B : bT n b) : J_X11_in (ztl n b p).toInt64 97 122 σ = some (if p < n ∧ 97 ≤ b p ∧ b p ≤ 122 then 1 else 0) := by
  unfold ztl
  by_cases h : p < n
  · rw [if_pos h, inb (lo := 97) (hi := 122) (y := 97) (z := 122) (B.2 p h) rfl rfl (by omega) (by omega)]
    simp [h]
  · rw [if_neg h]
    simp only [h, false_and, if_false]
    rw [zin_eq]
    rfl
theorem infg {n p : Nat} {b : Nat → Nat} {σ : zS} (B : bT n b) : J_X11_in (ztl n b p).toInt64 48 57 σ = some (if p < n ∧ 48 ≤ b p ∧ b p ≤ 57 then 1 else 0) := by
  unfold ztl
  by_cases h : p < n
  · rw [if_pos h, inb (lo := 48) (hi := 57) (y := 48) (z := 57) (B.2 p h) rfl rfl (by omega) (by omega)]
    simp [h]
  · rw [if_neg h]
    simp only [h, false_and, if_false]
    rw [zin_eq]
    rfl
theorem run_ (Q : Nat → Prop) {n : Nat} : ∀ d p, p + d = n → ∃ e, p ≤ e ∧ e ≤ n ∧ (∀ j, p ≤ j → j < e → Q j) ∧ (e < n → ¬ Q e) := by
  intro d
  induction d with
  | zero => intro p h; exact ⟨p, Nat.le_refl _, by omega, fun j h1 h2 => by omega, fun h => by omega⟩
  | succ d ih =>
    intro p h
    by_cases hq : Q p
    · obtain ⟨e, e1, e2, e3, e4⟩ := ih (p + 1) (by omega)
      refine ⟨e, by omega, e2, fun j h1 h2 => ?_, e4⟩
      by_cases ej : j = p
      · rw [ej]; exact hq
      · exact e3 j (by omega) h2
    · exact ⟨p, Nat.le_refl _, by omega, fun j h1 h2 => by omega, fun _ => hq⟩
/-- blanks -/
theorem csk {n s : Nat} {b : Nat → Nat} {K : zS → Option zS} (B : bT n b) (hs : s ≤ n) (he : s < n → ¬ b s = 32) : ∀ d p N σ, p + d = s → d < N → cT σ n b → σ.1 63 2 = nI p → (∀ j, p ≤ j → j < s → b j = 32) → ∃ σ', L_X4_takeToken_0 K N σ = K σ' ∧ σ'.1 63 2 = nI s ∧ σ'.2 = σ.2 ∧ ∀ c i, ¬ (c = 63 ∧ i = 2) → σ'.1 c i = σ.1 c i := by
  have B1 := B.1
  intro d
  induction d with
  | zero =>
    intro p N σ h hN t hp hb
    cases N with
    | zero => omega
    | succ N =>
      obtain rfl : p = s := by omega
      refine ⟨σ, ?_, hp, rfl, fun _ _ _ => rfl⟩
      rw [L_X4_takeToken_0, zlet_eq, t.1, hp]
      by_cases h : p < n
      · have ne : ¬ zsb (b p) = 32 := fun q => he h ((sbF ⟨b p, B.2 p h⟩).1.mp q)
        rw [if_neg (nI_ge h (by omega)), zi_nI (by omega) (by omega), zg_t, zcla (by omega), t.2 p h, if_neg ne]
      · rw [if_pos (nI_le (by omega) (by omega))]
  | succ d ih =>
    intro p N σ h hN t hp hb
    cases N with
    | zero => omega
    | succ N =>
      have hpn : p < n := by omega
      have t4 : nI p + 1 = nI (p + 1) := nI_add p 1
      have e : zsb (b p) = 32 := (sbF ⟨b p, B.2 p hpn⟩).1.mpr (hb p (Nat.le_refl _) (by omega))
      obtain ⟨σ', e1, e2, e3, e4⟩ := ih (p + 1) N (zsI σ 63 2 (nI (p + 1))) (by omega) (by omega) ⟨by rw [zI_n (by omega)]; exact t.1, fun j hj => by rw [zI_n (by omega)]; exact t.2 j hj⟩ zI_y (fun j h1 h2 => hb j (by omega) h2)
      refine ⟨σ', ?_, e2, e3, fun c i hc => by rw [e4 c i hc, zI_n hc]⟩
      rw [L_X4_takeToken_0, zlet_eq, t.1, hp, if_neg (nI_ge hpn (by omega)), zi_nI (by omega) (by omega), zg_t, zcla (by omega), t.2 p hpn, if_pos e, t4, zlet_eq]
      exact e1
theorem msk {n s : Nat} {b : Nat → Nat} {K : zS → Option zS} (B : bT n b) (hs : s ≤ n) (he : s < n → ¬ b s = 32) : ∀ d p N σ, p + d = s → d < N → mT σ n b → σ.1 105 26 = nI p → (∀ j, p ≤ j → j < s → b j = 32) → ∃ σ', L_X11_next_8 K N σ = K σ' ∧ σ'.1 105 26 = nI s ∧ σ'.2 = σ.2 ∧ ∀ c i, ¬ (c = 105 ∧ i = 26) → σ'.1 c i = σ.1 c i := by
  have B1 := B.1
  intro d
  induction d with
  | zero =>
    intro p N σ h hN t hp hb
    cases N with
    | zero => omega
    | succ N =>
      obtain rfl : p = s := by omega
      refine ⟨σ, ?_, hp, rfl, fun _ _ _ => rfl⟩
      rw [L_X11_next_8, zlet_eq, hp, look_ B t (by omega), zb_s]
      unfold ztl
      by_cases h : p < n
      · have ne : ¬ nI (b p) = (32 : Int32) := fun q => he h ((nI_eq (a := b p) (b := 32) (by have := B.2 p h; omega) (by omega)).mp q)
        rw [if_pos h, if_neg ne]
      · rw [if_neg h, if_neg (by decide)]
  | succ d ih =>
    intro p N σ h hN t hp hb
    cases N with
    | zero => omega
    | succ N =>
      have hpn : p < n := by omega
      have t4 : nI p + 1 = nI (p + 1) := nI_add p 1
      have e : b p = 32 := hb p (Nat.le_refl _) (by omega)
      obtain ⟨σ', e1, e2, e3, e4⟩ := ih (p + 1) N (zsI σ 105 26 (nI (p + 1))) (by omega) (by omega) ⟨by rw [zI_n (by omega)]; exact t.1, fun j hj => by rw [zI_n (by omega)]; exact t.2 j hj⟩ zI_y (fun j h1 h2 => hb j (by omega) h2)
      refine ⟨σ', ?_, e2, e3, fun c i hc => by rw [e4 c i hc, zI_n hc]⟩
      rw [L_X11_next_8, zlet_eq, hp, look_ B t (by omega), zb_s]
      unfold ztl
      rw [if_pos hpn, e, if_pos (show nI 32 = (32 : Int32) from rfl), t4, zlet_eq]
      exact e1
/-- letters -/
theorem clt {n s : Nat} {b : Nat → Nat} (B : bT n b) (hs : s ≤ n) (he : s < n → ¬ (97 ≤ b s ∧ b s ≤ 122)) : ∀ d p N σ, p + d = s → d < N → cT σ n b → σ.1 63 2 = nI p → (∀ j, p ≤ j → j < s → 97 ≤ b j ∧ b j ≤ 122) → ∃ σ', L_X4_takeLetters_5 N σ = some σ' ∧ σ'.1 63 2 = nI s ∧ σ'.2 = σ.2 ∧ ∀ c i, ¬ (c = 63 ∧ i = 2) → σ'.1 c i = σ.1 c i := by
  have B1 := B.1
  intro d
  induction d with
  | zero =>
    intro p N σ h hN t hp hb
    cases N with
    | zero => omega
    | succ N =>
      obtain rfl : p = s := by omega
      refine ⟨σ, ?_, hp, rfl, fun _ _ _ => rfl⟩
      rw [L_X4_takeLetters_5, zlet_eq, t.1, hp]
      by_cases h : p < n
      · rw [if_neg (nI_ge h (by omega)), zi_nI (by omega) (by omega), zg_t, zcla (by omega), t.2 p h, il_ (B.2 p h), zb_s, if_neg (he h), if_pos rfl]
      · rw [if_pos (nI_le (by omega) (by omega))]
  | succ d ih =>
    intro p N σ h hN t hp hb
    cases N with
    | zero => omega
    | succ N =>
      have hpn : p < n := by omega
      have t4 : nI p + 1 = nI (p + 1) := nI_add p 1
      obtain ⟨σ', e1, e2, e3, e4⟩ := ih (p + 1) N (zsI σ 63 2 (nI (p + 1))) (by omega) (by omega) ⟨by rw [zI_n (by omega)]; exact t.1, fun j hj => by rw [zI_n (by omega)]; exact t.2 j hj⟩ zI_y (fun j h1 h2 => hb j (by omega) h2)
      refine ⟨σ', ?_, e2, e3, fun c i hc => by rw [e4 c i hc, zI_n hc]⟩
      rw [L_X4_takeLetters_5, zlet_eq, t.1, hp, if_neg (nI_ge hpn (by omega)), zi_nI (by omega) (by omega), zg_t, zcla (by omega), t.2 p hpn, il_ (B.2 p hpn), zb_s, if_pos (hb p (Nat.le_refl _) (by omega)), if_neg (show ¬ (1 : Int32) = 0 by decide), t4, zlet_eq]
      exact e1
theorem mlt {n s : Nat} {b : Nat → Nat} (B : bT n b) (hs : s ≤ n) (he : s < n → ¬ (97 ≤ b s ∧ b s ≤ 122)) : ∀ d p N σ, p + d = s → d < N → mT σ n b → σ.1 105 26 = nI p → (∀ j, p ≤ j → j < s → 97 ≤ b j ∧ b j ≤ 122) → ∃ σ', L_X11_next_82 N σ = some σ' ∧ σ'.1 105 26 = nI s ∧ σ'.2 = σ.2 ∧ ∀ c i, ¬ (c = 105 ∧ i = 26) → σ'.1 c i = σ.1 c i := by
  have B1 := B.1
  intro d
  induction d with
  | zero =>
    intro p N σ h hN t hp hb
    cases N with
    | zero => omega
    | succ N =>
      obtain rfl : p = s := by omega
      refine ⟨σ, ?_, hp, rfl, fun _ _ _ => rfl⟩
      rw [L_X11_next_82, zlet_eq, hp, look_ B t (by omega), zb_s, inlt B, zb_s, if_neg (show ¬ (p < n ∧ 97 ≤ b p ∧ b p ≤ 122) from fun q => he q.1 q.2), if_pos rfl]
  | succ d ih =>
    intro p N σ h hN t hp hb
    cases N with
    | zero => omega
    | succ N =>
      have hpn : p < n := by omega
      have t4 : nI p + 1 = nI (p + 1) := nI_add p 1
      obtain ⟨σ', e1, e2, e3, e4⟩ := ih (p + 1) N (zsI σ 105 26 (nI (p + 1))) (by omega) (by omega) ⟨by rw [zI_n (by omega)]; exact t.1, fun j hj => by rw [zI_n (by omega)]; exact t.2 j hj⟩ zI_y (fun j h1 h2 => hb j (by omega) h2)
      refine ⟨σ', ?_, e2, e3, fun c i hc => by rw [e4 c i hc, zI_n hc]⟩
      rw [L_X11_next_82, zlet_eq, hp, look_ B t (by omega), zb_s, inlt B, zb_s, if_pos (show p < n ∧ 97 ≤ b p ∧ b p ≤ 122 from ⟨hpn, hb p (Nat.le_refl _) (by omega)⟩), if_neg (show ¬ (1 : Int32) = 0 by decide), t4, zlet_eq]
      exact e1
/-- figures -/
def zfv (b : Nat → Nat) (s : Nat) : Nat → Nat
  | 0 => 0
  | 1 => b s - 48
  | _ => (b s - 48) * 10 + (b (s + 1) - 48)
theorem zfv_s {b : Nat → Nat} {s j : Nat} (h0 : 48 ≤ b s) (h1 : j = 1 → 48 ≤ b (s + 1)) (hj : j < 2) : zfv b s (j + 1) = zfv b s j * 10 + b (s + j) - 48 := by
  obtain rfl | rfl : j = 0 ∨ j = 1 := by omega
  · show b s - 48 = 0 * 10 + b (s + 0) - 48
    rw [Nat.add_zero]
    omega
  · have := h1 rfl
    show (b s - 48) * 10 + (b (s + 1) - 48) = (b s - 48) * 10 + b (s + 1) - 48
    omega
theorem zfv_2 {b : Nat → Nat} {s j : Nat} (hj : 2 ≤ j) : zfv b s (j + 1) = zfv b s j := by
  obtain ⟨i, rfl⟩ : ∃ i, j = i + 2 := ⟨j - 2, by omega⟩
  rfl
theorem zfv_b {b : Nat → Nat} {s e : Nat} (hb : ∀ j, s ≤ j → j < e → 48 ≤ b j ∧ b j ≤ 57) : ∀ j, s + j ≤ e → zfv b s j ≤ 99 := by
  intro j hj
  match j with
  | 0 => exact Nat.zero_le _
  | 1 =>
    have := hb s (by omega) (by omega)
    show b s - 48 ≤ 99
    omega
  | i + 2 =>
    have := hb s (by omega) (by omega)
    have := hb (s + 1) (by omega) (by omega)
    show (b s - 48) * 10 + (b (s + 1) - 48) ≤ 99
    omega
theorem cfg {n s e : Nat} {b : Nat → Nat} {K : zS → Option zS} (B : bT n b) (hs : e ≤ n) (he : e < n → ¬ (48 ≤ b e ∧ b e ≤ 57)) (hb : ∀ j, s ≤ j → j < e → 48 ≤ b j ∧ b j ≤ 57) : ∀ d p N σ, p + d = e → d < N → s ≤ p → cT σ n b → σ.1 63 2 = nI p → σ.1 63 4 = nI s → σ.1 63 5 = nI (zfv b s (p - s)) → ∃ σ', L_X4_takeFigures_10 K N σ = K σ' ∧ σ'.1 63 2 = nI e ∧ σ'.1 63 5 = nI (zfv b s (e - s)) ∧ σ'.2 = σ.2 ∧ ∀ c i, ¬ (c = 63 ∧ (i = 2 ∨ i = 5)) → σ'.1 c i = σ.1 c i := by
  have B1 := B.1
  intro d
  induction d with
  | zero =>
    intro p N σ h hN sp t hp h4 h5
    cases N with
    | zero => omega
    | succ N =>
      obtain rfl : p = e := by omega
      refine ⟨σ, ?_, hp, h5, rfl, fun _ _ _ => rfl⟩
      rw [L_X4_takeFigures_10, zlet_eq, t.1, hp]
      by_cases h : p < n
      · rw [if_neg (nI_ge h (by omega)), zi_nI (by omega) (by omega), zg_t, zcla (by omega), t.2 p h, if_ (B.2 p h), zb_s, if_neg (he h), if_pos rfl]
      · rw [if_pos (nI_le (by omega) (by omega))]
  | succ d ih =>
    intro p N σ h hN sp t hp h4 h5
    cases N with
    | zero => omega
    | succ N =>
      have hpn : p < n := by omega
      have t4 : nI p + 1 = nI (p + 1) := nI_add p 1
      have sub : nI p - nI s = nI (p - s) := pk_sub sp
      have hbp := hb p sp (by omega)
      have hbs := hb s (Nat.le_refl _) (by omega)
      have zl := zfv_b hb (p - s) (by omega)
      have e0 : zsb (b p) = nI (b p) := (sbF ⟨b p, B.2 p hpn⟩).2.2.2.2 (show b p < 128 by omega)
      rw [L_X4_takeFigures_10, zlet_eq, t.1, hp, if_neg (nI_ge hpn (by omega)), zi_nI (by omega) (by omega), zg_t, zcla (by omega), t.2 p hpn, if_ (B.2 p hpn), zb_s, if_pos hbp, if_neg (show ¬ (1 : Int32) = 0 by decide), zlet_eq, h4, sub]
      by_cases h2 : 2 ≤ p - s
      · rw [if_pos (show (2 : Int32) ≤ nI (p - s) from nI_le (a := 2) h2 (by omega))]
        unfold D_X4_takeFigures_82
        rw [hp, t4, zlet_eq]
        obtain ⟨σ', e1, e2, e3, e4, e5⟩ := ih (p + 1) N (zsI σ 63 2 (nI (p + 1))) (by omega) (by omega) (by omega) ⟨by rw [zI_n (by omega)]; exact t.1, fun j hj => by rw [zI_n (by omega)]; exact t.2 j hj⟩ zI_y (by rw [zI_n (by omega)]; exact h4) (by rw [zI_n (by omega), h5, show p + 1 - s = p - s + 1 by omega, zfv_2 h2])
        exact ⟨σ', e1, e2, e3, e4, fun c i hc => by rw [e5 c i hc, zI_n (by omega)]⟩
      · have hj : p - s < 2 := by omega
        have sv := zfv_s (b := b) (s := s) (j := p - s) hbs.1 (fun q => by
          have := hb (s + 1) (by omega) (by omega)
          exact this.1) hj
        rw [show s + (p - s) = p by omega] at sv
        have v1 : nI (zfv b s (p - s)) * 10 + nI (b p) - 48 = nI (zfv b s (p - s + 1)) := by
          have q1 : nI (zfv b s (p - s)) * 10 = nI (zfv b s (p - s) * 10) := pk_mul _ 10
          have q2 : nI (zfv b s (p - s) * 10) + nI (b p) = nI (zfv b s (p - s) * 10 + b p) := nI_add _ _
          have q3 : nI (zfv b s (p - s) * 10 + b p) - 48 = nI (zfv b s (p - s) * 10 + b p - 48) := pk_sub (b := 48) (by omega)
          rw [q1, q2, q3, sv]
        rw [if_neg (show ¬ (2 : Int32) ≤ nI (p - s) from nI_ge (b := 2) (by omega) (by omega)), zg_t, h5, e0, v1, zlet_eq]
        unfold D_X4_takeFigures_82
        rw [zI_n (by omega), hp, t4, zlet_eq]
        obtain ⟨σ', e1, e2, e3, e4, e5⟩ := ih (p + 1) N (zsI (zsI σ 63 5 (nI (zfv b s (p - s + 1)))) 63 2 (nI (p + 1))) (by omega) (by omega) (by omega) ⟨by rw [zI_n (by omega), zI_n (by omega)]; exact t.1, fun j hj => by rw [zI_n (by omega), zI_n (by omega)]; exact t.2 j hj⟩ zI_y (by rw [zI_n (by omega), zI_n (by omega)]; exact h4) (by rw [zI_n (by omega), zI_y, show p + 1 - s = p - s + 1 by omega])
        exact ⟨σ', e1, e2, e3, e4, fun c i hc => by rw [e5 c i hc, zI_n (by omega), zI_n (by omega)]⟩
theorem mfg {n s e : Nat} {b : Nat → Nat} {K : zS → Option zS} (B : bT n b) (hs : e ≤ n) (he : e < n → ¬ (48 ≤ b e ∧ b e ≤ 57)) (hb : ∀ j, s ≤ j → j < e → 48 ≤ b j ∧ b j ≤ 57) : ∀ d p N σ, p + d = e → d < N → s ≤ p → mT σ n b → σ.1 105 26 = nI p → σ.1 105 27 = nI s → σ.1 105 29 = nI (zfv b s (p - s)) → ∃ σ', L_X11_next_140 K N σ = K σ' ∧ σ'.1 105 26 = nI e ∧ σ'.1 105 29 = nI (zfv b s (e - s)) ∧ σ'.2 = σ.2 ∧ ∀ c i, ¬ (c = 105 ∧ (i = 26 ∨ i = 29)) → σ'.1 c i = σ.1 c i := by
  have B1 := B.1
  intro d
  induction d with
  | zero =>
    intro p N σ h hN sp t hp h4 h5
    cases N with
    | zero => omega
    | succ N =>
      obtain rfl : p = e := by omega
      refine ⟨σ, ?_, hp, h5, rfl, fun _ _ _ => rfl⟩
      rw [L_X11_next_140, zlet_eq, hp, look_ B t (by omega), zb_s, infg B, zb_s, if_neg (show ¬ (p < n ∧ 48 ≤ b p ∧ b p ≤ 57) from fun q => he q.1 q.2), if_pos rfl]
  | succ d ih =>
    intro p N σ h hN sp t hp h4 h5
    cases N with
    | zero => omega
    | succ N =>
      have hpn : p < n := by omega
      have t4 : nI p + 1 = nI (p + 1) := nI_add p 1
      have sub : nI p - nI s = nI (p - s) := pk_sub sp
      have hbp := hb p sp (by omega)
      have hbs := hb s (Nat.le_refl _) (by omega)
      have zl := zfv_b hb (p - s) (by omega)
      have lk : ztl n b p = nI (b p) := if_pos hpn
      rw [L_X11_next_140, zlet_eq, hp, look_ B t (by omega), zb_s, infg B, zb_s, if_pos (show p < n ∧ 48 ≤ b p ∧ b p ≤ 57 from ⟨hpn, hbp⟩), if_neg (show ¬ (1 : Int32) = 0 by decide), zlet_eq, h4, sub]
      have fin : ∀ v, nI v = nI (zfv b s (p + 1 - s)) → ∃ σ', D_X11_next_201 (L_X11_next_140 K N) σ (nI v) = K σ' ∧ σ'.1 105 26 = nI e ∧ σ'.1 105 29 = nI (zfv b s (e - s)) ∧ σ'.2 = σ.2 ∧ ∀ c i, ¬ (c = 105 ∧ (i = 26 ∨ i = 29)) → σ'.1 c i = σ.1 c i := by
        intro v hv
        unfold D_X11_next_201
        rw [zlet_eq, zI_n (by omega), hp, t4, zlet_eq]
        obtain ⟨σ', e1, e2, e3, e4, e5⟩ := ih (p + 1) N (zsI (zsI σ 105 29 (nI v)) 105 26 (nI (p + 1))) (by omega) (by omega) (by omega) ⟨by rw [zI_n (by omega), zI_n (by omega)]; exact t.1, fun j hj => by rw [zI_n (by omega), zI_n (by omega)]; exact t.2 j hj⟩ zI_y (by rw [zI_n (by omega), zI_n (by omega)]; exact h4) (by rw [zI_n (by omega), zI_y, hv])
        exact ⟨σ', e1, e2, e3, e4, fun c i hc => by rw [e5 c i hc, zI_n (by omega), zI_n (by omega)]⟩
      by_cases h2 : 2 ≤ p - s
      · rw [if_pos (show (2 : Int32) ≤ nI (p - s) from nI_le (a := 2) h2 (by omega)), h5]
        exact fin _ (by rw [show p + 1 - s = p - s + 1 by omega, zfv_2 h2])
      · have hj : p - s < 2 := by omega
        have sv := zfv_s (b := b) (s := s) (j := p - s) hbs.1 (fun q => by
          have := hb (s + 1) (by omega) (by omega)
          exact this.1) hj
        rw [show s + (p - s) = p by omega] at sv
        have v1 : 10 * nI (zfv b s (p - s)) + nI (b p) - 48 = nI (zfv b s (p - s + 1)) := by
          have q1 : 10 * nI (zfv b s (p - s)) = nI (10 * zfv b s (p - s)) := pk_mul 10 _
          have q2 : nI (10 * zfv b s (p - s)) + nI (b p) = nI (10 * zfv b s (p - s) + b p) := nI_add _ _
          have q3 : nI (10 * zfv b s (p - s) + b p) - 48 = nI (10 * zfv b s (p - s) + b p - 48) := pk_sub (b := 48) (by omega)
          rw [q1, q2, q3, sv, Nat.mul_comm]
        rw [if_neg (show ¬ (2 : Int32) ≤ nI (p - s) from nI_ge (b := 2) (by omega) (by omega)), zb_s, h5, lk, v1]
        exact fin _ (by rw [show p + 1 - s = p - s + 1 by omega])
