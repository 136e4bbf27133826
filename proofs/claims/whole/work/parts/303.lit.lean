/-! ===== literals ===== -/
theorem zl_0 : (0 : Int32) = nI 0 := rfl
theorem zl_1 : (1 : Int32) = nI 1 := rfl
theorem zl_2 : (2 : Int32) = nI 2 := rfl
theorem zl_3 : (3 : Int32) = nI 3 := rfl
theorem zl_4 : (4 : Int32) = nI 4 := rfl
theorem zl_5 : (5 : Int32) = nI 5 := rfl
theorem zl_6 : (6 : Int32) = nI 6 := rfl
theorem zl_7 : (7 : Int32) = nI 7 := rfl
theorem zl_8 : (8 : Int32) = nI 8 := rfl
theorem zl_9 : (9 : Int32) = nI 9 := rfl
theorem zl_10 : (10 : Int32) = nI 10 := rfl
theorem zl_12 : (12 : Int32) = nI 12 := rfl
theorem zl_16 : (16 : Int32) = nI 16 := rfl
theorem zl_19 : (19 : Int32) = nI 19 := rfl
theorem zl_20 : (20 : Int32) = nI 20 := rfl
theorem zl_24 : (24 : Int32) = nI 24 := rfl
theorem zl_31 : (31 : Int32) = nI 31 := rfl
theorem zl_36 : (36 : Int32) = nI 36 := rfl
theorem zl_39 : (39 : Int32) = nI 39 := rfl
theorem zl_40 : (40 : Int32) = nI 40 := rfl
theorem zl_48 : (48 : Int32) = nI 48 := rfl
theorem zl_57 : (57 : Int32) = nI 57 := rfl
theorem zl_63 : (63 : Int32) = nI 63 := rfl
theorem zl_80 : (80 : Int32) = nI 80 := rfl
theorem zl_97 : (97 : Int32) = nI 97 := rfl
theorem zl_99 : (99 : Int32) = nI 99 := rfl
theorem zl_100 : (100 : Int32) = nI 100 := rfl
theorem zl_122 : (122 : Int32) = nI 122 := rfl
theorem zl_128 : (128 : Int32) = nI 128 := rfl
theorem zl_160 : (160 : Int32) = nI 160 := rfl
theorem zl_199 : (199 : Int32) = nI 199 := rfl
theorem zl_200 : (200 : Int32) = nI 200 := rfl
theorem zl_255 : (255 : Int32) = nI 255 := rfl
theorem zl_256 : (256 : Int32) = nI 256 := rfl
theorem zl_320 : (320 : Int32) = nI 320 := rfl
theorem zl_999 : (999 : Int32) = nI 999 := rfl
theorem zl_6000 : (6000 : Int32) = nI 6000 := rfl
theorem zl_6001 : (6001 : Int32) = nI 6001 := rfl
theorem zl_9999 : (9999 : Int32) = nI 9999 := rfl
theorem zl_999999 : (999999 : Int32) = nI 999999 := rfl
theorem zq_0 : (0 : Int64) = lN 0 := rfl
theorem zq_1 : (1 : Int64) = lN 1 := rfl
theorem zq_2 : (2 : Int64) = lN 2 := rfl
theorem zq_3 : (3 : Int64) = lN 3 := rfl
theorem zq_4 : (4 : Int64) = lN 4 := rfl
theorem zq_5 : (5 : Int64) = lN 5 := rfl
theorem zq_7 : (7 : Int64) = lN 7 := rfl
theorem zq_9 : (9 : Int64) = lN 9 := rfl
theorem zq_10 : (10 : Int64) = lN 10 := rfl
theorem zq_16 : (16 : Int64) = lN 16 := rfl
theorem zq_17 : (17 : Int64) = lN 17 := rfl
theorem zq_20 : (20 : Int64) = lN 20 := rfl
theorem zq_48 : (48 : Int64) = lN 48 := rfl
theorem zq_57 : (57 : Int64) = lN 57 := rfl
theorem zq_97 : (97 : Int64) = lN 97 := rfl
theorem zq_100 : (100 : Int64) = lN 100 := rfl
theorem zq_122 : (122 : Int64) = lN 122 := rfl
theorem zq_255 : (255 : Int64) = lN 255 := rfl
theorem zq_999 : (999 : Int64) = lN 999 := rfl
theorem zq_6000 : (6000 : Int64) = lN 6000 := rfl
theorem zq_9999 : (9999 : Int64) = lN 9999 := rfl
theorem zq_999999 : (999999 : Int64) = lN 999999 := rfl
/-! ===== deciding rows ===== -/
theorem z_le_t {a b : Nat} (h : a ≤ b) (hb : b < 2147483648) : (nI a ≤ nI b) = True := eq_true (nI_le h hb)
theorem z_le_f {a b : Nat} (h : b < a) (ha : a < 2147483648) : (nI a ≤ nI b) = False := eq_false (nI_ge h ha)
theorem z_lt_t {a b : Nat} (h : a < b) (hb : b < 2147483648) : (nI a < nI b) = True := eq_true (nI_lt h hb)
theorem z_lt_f {a b : Nat} (h : b ≤ a) (ha : a < 2147483648) : (nI a < nI b) = False := eq_false (nI_nlt h ha)
theorem z_eq_t {a b : Nat} (h : a = b) : (nI a = nI b) = True := eq_true (by rw [h])
theorem z_eq_f {a b : Nat} (h : a ≠ b) (ha : a < 2147483648) (hb : b < 2147483648) : (nI a = nI b) = False := eq_false (fun q => h ((nI_eq ha hb).mp q))
theorem z_ng {a b : Nat} (ha : a < 2147483648) (h0 : 0 < b) (hb : b < 2147483648) : (nI a = -nI b) = False := eq_false fun q => by
  have := congrArg Int32.toInt q
  rw [nI_toInt ha, Int32.toInt_neg, nI_toInt hb, Int.bmod_eq_of_le (by omega) (by omega)] at this
  omega
theorem z_ngb {b : Nat} : (-nI b = -nI b) = True := eq_self _
theorem z_ngl {a b : Nat} (ha : a < 2147483648) (h0 : 0 < b) (hb : b < 2147483648) : (nI a ≤ -nI b) = False := eq_false fun q => by
  rw [Int32.le_iff_toInt_le, nI_toInt ha, Int32.toInt_neg, nI_toInt hb, Int.bmod_eq_of_le (by omega) (by omega)] at q
  omega
theorem z_ngt {a b : Nat} (ha : a < 2147483648) (h0 : 0 < b) (hb : b < 2147483648) : (-nI b < nI a) = True := eq_true <| by
  rw [Int32.lt_iff_toInt_lt, nI_toInt ha, Int32.toInt_neg, nI_toInt hb, Int.bmod_eq_of_le (by omega) (by omega)]
  omega
theorem zI_y {σ : zS} {c k : Nat} {v : Int32} : (zsI σ c k v).1 c k = v := if_pos ⟨rfl, rfl⟩
theorem zI_n {σ : zS} {c k a j : Nat} {v : Int32} (h : ¬ (a = c ∧ j = k)) : (zsI σ c k v).1 a j = σ.1 a j := if_neg h
theorem zI_2 {σ : zS} {c k : Nat} {v : Int32} : (zsI σ c k v).2 = σ.2 := rfl
theorem zL_1 {σ : zS} {c k : Nat} {v : Int64} : (zsL σ c k v).1 = σ.1 := rfl
theorem zL_2 {σ : zS} {c k : Nat} {v : Int64} : (zsL σ c k v).2.2 = σ.2.2 := rfl
theorem inN_t {x lo hi : Nat} {σ : zS} (h1 : lo ≤ x) (h2 : x ≤ hi) (h3 : hi < 9223372036854775808) : J_X11_in (lN x) (lN lo) (lN hi) σ = some 1 := by
  rw [zin_eq, if_pos ⟨(pk_lLE (by omega) (by omega)).mpr h1, (pk_lLE (by omega) (by omega)).mpr h2⟩]
theorem inN_f {x lo hi : Nat} {σ : zS} (h1 : x < lo ∨ hi < x) (hx : x < 9223372036854775808) (h2 : lo < 9223372036854775808) (h3 : hi < 9223372036854775808) : J_X11_in (lN x) (lN lo) (lN hi) σ = some 0 := by
  rw [zin_eq, if_neg]
  rw [pk_lLE (by omega) (by omega), pk_lLE (by omega) (by omega)]
  omega
theorem zinx {a : Int32} {lo hi : Nat} {σ : zS} (h : ¬ zR a lo hi) (hh : hi < 2147483648) (hl : lo < 2147483648) : J_X11_in a.toInt64 (lN lo) (lN hi) σ = some 0 := zin_n h rfl rfl hh hl
theorem zLn {α : Type} {a : Int32} {k : Nat} (h : ¬ zL a k) (hk : k < 2147483648) {x y : α} : (if a < nI 0 then x else if nI k ≤ a then x else y) = x := zL_n h hk
theorem zmY {j k : Nat} {σ : zS} (h : j < k) (hk : k < 1073741824) : J_X11_in (lN j) (lN 0) ((nI k - nI 1).toInt64) σ = some 1 := by
  rw [← nI_l (by omega)]
  exact zinm_y ⟨j, h, rfl⟩ hk
theorem zmN {a : Int32} {k : Nat} {σ : zS} (h : ¬ zL a k) (hk : k < 1073741824) : J_X11_in a.toInt64 (lN 0) ((nI k - nI 1).toInt64) σ = some 0 := zinm_n h hk
theorem zoffy {a : Int32} {d k : Nat} (h : zL (a - nI d) k) : ∃ e, e < k ∧ a = nI (d + e) ∧ a - nI d = nI e := by
  obtain ⟨e, he, h1⟩ := h
  refine ⟨e, he, ?_, h1⟩
  rw [← Int32.sub_add_cancel a (nI d), h1, Nat.add_comm]
  exact nI_add e d
theorem zoffn {a : Int32} {d k u : Nat} (h : ¬ zL (a - nI d) k) (hu : u + 1 = d + k) : ¬ zR a d u := by
  rintro ⟨j, h1, h2, rfl⟩
  exact h ⟨j - d, by omega, pk_sub h1⟩
theorem z_or0 {x : Int32} : x ||| nI 0 = x := by
  show x ||| 0 = x
  simp
theorem lc_le_t {a b : Nat} (h : a ≤ b) (hb : b < 9223372036854775808) : (lg_cmp (lN a) (lN b) ≤ nI 0) = True := eq_true ((lg_cmp_le _ _).mpr ((pk_lLE (by omega) hb).mpr h))
theorem lc_le_f {a b : Nat} (h : b < a) (ha : a < 9223372036854775808) : (lg_cmp (lN a) (lN b) ≤ nI 0) = False := eq_false fun q => absurd ((pk_lLE ha (by omega)).mp ((lg_cmp_le _ _).mp q)) (by omega)
theorem lc_lt_t {a b : Nat} (h : a < b) (hb : b < 9223372036854775808) : (lg_cmp (lN a) (lN b) < nI 0) = True := eq_true ((lg_cmp_lt _ _).mpr ((pk_lLT (by omega) hb).mpr h))
theorem lc_lt_f {a b : Nat} (h : b ≤ a) (ha : a < 9223372036854775808) : (lg_cmp (lN a) (lN b) < nI 0) = False := eq_false fun q => absurd ((pk_lLT ha (by omega)).mp ((lg_cmp_lt _ _).mp q)) (by omega)
theorem lc_ge_t {a b : Nat} (h : b ≤ a) (ha : a < 9223372036854775808) : (nI 0 ≤ lg_cmp (lN a) (lN b)) = True := eq_true ((lg_cmp_ge _ _).mpr ((pk_lLE (by omega) ha).mpr h))
theorem lc_ge_f {a b : Nat} (h : a < b) (hb : b < 9223372036854775808) : (nI 0 ≤ lg_cmp (lN a) (lN b)) = False := eq_false fun q => absurd ((pk_lLE hb (by omega)).mp ((lg_cmp_ge _ _).mp q)) (by omega)
theorem lc_gt_t {a b : Nat} (h : b < a) (ha : a < 9223372036854775808) : (nI 0 < lg_cmp (lN a) (lN b)) = True := eq_true ((lg_cmp_gt _ _).mpr ((pk_lLT (by omega) ha).mpr h))
theorem lc_gt_f {a b : Nat} (h : a ≤ b) (hb : b < 9223372036854775808) : (nI 0 < lg_cmp (lN a) (lN b)) = False := eq_false fun q => absurd ((pk_lLT hb (by omega)).mp ((lg_cmp_gt _ _).mp q)) (by omega)
theorem lc_eq_t {a b : Nat} (h : a = b) : (lg_cmp (lN a) (lN b) = nI 0) = True := eq_true ((lg_cmp_eq _ _).mpr (by rw [h]))
theorem lc_eq_f {a b : Nat} (h : a ≠ b) (ha : a < 9223372036854775808) (hb : b < 9223372036854775808) : (lg_cmp (lN a) (lN b) = nI 0) = False := eq_false fun q => h ((pk_lEQ ha hb).mp ((lg_cmp_eq _ _).mp q))
theorem z_ngle {a b : Nat} (ha : a < 2147483648) (hb : b < 2147483648) : (-nI b ≤ nI a) = True := eq_true <| by
  rw [Int32.le_iff_toInt_le, nI_toInt ha, Int32.toInt_neg, nI_toInt hb, Int.bmod_eq_of_le (by omega) (by omega)]
  omega
/-! ===== the relation, and what leaves it alone ===== -/
def zscr (c k : Nat) : Prop := c = 85 ∨ (88 ≤ c ∧ c ≤ 91) ∨ c = 96 ∨ (127 ≤ c ∧ c ≤ 130) ∨ (c = 92 ∧ k = 4) ∨ (c = 105 ∧ 41 ≤ k ∧ k ≤ 48)
def zbk (c k : Nat) : Prop := c = 86 ∨ c = 87 ∨ (c = 82 ∧ k = 6)
/-- everything but the Bank's cache -/
def zRel (σ : zS) : Prop := rTape σ.1 ∧ rFault σ.1 ∧ rRefs σ.2.2 ∧ rProg σ ∧ rKept σ.1 ∧ rCnt σ.1 ∧ rRuns σ.1 ∧ rSheet σ.1
def zsim (σ σ' : zS) : Prop := (∀ c k, ¬ zscr c k → ¬ zbk c k → σ'.1 c k = σ.1 c k) ∧ σ'.2.2 = σ.2.2
theorem zsim_r (σ : zS) : zsim σ σ := ⟨fun _ _ _ _ => rfl, rfl⟩
theorem zsim_t {a b c : zS} (h : zsim a b) (g : zsim b c) : zsim a c := ⟨fun x y p q => (g.1 x y p q).trans (h.1 x y p q), g.2.trans h.2⟩
theorem zsim_I {a b : zS} {c k : Nat} {v : Int32} (h : zsim a b) (hc : zscr c k ∨ zbk c k) : zsim a (zsI b c k v) := ⟨fun x y p q => by
  rw [zI_n (by rintro ⟨rfl, rfl⟩; exact hc.elim p q)]
  exact h.1 x y p q, h.2⟩
theorem zsim_L {a b : zS} {c k : Nat} {v : Int64} (h : zsim a b) : zsim a (zsL b c k v) := ⟨h.1, h.2⟩
theorem cPr_c {I J : zI} {p : Nat} {P : zM} (h : ∀ c k, (p ≤ c ∧ c < p + 30 ) → J c k = I c k) (w : wPr P) (q : cPr I p P) : cPr J p P := by
  obtain ⟨h1, h2, h3, h4, h5, h6, h7⟩ := q
  obtain ⟨w1, w2, w3, -⟩ := w
  refine ⟨?_, ?_, ?_, ?_, ?_, ?_, ?_⟩
  · rw [h _ _ (by omega)]; exact h1
  · rw [h _ _ (by omega)]; exact h2
  · rw [h _ _ (by omega)]; exact h3
  · intro l hl
    obtain ⟨a, b, c, d⟩ := h4 l hl
    refine ⟨?_, ?_, ?_, ?_⟩
    · rw [h _ _ (by omega)]; exact a
    · rw [h _ _ (by omega)]; exact b
    · rw [h _ _ (by omega)]; exact c
    · intro e he
      rw [h _ _ (by omega)]; exact d e he
  · intro l hl
    obtain ⟨a, b, c, d, e⟩ := h5 l hl
    refine ⟨?_, ?_, ?_, ?_, ?_⟩
    · rw [h _ _ (by omega)]; exact a
    · rw [h _ _ (by omega)]; exact b
    · rw [h _ _ (by omega)]; exact c
    · rw [h _ _ (by omega)]; exact d
    · rw [h _ _ (by omega)]; exact e
  · intro l hl
    rw [h _ _ (by omega)]; exact h6 l hl
  · intro l hl
    rw [h _ _ (by omega)]; exact h7 l hl
theorem mPr_c {I J : zI} {P : zM} (h : ∀ c k, (c = 105 ∧ (k = 0 ∨ k = 4 ∨ k = 7 ∨ k = 10)) ∨ (105 < c ∧ c < 113) → J c k = I c k) (q : mPr I P) : mPr J P := by
  obtain ⟨h1, h2, h3, h4, h5, h6, h7⟩ := q
  refine ⟨?_, ?_, ?_, ?_, ?_, ?_, ?_⟩
  · rw [h _ _ (by omega)]; exact h1
  · rw [h _ _ (by omega)]; exact h2
  · rw [h _ _ (by omega)]; exact h3
  · rw [h _ _ (by omega)]; exact h4
  · intro l hl
    obtain ⟨a, b, c, d⟩ := h5 l hl
    refine ⟨?_, ?_, ?_, ?_⟩
    · rw [h _ _ (by omega)]; exact a
    · rw [h _ _ (by omega)]; exact b
    · rw [h _ _ (by omega)]; exact c
    · intro e he
      rw [h _ _ (by omega)]; exact d e he
  · intro l hl
    obtain ⟨a, b⟩ := h6 l hl
    refine ⟨?_, ?_⟩
    · rw [h _ _ (by omega)]; exact a
    · rw [h _ _ (by omega)]; exact b
  · intro l hl
    rw [h _ _ (by omega)]; exact h7 l hl
theorem zpp {σ : zS} (h : rRefs σ.2.2) : σ.2.2 0 1 = 3 ∨ σ.2.2 0 1 = 33 := by
  rcases h with h | h
  · exact Or.inl h.1
  · exact Or.inr h.1
theorem rTape_c {I J : zI} (h : ∀ c k, (c = 1 ∧ k = 1) ∨ c = 2 ∨ (c = 105 ∧ k = 25) ∨ c = 121 → J c k = I c k) (q : rTape I) : rTape J := by
  obtain ⟨n, h1, h2, h3, h4⟩ := q
  refine ⟨n, h1, ?_, ?_, ?_⟩
  · rw [h _ _ (by omega)]; exact h2
  · rw [h _ _ (by omega)]; exact h3
  · intro j hj
    obtain ⟨b, b1, b2, b3⟩ := h4 j hj
    exact ⟨b, b1, by rw [h _ _ (by omega)]; exact b2, by rw [h _ _ (by omega)]; exact b3⟩
theorem rFault_c {I J : zI} (h : ∀ c k, (c = 0 ∧ k = 11) ∨ (c = 105 ∧ k = 30) → J c k = I c k) (q : rFault I) : rFault J := by
  obtain ⟨n, h1, h2, h3⟩ := q
  exact ⟨n, h1, by rw [h _ _ (by omega)]; exact h2, by rw [h _ _ (by omega)]; exact h3⟩
theorem rKept_c {I J : zI} (h : ∀ c k, (66 ≤ c ∧ c < 82) ∨ c = 124 → J c k = I c k) (q : rKept I) : rKept J := by
  intro l e hl he
  obtain ⟨k, h1, h2, h3⟩ := q l e hl he
  exact ⟨k, h1, by rw [h _ _ (by omega)]; exact h2, by rw [h _ _ (by omega)]; exact h3⟩
theorem rCnt_c {I J : zI} (h : ∀ c k, (c = 82 ∧ k = 0) ∨ (c = 105 ∧ k = 36) ∨ c = 83 ∨ c = 84 ∨ c = 125 ∨ c = 126 → J c k = I c k) (q : rCnt I) : rCnt J := by
  obtain ⟨k, h1, h2, h3, h4, h5⟩ := q
  refine ⟨k, h1, h2, by rw [h _ _ (by omega)]; exact h3, by rw [h _ _ (by omega)]; exact h4, ?_⟩
  intro c hc
  obtain ⟨⟨m, a, b, d⟩, w, e, f, g, i⟩ := h5 c hc
  exact ⟨⟨m, a, by rw [h _ _ (by omega)]; exact b, by rw [h _ _ (by omega)]; exact d⟩, w, e, f, by rw [h _ _ (by omega)]; exact g, by rw [h _ _ (by omega)]; exact i⟩
theorem rRuns_c {I J : zI} (h : ∀ c k, (c = 92 ∧ k = 0) ∨ (c = 105 ∧ k = 49) ∨ (93 ≤ c ∧ c ≤ 95) ∨ (131 ≤ c ∧ c ≤ 133) → J c k = I c k) (q : rRuns I) : rRuns J := by
  obtain ⟨n, h1, h2, h3, h4⟩ := q
  refine ⟨n, h1, by rw [h _ _ (by omega)]; exact h2, by rw [h _ _ (by omega)]; exact h3, ?_⟩
  intro i hi
  obtain ⟨a, b, c⟩ := h4 i hi
  refine ⟨?_, ?_, ?_⟩
  · rw [h _ _ (by omega), h _ _ (by omega)]; exact a
  · rw [h _ _ (by omega), h _ _ (by omega)]; exact b
  · rw [h _ _ (by omega), h _ _ (by omega)]; exact c
theorem rSheet_c {I J : zI} (h : ∀ c k, (98 ≤ c ∧ c ≤ 104) ∨ (134 ≤ c ∧ c ≤ 136) → J c k = I c k) (q : rSheet I) : rSheet J := by
  intro k hk
  rcases q k hk with ⟨a, b⟩ | ⟨ln, sz, a, b, c, d, e, f, g⟩
  · left
    exact ⟨by rw [h _ _ (by omega)]; exact a, by rw [h _ _ (by omega)]; exact b⟩
  · right
    refine ⟨ln, sz, a, b, by rw [h _ _ (by omega)]; exact c, by rw [h _ _ (by omega)]; exact d, by rw [h _ _ (by omega)]; exact e, by rw [h _ _ (by omega)]; exact f, ?_⟩
    intro i hi
    rw [h _ _ (by omega), h _ _ (by omega)]; exact g i hi
theorem zRel_s {σ σ' : zS} (s : zsim σ σ') (h : zRel σ) : zRel σ' := by
  obtain ⟨h1, h2, h3, h4, h5, h6, h7, h8⟩ := h
  obtain ⟨s1, s2⟩ := s
  have hp := zpp h3
  refine ⟨rTape_c ?_ h1, rFault_c ?_ h2, by rw [s2]; exact h3, ?_, rKept_c ?_ h5, rCnt_c ?_ h6, rRuns_c ?_ h7, rSheet_c ?_ h8⟩
  case refine_3 =>
    obtain ⟨P, w, c, m⟩ := h4
    refine ⟨P, w, ?_, mPr_c (I := σ.1) ?_ m⟩
    · rw [s2]
      refine cPr_c (I := σ.1) ?_ w c
      intro c k hc
      apply s1 <;> simp only [zscr, zbk] <;> omega
    · intro c k hc
      apply s1 <;> simp only [zscr, zbk] <;> omega
  all_goals
    intro c k hc
    apply s1 <;> simp only [zscr, zbk] <;> omega
/-- all but the program and the fault is given anew -/
theorem zRel_g {σ σ' : zS} (h : zRel σ) (hk : ∀ c k, (c = 0 ∧ k = 11) ∨ (c = 105 ∧ (k = 30 ∨ k = 0 ∨ k = 4 ∨ k = 7 ∨ k = 10)) ∨ (105 < c ∧ c < 113) ∨ (3 ≤ c ∧ c < 63) → σ'.1 c k = σ.1 c k) (h2 : σ'.2.2 = σ.2.2) (a : rTape σ'.1) (b : rKept σ'.1) (d : rCnt σ'.1) (e : rRuns σ'.1) (f : rSheet σ'.1) : zRel σ' := by
  obtain ⟨_, g2, g3, ⟨P, w, c, m⟩, _⟩ := h
  have hp := zpp g3
  refine ⟨a, rFault_c (I := σ.1) (fun c k hc => hk c k (by omega)) g2, by rw [h2]; exact g3, ⟨P, w, ?_, mPr_c (I := σ.1) (fun c k hc => hk c k (by omega)) m⟩, b, d, e, f⟩
  rw [h2]
  exact cPr_c (I := σ.1) (fun c k hc => hk c k (by omega)) w c
/-- the program both sides hold now -/
theorem zopen {σ : zS} (h : zRel σ) : ∃ P p, (p = 3 ∨ p = 33) ∧ σ.2.2 0 1 = p ∧ zP p = true ∧ wPr P ∧ cPr σ.1 p P ∧ mPr σ.1 P := by
  obtain ⟨h1, h2, h3, ⟨P, w, c, m⟩, h5, h6, h7, h8⟩ := h
  refine ⟨P, _, zpp h3, rfl, ?_, w, c, m⟩
  rcases zpp h3 with e | e <;> rw [e] <;> rfl
