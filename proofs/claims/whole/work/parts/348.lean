set_option maxRecDepth 8000
/-! ===== the class learns ===== -/
def zFb (N k : Nat) (M F : Nat → Nat) (w : Nat) : Prop := F 0 = 0 ∧ ∀ s, 0 < s → s < w → F s ≤ N ∧ (∀ t, zgd k M s t → F s ≤ F (s ^^^ t) + 1) ∧ (F s = N ∨ ∃ t, zgd k M s t ∧ F s = F (s ^^^ t) + 1)
def zbst (k : Nat) (M F : Nat → Nat) (s : Nat) (l : List Nat) (b0 b : Nat) : Prop := b ≤ b0 ∧ (∀ x, x ∈ l → zfits k M (x ||| 2 ^ zlo s) = true → b ≤ F (zrs s ^^^ x) + 1) ∧ (b = b0 ∨ ∃ x, x ∈ l ∧ x &&& zrs s = x ∧ zfits k M (x ||| 2 ^ zlo s) = true ∧ b = F (zrs s ^^^ x) + 1)
theorem fib_ {k : Nat} {M : Nat → Nat} {s : Nat} : nI (if zfits k M s then 1 else 0) = 0 ↔ ¬ zfits k M s = true := by
  cases zfits k M s
  · exact ⟨fun _ => by simp, fun _ => rfl⟩
  · exact ⟨fun h => absurd h (by decide), fun h => absurd rfl h⟩
theorem ff_ {k : Nat} {M F : Nat → Nat} {σ : zS} {s : Nat} (hs : s < 256) (h0 : s ≠ 0) (hf : ∀ t, t ≤ s → σ.1 86 t = nI (if zfits k M t then 1 else 0)) (hF : ∀ t, t < s → σ.1 87 t = nI (F t) ∧ F t ≤ 100) : ∀ q i n b0 x, i + q = 256 → q < n → b0 ≤ 100 → x &&& zrs s = x → ∃ b, zbst k M F s (zit (zrs s) q x) b0 b ∧ L_X0_fewestFor_25 σ (nI (2 ^ zlo s)) (nI (zrs s)) n (nI b0) (nI x) (nI i) = some (nI b) := by
  intro q
  induction q with
  | zero =>
    intro i n b0 x h hn hb hx
    cases n with
    | zero => omega
    | succ n =>
      refine ⟨b0, ⟨Nat.le_refl _, fun x hx => ?_, Or.inl rfl⟩, ?_⟩
      · rw [zit] at hx
        cases hx
      · rw [L_X0_fewestFor_25, zlet_eq, if_pos (show (256 : Int32) ≤ nI i from nI_le (a := 256) (by omega) (by omega))]
  | succ q ih =>
    intro i n b0 x h hn hb hx
    cases n with
    | zero => omega
    | succ n =>
      have t3 : ¬ (256 : Int32) ≤ nI i := nI_ge (b := 256) (by omega) (by omega)
      have t4 : nI i + 1 = nI (i + 1) := nI_add i 1
      obtain ⟨p1, p2, p3⟩ := lo_p hs h0 hx
      have le1 := sub_le p1
      have lz := (zF1 ⟨s, hs⟩ h0).2.2.1
      have lz' : zrs s < 256 := lz
      have xle := sub_le hx
      have lt1 : s ^^^ (x ||| 2 ^ zlo s) < s := by
        refine sub_lt ⟨s, hs⟩ ⟨x ||| 2 ^ zlo s, by omega⟩ p1 ?_
        intro q
        have q' : x ||| 2 ^ zlo s = 0 := q
        rw [q', Nat.zero_testBit] at p2
        cases p2
      rw [p3] at lt1
      have rl : ∃ rest, zit (zrs s) (q + 1) x = x :: rest ∧ ∀ b1, b1 ≤ 100 → ∃ b, zbst k M F s rest b1 b ∧ D_X0_fewestFor_63 (nI (zrs s)) (L_X0_fewestFor_25 σ (nI (2 ^ zlo s)) (nI (zrs s)) n) (nI x) (nI i) (nI b1) = some (nI b) := by
        by_cases x0 : x = 0
        · subst x0
          refine ⟨[], rfl, fun b1 h1 => ⟨b1, ⟨Nat.le_refl _, (fun x hx => by cases hx), Or.inl rfl⟩, ?_⟩⟩
          unfold D_X0_fewestFor_63
          rw [if_pos (show nI 0 = 0 from rfl)]
        · refine ⟨zit (zrs s) q ((x - 1) &&& zrs s), ?_, fun b1 h1 => ?_⟩
          · rw [zit, if_neg x0]
          · have sub : nI x - 1 = nI (x - 1) := pk_sub (b := 1) (by omega)
            unfold D_X0_fewestFor_63
            rw [if_neg (nI_ne0 (by omega) (by omega)), sub, nI_and, zlet_eq, t4, zlet_eq]
            exact ih (i + 1) n b1 ((x - 1) &&& zrs s) (by omega) (by omega) h1 (by rw [Nat.and_assoc, Nat.and_self])
      obtain ⟨rest, r1, r2⟩ := rl
      rw [r1, L_X0_fewestFor_25, zlet_eq, if_neg t3, nI_or, zi_nI (by omega) (by omega), zg_t, zlet_eq, zcla (by omega), hf _ le1, nI_xor, zi_nI (by omega) (by omega), zg_t, zcla (by omega), (hF _ lt1).1]
      have l100 := (hF _ lt1).2
      by_cases hz : zfits k M (x ||| 2 ^ zlo s) = true
      · rw [if_neg (fun q => fib_.mp q hz)]
        have a1 : nI (F (zrs s ^^^ x)) + 1 = nI (F (zrs s ^^^ x) + 1) := nI_add _ 1
        rw [a1, zlet_eq]
        by_cases hc : F (zrs s ^^^ x) + 1 < b0
        · obtain ⟨b, ⟨b2, b3, b4⟩, b5⟩ := r2 (F (zrs s ^^^ x) + 1) (by omega)
          rw [if_pos (nI_lt hc (by omega))]
          refine ⟨b, ⟨by omega, ?_, ?_⟩, b5⟩
          · intro y hy hyf
            rcases List.mem_cons.mp hy with e | e
            · rw [e]; omega
            · exact b3 y e hyf
          · right
            rcases b4 with e | ⟨y, y1, y2, y3, y4⟩
            · exact ⟨x, List.mem_cons_self, hx, hz, e⟩
            · exact ⟨y, List.mem_cons_of_mem _ y1, y2, y3, y4⟩
        · obtain ⟨b, ⟨b2, b3, b4⟩, b5⟩ := r2 b0 hb
          rw [if_neg (nI_nlt (by omega) (by omega))]
          refine ⟨b, ⟨b2, ?_, ?_⟩, b5⟩
          · intro y hy hyf
            rcases List.mem_cons.mp hy with e | e
            · rw [e]; omega
            · exact b3 y e hyf
          · rcases b4 with e | ⟨y, y1, y2, y3, y4⟩
            · exact Or.inl e
            · exact Or.inr ⟨y, List.mem_cons_of_mem _ y1, y2, y3, y4⟩
      · rw [if_pos (fib_.mpr hz)]
        obtain ⟨b, ⟨b2, b3, b4⟩, b5⟩ := r2 b0 hb
        refine ⟨b, ⟨b2, ?_, ?_⟩, b5⟩
        · intro y hy hyf
          rcases List.mem_cons.mp hy with e | e
          · rw [e] at hyf
            exact absurd hyf hz
          · exact b3 y e hyf
        · rcases b4 with e | ⟨y, y1, y2, y3, y4⟩
          · exact Or.inl e
          · exact Or.inr ⟨y, List.mem_cons_of_mem _ y1, y2, y3, y4⟩
theorem few_ {k : Nat} {M F : Nat → Nat} {σ : zS} {s : Nat} (hs : s < 256) (h0 : s ≠ 0) (hf : ∀ t, t ≤ s → σ.1 86 t = nI (if zfits k M t then 1 else 0)) (hF : ∀ t, t < s → σ.1 87 t = nI (F t) ∧ F t ≤ 100) : ∃ b, b ≤ 100 ∧ (∀ t, zgd k M s t → b ≤ F (s ^^^ t) + 1) ∧ (b = 100 ∨ ∃ t, zgd k M s t ∧ b = F (s ^^^ t) + 1) ∧ J_X0_fewestFor (nI s) σ = some (nI b) := by
  obtain ⟨f1, f2, f3, f4, f5⟩ := zF1 ⟨s, hs⟩ h0
  have f1' : (nI s &&& -nI s) = nI (2 ^ zlo s) := f1
  have f2' : nI s ^^^ nI (2 ^ zlo s) = nI (zrs s) := f2
  have f3' : zrs s < 256 := f3
  obtain ⟨b, ⟨b1, b2, b3⟩, b4⟩ := ff_ (σ := σ) hs h0 hf hF 256 0 4294967296 100 (zrs s) (by omega) (by omega) (by omega) (Nat.and_self _)
  refine ⟨b, b1, ?_, ?_, ?_⟩
  · intro t ht
    obtain ⟨t1, t2, t3⟩ := (zgd_i hs h0).mp ht
    obtain ⟨x, x1, x2⟩ := lo_q hs h0 t1 t2
    have xl := sub_le x1
    have m := zit_all ⟨zrs s, f3'⟩ ⟨x, by omega⟩ x1
    have := b2 x m (by rw [← x2]; exact t3)
    rw [x2, (lo_p hs h0 x1).2.2]
    exact this
  · rcases b3 with e | ⟨x, x1, x2, x3, x4⟩
    · exact Or.inl e
    · obtain ⟨p1, p2, p3⟩ := lo_p hs h0 x2
      exact Or.inr ⟨x ||| 2 ^ zlo s, (zgd_i hs h0).mpr ⟨p1, p2, x3⟩, by rw [p3]; exact x4⟩
  · unfold J_X0_fewestFor
    rw [if_neg (nI_ne0 (by omega) (by omega)), f1', zlet_eq, f2', zlet_eq]
    exact b4
theorem vnb (b : Bool) : vp_nar .boolean (nI (if b = true then 1 else 0)) = nI (if b = true then 1 else 0) := by
  cases b <;> rfl
theorem le_ {k : Nat} {M : Nat → Nat} (hk : k ≤ 4) : ∀ q s n σ F, s + q = 256 → q < n → σ.1 82 0 = nI k → (∀ c, c < 4 → M c < 256 ∧ σ.1 83 c = nI (M c)) → (∀ t, t < s → σ.1 86 t = nI (if zfits k M t then 1 else 0) ∧ σ.1 87 t = nI (F t)) → zFb 100 k M F s → ∃ σ' F', L_X0_learn_15 n (nI s) σ = some σ' ∧ zFb 100 k M F' 256 ∧ (∀ t, t < 256 → σ'.1 86 t = nI (if zfits k M t then 1 else 0) ∧ σ'.1 87 t = nI (F' t)) ∧ σ'.2 = σ.2 ∧ ∀ c i, c ≠ 86 → c ≠ 87 → σ'.1 c i = σ.1 c i := by
  intro q
  induction q with
  | zero =>
    intro s n σ F h hn k3 hM hv hF
    cases n with
    | zero => omega
    | succ n =>
      obtain rfl : s = 256 := by omega
      refine ⟨σ, F, ?_, hF, hv, rfl, fun _ _ _ _ => rfl⟩
      rw [L_X0_learn_15, zlet_eq, if_pos (show (256 : Int32) ≤ nI 256 by decide)]
  | succ q ih =>
    intro s n σ F h hn k3 hM hv hF
    cases n with
    | zero => omega
    | succ n =>
      have hs : s < 256 := by omega
      have t3 : ¬ (256 : Int32) ≤ nI s := nI_ge (b := 256) (by omega) (by omega)
      have t4 : nI s + 1 = nI (s + 1) := nI_add s 1
      have C : J_X0_canPlace 7 (nI s) 0 σ = some (nI (if zfits k M s = true then 1 else 0)) := cp7 (s := s) (u := 0) hk k3 hM hs (Nat.pow_pos (by omega))
      have g1 : (zsI σ 86 s (nI (if zfits k M s = true then 1 else 0))).1 86 s = nI (if zfits k M s = true then 1 else 0) := zI_y
      have g2 : ∀ c i, c ≠ 86 → (zsI σ 86 s (nI (if zfits k M s = true then 1 else 0))).1 c i = σ.1 c i := fun c i hc => zI_n (by omega)
      have g3 : ∀ t, t ≠ s → (zsI σ 86 s (nI (if zfits k M s = true then 1 else 0))).1 86 t = σ.1 86 t := fun t ht => zI_n (by omega)
      have g4 : (zsI σ 86 s (nI (if zfits k M s = true then 1 else 0))).2 = σ.2 := rfl
      rw [L_X0_learn_15, zlet_eq, if_neg t3, C, zb_s, zi_nI (by omega) (by omega), zg_t, zcla (by omega), vnb, zlet_eq]
      generalize zsI σ 86 s (nI (if zfits k M s = true then 1 else 0)) = τ at *
      have FB : ∃ b, (s = 0 → b = 0) ∧ (0 < s → b ≤ 100 ∧ (∀ t, zgd k M s t → b ≤ F (s ^^^ t) + 1) ∧ (b = 100 ∨ ∃ t, zgd k M s t ∧ b = F (s ^^^ t) + 1)) ∧ J_X0_fewestFor (nI s) τ = some (nI b) := by
        by_cases h0 : s = 0
        · subst h0
          exact ⟨0, fun _ => rfl, fun h => by omega, rfl⟩
        · obtain ⟨b, b1, b2, b3, b4⟩ := few_ (k := k) (M := M) (F := F) (σ := τ) hs h0 (fun t ht => by
            by_cases e : t = s
            · rw [e]; exact g1
            · rw [g3 t e]; exact (hv t (by omega)).1) (fun t ht => by
            refine ⟨by rw [g2 _ _ (by omega)]; exact (hv t ht).2, ?_⟩
            by_cases e : t = 0
            · rw [e, hF.1]; omega
            · exact (hF.2 t (by omega) ht).1)
          exact ⟨b, fun q => absurd q h0, fun _ => ⟨b1, b2, b3⟩, b4⟩
      obtain ⟨b, B1, B2, B3⟩ := FB
      rw [B3, zb_s, zg_t, zlet_eq, t4, zlet_eq]
      have hx : ∀ t, t < s → ∀ u, zgd k M t u → t ^^^ u < s := fun t ht u hu => Nat.lt_trans (zgd_lt (by omega) hu) ht
      obtain ⟨σ', F', e1, e2, e3, e4, e5⟩ := ih (s + 1) n (zsI τ 87 s (nI b)) (fun t => if t = s then b else F t) (by omega) (by omega) (by rw [zI_n (by omega), g2 _ _ (by omega)]; exact k3) (fun c hc => ⟨(hM c hc).1, by rw [zI_n (by omega), g2 _ _ (by omega)]; exact (hM c hc).2⟩) (fun t ht => by
        by_cases e : t = s
        · subst e
          refine ⟨by rw [zI_n (by omega)]; exact g1, ?_⟩
          rw [zI_y]
          simp only [if_true]
        · refine ⟨by rw [zI_n (by omega), g3 t e]; exact (hv t (by omega)).1, ?_⟩
          rw [zI_n (by omega), g2 _ _ (by omega)]
          simp only [if_neg e]
          exact (hv t (by omega)).2) (by
        refine ⟨?_, fun t t0 ht => ?_⟩
        · by_cases e : 0 = s
          · simp only [if_pos e]; exact B1 e.symm
          · simp only [if_neg e]; exact hF.1
        · by_cases e : t = s
          · subst e
            obtain ⟨c1, c2, c3⟩ := B2 t0
            simp only [if_true]
            refine ⟨c1, fun u hu => ?_, ?_⟩
            · have := zgd_lt hs hu
              rw [if_neg (by omega)]
              exact c2 u hu
            · rcases c3 with x | ⟨u, u1, u2⟩
              · exact Or.inl x
              · have := zgd_lt hs u1
                exact Or.inr ⟨u, u1, by rw [if_neg (by omega)]; exact u2⟩
          · obtain ⟨c1, c2, c3⟩ := hF.2 t t0 (by omega)
            simp only [if_neg e]
            refine ⟨c1, fun u hu => ?_, ?_⟩
            · have := hx t (by omega) u hu
              rw [if_neg (by omega)]
              exact c2 u hu
            · rcases c3 with x | ⟨u, u1, u2⟩
              · exact Or.inl x
              · have := hx t (by omega) u u1
                exact Or.inr ⟨u, u1, by rw [if_neg (by omega)]; exact u2⟩)
      refine ⟨σ', F', e1, e2, e3, e4.trans g4, fun c i h1 h2 => ?_⟩
      rw [e5 c i h1 h2, zI_n (by omega), g2 c i h1]
