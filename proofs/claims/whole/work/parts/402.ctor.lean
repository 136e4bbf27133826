/-! ===== constructors: cells come one behind another; a reference is null until it is set ===== -/
def zslN (G : zG) (σ : zS) (ρ : Nat → Nat → Bool) (c ci k : Nat) : Value := match zft ci k with
  | (0, _) => .int (σ.1 c k)
  | (1, _) => .long (σ.2.1 c k)
  | (2, d) => if ρ c k = true then .ref (G.1 + (c + d)) else .null
  | (3, a) => if ρ c k = true then .ref (G.1 + a) else .null
  | (4, _) => if ρ c k = true then .ref (G.1 + σ.2.2 c k) else .null
  | _ => .ref (G.1 + σ.2.2 c k)
def zenN (G : zG) (σ : zS) (ρ : Nat → Nat → Bool) (c : Nat) : va_E := match zk c with
  | (0, x) => .inl (G.2.2.1, x, .inl (σ.1 c))
  | (1, x) => .inl (G.2.2.2.1, x, .inl (σ.1 c))
  | (2, x) => .inl (G.2.2.2.2.1, x, .inl (σ.1 c))
  | (3, x) => .inl (G.2.2.2.2.2.1, x, .inr (.inr (.inr (.inr (fun j => if j < x then some (G.1 + (c + 1 + j)) else none)))))
  | (_, ci) => .inr (ci, (List.range 56).map (zslN G σ ρ c ci))
def zrsM (ρ : Nat → Nat → Bool) (c k : Nat) : Nat → Nat → Bool := fun a j => if a = c ∧ j = k then true else ρ a j
theorem zenN_obj {G : zG} {σ : zS} {ρ : Nat → Nat → Bool} {c ci : Nat} (h : zk c = (4, ci)) : zenN G σ ρ c = .inr (ci, (List.range 56).map (zslN G σ ρ c ci)) := by
  unfold zenN
  rw [h]
  rfl
theorem zenN_i {G : zG} {σ : zS} {ρ : Nat → Nat → Bool} {c x : Nat} (h : zk c = (0, x)) : zenN G σ ρ c = .inl (G.2.2.1, x, .inl (σ.1 c)) := by
  unfold zenN
  rw [h]
  rfl
theorem zenN_b {G : zG} {σ : zS} {ρ : Nat → Nat → Bool} {c x : Nat} (h : zk c = (1, x)) : zenN G σ ρ c = .inl (G.2.2.2.1, x, .inl (σ.1 c)) := by
  unfold zenN
  rw [h]
  rfl
theorem zenN_z {G : zG} {σ : zS} {ρ : Nat → Nat → Bool} {c x : Nat} (h : zk c = (2, x)) : zenN G σ ρ c = .inl (G.2.2.2.2.1, x, .inl (σ.1 c)) := by
  unfold zenN
  rw [h]
  rfl
theorem zenN_q {G : zG} {σ : zS} {ρ : Nat → Nat → Bool} {c x : Nat} (h : zk c = (3, x)) : zenN G σ ρ c = .inl (G.2.2.2.2.2.1, x, .inr (.inr (.inr (.inr (fun j => if j < x then some (G.1 + (c + 1 + j)) else none))))) := by
  unfold zenN
  rw [h]
  rfl
theorem zslN_I {G : zG} {σ : zS} {ρ : Nat → Nat → Bool} {c k ci : Nat} {v : Int32} {c' k' : Nat} (h : c' ≠ c ∨ k' ≠ k) : zslN G (zsI σ c k v) ρ c' ci k' = zslN G σ ρ c' ci k' := by
  unfold zslN
  split <;> try rfl
  simp only [zsI]
  rw [if_neg]
  rintro ⟨a, b⟩
  rcases h with h | h
  · exact h a
  · exact h b
theorem zslN_r {G : zG} {σ : zS} {ρ : Nat → Nat → Bool} {c k ci : Nat} {c' k' : Nat} (h : c' ≠ c ∨ k' ≠ k) : zslN G σ (zrsM ρ c k) c' ci k' = zslN G σ ρ c' ci k' := by
  have e : zrsM ρ c k c' k' = ρ c' k' := by
    unfold zrsM
    rw [if_neg]
    rintro ⟨a, b⟩
    rcases h with h | h
    · exact h a
    · exact h b
  unfold zslN
  rw [e]
theorem zslN_R {G : zG} {σ : zS} {ρ : Nat → Nat → Bool} {c k ci : Nat} {v : Nat} {c' k' : Nat} (h : c' ≠ c ∨ k' ≠ k) : zslN G (zsR σ c k v) ρ c' ci k' = zslN G σ ρ c' ci k' := by
  have e : (zsR σ c k v).2.2 c' k' = σ.2.2 c' k' := by
    simp only [zsR]
    rw [if_neg]
    rintro ⟨a, b⟩
    rcases h with h | h
    · exact h a
    · exact h b
  unfold zslN
  rw [e]
  rfl
theorem zenN_I {G : zG} {σ : zS} {ρ : Nat → Nat → Bool} {c k : Nat} {v : Int32} {j : Nat} (h : j ≠ c) : zenN G (zsI σ c k v) ρ j = zenN G σ ρ j := by
  unfold zenN
  split <;> first | rfl | rw [zsI_ne h] | skip
  rw [show zslN G (zsI σ c k v) ρ j _ = zslN G σ ρ j _ from funext fun q => zslN_I (Or.inl h)]
theorem zenN_r {G : zG} {σ : zS} {ρ : Nat → Nat → Bool} {c k : Nat} {j : Nat} (h : j ≠ c) : zenN G σ (zrsM ρ c k) j = zenN G σ ρ j := by
  unfold zenN
  split <;> first | rfl | skip
  rw [show zslN G σ (zrsM ρ c k) j _ = zslN G σ ρ j _ from funext fun q => zslN_r (Or.inl h)]
theorem zenN_R {G : zG} {σ : zS} {ρ : Nat → Nat → Bool} {c k : Nat} {v : Nat} {j : Nat} (h : j ≠ c) : zenN G (zsR σ c k v) ρ j = zenN G σ ρ j := by
  unfold zenN
  split <;> first | rfl | skip
  rw [show zslN G (zsR σ c k v) ρ j _ = zslN G σ ρ j _ from funext fun q => zslN_R (Or.inl h)]
/-- what isn't there yet is blank -/
def zfrM (n : Nat) (σ : zS) (ρ : Nat → Nat → Bool) : Prop := ∀ c, n ≤ c → (∀ k, σ.1 c k = 0) ∧ (∀ k, σ.2.1 c k = 0) ∧ ∀ k, ρ c k = false
theorem zfrM.mono {n n' : Nat} {σ : zS} {ρ : Nat → Nat → Bool} (h : zfrM n σ ρ) (hn : n ≤ n') : zfrM n' σ ρ := fun c hc => h c (Nat.le_trans hn hc)
theorem zfrM.I {n c k : Nat} {v : Int32} {σ : zS} {ρ : Nat → Nat → Bool} (h : zfrM n σ ρ) (hc : c < n) : zfrM n (zsI σ c k v) ρ := fun a ha => by
  have hne : a ≠ c := by omega
  refine ⟨fun j => ?_, (h a ha).2⟩
  rw [zsI_ne hne]
  exact (h a ha).1 j
theorem zfrM.r {n c k : Nat} {σ : zS} {ρ : Nat → Nat → Bool} (h : zfrM n σ ρ) (hc : c < n) : zfrM n σ (zrsM ρ c k) := fun a ha => by
  have hne : a ≠ c := by omega
  refine ⟨(h a ha).1, (h a ha).2.1, fun j => ?_⟩
  unfold zrsM
  rw [if_neg (fun q => hne q.1)]
  exact (h a ha).2.2 j
theorem zfrM.R {n c k v : Nat} {σ : zS} {ρ : Nat → Nat → Bool} (h : zfrM n σ ρ) : zfrM n (zsR σ c k v) ρ := fun a ha => h a ha
def zdf (t : Nat) : Value := match t with
  | 0 => .int 0
  | 1 => .long 0
  | _ => .null
theorem zblank {G : zG} {n ci : Nat} {σ : zS} {ρ : Nat → Nat → Bool} (h : zfrM n σ ρ) {k : Nat} (hk : (zft ci k).1 < 5) : zslN G σ ρ n ci k = zdf (zft ci k).1 := by
  obtain ⟨h1, h2, h3⟩ := h n (Nat.le_refl _)
  obtain ⟨t, d, hq⟩ : ∃ t d, zft ci k = (t, d) := ⟨_, _, rfl⟩
  have ht : t < 5 := by rw [hq] at hk; exact hk
  unfold zslN
  rw [hq]
  rcases (show t = 0 ∨ t = 1 ∨ t = 2 ∨ t = 3 ∨ t = 4 by omega) with rfl | rfl | rfl | rfl | rfl
  · show Value.int (σ.1 n k) = _
    rw [h1]; rfl
  · show Value.long (σ.2.1 n k) = _
    rw [h2]; rfl
  · show (if ρ n k = true then _ else _) = _
    rw [h3]; rfl
  · show (if ρ n k = true then _ else _) = _
    rw [h3]; rfl
  · show (if ρ n k = true then _ else _) = _
    rw [h3]; rfl
section ZN
variable {G : zG} {cc : ByteArray} {nL : Nat} {own : String} {p : Program} {l : Launch} {e : Env} {R : Room} {s : State} {m : MethodId} {args : Array Value} {below : List Frame} {meth : Method} {c : Code} {cells slots : Nat} {Q : State → Prop} {n : Nat} {f : Nat → va_E} {σ : zS} {ρ : Nat → Nat → Bool} {pc : Nat} {lv : List (Nat × Value)} {st : List Value}
theorem zP_push {H H1 : Heap} (h : va_P G.2.1 zcl (zwl G.1 n f) H) (hz : H.size = G.1 + n) (o1 : ∀ q, q < G.1 + n → H1[q]? = H[q]?) (hn : va_at G.2.1 zcl (G.1 + n, f n) H1) : va_P G.2.1 zcl (zwl G.1 (n + 1) f) H1 := by
  intro k q hq
  obtain ⟨h1, rfl⟩ := zwl_lt hq
  by_cases hk : k = n
  · subst hk
    exact hn
  · have hk2 : k < n := by omega
    exact (h k _ (zwl_get hk2)).kept (o1 _ (by show G.1 + k < G.1 + n; omega))
theorem zS_push {H H1 : Heap} {locs : List Loc} (h : zH G n f s H locs) (z1 : H.size ≤ H1.size) (o1 : ∀ q, q < G.1 + n → H1[q]? = H[q]?) : va_S (zA G) s.heap H1 locs :=
  ⟨Nat.le_trans h.2.2.1 z1, fun q h1 h2 => (o1 q (by rw [← h.2.1]; exact Nat.lt_of_lt_of_le h1 h.2.2.1)).trans (h.2.2.2.1 q h1 h2), h.2.2.2.2⟩
theorem zn_new (C : zC G cc nL own p s m args meth c) {ci idx N : Nat} {Cn : String} {T : u_T} (ty : Nat → FieldType) (hz : zk n = (4, ci)) (hcl : zcl[ci]? = some (Cn, T, N)) (hty : ∀ k, k < N → parseFieldDescriptor (T k).2.2.1 = some (ty k)) (hdf : ∀ k, k < N → defaultValue (ty k) = zdf (zft ci k).1 ∧ (zft ci k).1 < 5) (hN : N ≤ 56) (hF : zfrM n σ ρ) (hm1 : Cond.classLink own idx Cn ∈ wsL_law) (hm2 : Cond.instantiable Cn N ∈ wsL_law) (hm3 : Cond.initialized Cn ∈ wsL_law) (hcs : cells + 1 ≤ R.cells ∧ slots + N ≤ R.slots) (d : decode cc pc = .ok (.new idx, 3))
    (kk : zfrM (n + 1) σ ρ → zW G nL p l e R s m args below meth c Q (cells + 1) (slots + N) (n + 1) (zenN G σ ρ) (pc + 3) lv (.ref (G.1 + n) :: st)) : zW G nL p l e R s m args below meth c Q cells slots n (zenN G σ ρ) pc lv st := by
  intro H locs ls h hl
  have hKn := C.2.1.1 ci _ hcl
  refine W.newcK C.1.1 C.1.2.1 C.1.2.2.2.1 (C.1.2.2.2.2 _ hm1) (C.1.2.2.2.2 _ hm2) (C.1.2.2.2.2 _ hm3) rfl d hcs.1 hcs.2 hKn.2.1 h.2.1 fun H1 kC hkC e1 z1 o1 => ?_
  refine kk (hF.mono (Nat.le_succ _)) H1 locs ls ⟨zP_push h.1 h.2.1 o1 ?_, z1, zS_push h (by rw [h.2.1, z1]; omega) o1⟩ hl
  rw [zenN_obj hz]
  refine ⟨_, hcl, (u_born ty C.1.2.2.2.2 (zin hcl) hKn hkC e1 hty).to fun j hj => ?_⟩
  obtain ⟨g1, g2⟩ := hdf j hj
  rw [g1]
  unfold vp_V
  rw [List.getD_eq_getElem?_getD, List.getElem?_map, List.getElem?_range (Nat.lt_of_lt_of_le hj hN)]
  exact (zblank hF g2).symm
theorem zouter (c : ClassId) (N h0 : Nat) : Jvm.Free.Multi.outerC c N h0 N = arrV c N (fun j => va_rf (if j < N then some (h0 + 1 + j) else none)) := by
  have key : ∀ i : Nat, Jvm.Free.Multi.outerC c N h0 i = arrV c N (fun j => va_rf (if j < i then some (h0 + 1 + j) else none)) := by
    intro i
    induction i with
    | zero =>
      show ({ cls := c, slots := Array.replicate N .null, vm := .none } : Cell) = _
      rw [arrV_new]
      refine congrArg (arrV c N) (funext fun j => ?_)
      simp [va_rf]
    | succ i ih =>
      show (Jvm.Free.Multi.outerC c N h0 i).setSlot i (.ref (h0 + 1 + i)) = _
      rw [ih, arrV_store]
      refine congrArg (arrV c N) (funext fun j => ?_)
      by_cases e : j = i
      · subst e
        simp [updV, va_rf]
      · by_cases h : j < i
        · simp [updV, e, h, Nat.lt_succ_of_lt h]
        · simp [updV, e, h, show ¬ j < i + 1 by omega]
  exact key N
theorem zn_newa_i (C : zC G cc nL own p s m args meth c) {N : Nat} {x : Int32} (hz : zk n = (0, N)) (hF : zfrM n σ ρ) (hm : Cond.arrayClass .int ∈ wsL_law) (hx : ¬ x < 0) (hN : x.toNatClampNeg = N) (hb : N * 4 ≤ 536870912) (hcs : cells + 1 ≤ R.cells ∧ slots + N ≤ R.slots) (d : decode cc pc = .ok (.newarray .int, 2))
    (kk : zfrM (n + 1) σ ρ → zW G nL p l e R s m args below meth c Q (cells + 1) (slots + N) (n + 1) (zenN G σ ρ) (pc + 2) lv (.ref (G.1 + n) :: st)) : zW G nL p l e R s m args below meth c Q cells slots n (zenN G σ ρ) pc lv (.int x :: st) := by
  intro H locs ls h hl
  refine va_newaK (atype := .int) C.1.1 C.1.2.1 (C.1.2.2.2.2 _ hm) rfl d rfl hx hN (Nat.le_trans (Nat.mul_le_mul_left _ (by decide)) hb) hcs.1 hcs.2 h.2.1 (fun H1 cA e1 z1 o1 _ hNm => ?_)
  have eA : cA = G.2.2.1 := Option.some.inj (hNm.symm.trans (C.2.1.2 0 (G.2.2.1, .int) rfl).2)
  subst eA
  refine kk (hF.mono (Nat.le_succ _)) H1 locs ls ⟨zP_push h.1 h.2.1 o1 ?_, z1, zS_push h (by rw [h.2.1, z1]; omega) o1⟩ hl
  rw [zenN_i hz]
  show H1[G.1 + n]? = some (vp_cell _ _)
  have e0 : σ.1 n = fun _ => 0 := funext (hF _ (Nat.le_refl _)).1
  rw [e1, vp_cell_i, e0]
  rfl
theorem zn_newa_b (C : zC G cc nL own p s m args meth c) {N : Nat} {x : Int32} (hz : zk n = (1, N)) (hF : zfrM n σ ρ) (hm : Cond.arrayClass .byte ∈ wsL_law) (hx : ¬ x < 0) (hN : x.toNatClampNeg = N) (hb : N * 4 ≤ 536870912) (hcs : cells + 1 ≤ R.cells ∧ slots + N ≤ R.slots) (d : decode cc pc = .ok (.newarray .byte, 2))
    (kk : zfrM (n + 1) σ ρ → zW G nL p l e R s m args below meth c Q (cells + 1) (slots + N) (n + 1) (zenN G σ ρ) (pc + 2) lv (.ref (G.1 + n) :: st)) : zW G nL p l e R s m args below meth c Q cells slots n (zenN G σ ρ) pc lv (.int x :: st) := by
  intro H locs ls h hl
  refine va_newaK (atype := .byte) C.1.1 C.1.2.1 (C.1.2.2.2.2 _ hm) rfl d rfl hx hN (Nat.le_trans (Nat.mul_le_mul_left _ (by decide)) hb) hcs.1 hcs.2 h.2.1 (fun H1 cA e1 z1 o1 _ hNm => ?_)
  have eA : cA = G.2.2.2.1 := Option.some.inj (hNm.symm.trans (C.2.1.2 1 (G.2.2.2.1, .byte) rfl).2)
  subst eA
  refine kk (hF.mono (Nat.le_succ _)) H1 locs ls ⟨zP_push h.1 h.2.1 o1 ?_, z1, zS_push h (by rw [h.2.1, z1]; omega) o1⟩ hl
  rw [zenN_b hz]
  show H1[G.1 + n]? = some (vp_cell _ _)
  have e0 : σ.1 n = fun _ => 0 := funext (hF _ (Nat.le_refl _)).1
  rw [e1, vp_cell_i, e0]
  rfl
theorem zn_newa_z (C : zC G cc nL own p s m args meth c) {N : Nat} {x : Int32} (hz : zk n = (2, N)) (hF : zfrM n σ ρ) (hm : Cond.arrayClass .boolean ∈ wsL_law) (hx : ¬ x < 0) (hN : x.toNatClampNeg = N) (hb : N * 4 ≤ 536870912) (hcs : cells + 1 ≤ R.cells ∧ slots + N ≤ R.slots) (d : decode cc pc = .ok (.newarray .boolean, 2))
    (kk : zfrM (n + 1) σ ρ → zW G nL p l e R s m args below meth c Q (cells + 1) (slots + N) (n + 1) (zenN G σ ρ) (pc + 2) lv (.ref (G.1 + n) :: st)) : zW G nL p l e R s m args below meth c Q cells slots n (zenN G σ ρ) pc lv (.int x :: st) := by
  intro H locs ls h hl
  refine va_newaK (atype := .boolean) C.1.1 C.1.2.1 (C.1.2.2.2.2 _ hm) rfl d rfl hx hN (Nat.le_trans (Nat.mul_le_mul_left _ (by decide)) hb) hcs.1 hcs.2 h.2.1 (fun H1 cA e1 z1 o1 _ hNm => ?_)
  have eA : cA = G.2.2.2.2.1 := Option.some.inj (hNm.symm.trans (C.2.1.2 2 (G.2.2.2.2.1, .boolean) rfl).2)
  subst eA
  refine kk (hF.mono (Nat.le_succ _)) H1 locs ls ⟨zP_push h.1 h.2.1 o1 ?_, z1, zS_push h (by rw [h.2.1, z1]; omega) o1⟩ hl
  rw [zenN_z hz]
  show H1[G.1 + n]? = some (vp_cell _ _)
  have e0 : σ.1 n = fun _ => 0 := funext (hF _ (Nat.le_refl _)).1
  rw [e1, vp_cell_i, e0]
  rfl

theorem zn_mna (C : zC G cc nL own p s m args meth c) {idx N K : Nat} {x k : Int32} (hz : zk n = (3, N)) (hz2 : ∀ j, j < N → zk (n + 1 + j) = (0, K)) (hF : zfrM n σ ρ) (hm1 : Cond.classLink own idx "[[I" ∈ wsL_law) (hm2 : Cond.arrayClass .int ∈ wsL_law) (hx : ¬ x < 0) (hk : ¬ k < 0) (hN : x.toNatClampNeg = N) (hK : k.toNatClampNeg = K) (hb : N * 4 ≤ 536870912 ∧ K * 4 ≤ 536870912) (hcs : cells + (1 + N) ≤ R.cells ∧ slots + (N + N * K) ≤ R.slots) (d : decode cc pc = .ok (.multianewarray idx 2, 4))
    (kk : zfrM (n + 1 + N) σ ρ → zW G nL p l e R s m args below meth c Q (cells + 1 + N) (slots + N + N * K) (n + 1 + N) (zenN G σ ρ) (pc + 4) lv (.ref (G.1 + n) :: st)) : zW G nL p l e R s m args below meth c Q cells slots n (zenN G σ ρ) pc lv (.int k :: .int x :: st) := by
  subst hN
  subst hK
  intro H locs ls h hl T hT X
  obtain ⟨vm₁, cA, comp, -, fA, fC, -, -, X', step⟩ := X.multianewarray2F (ty := .int) C.1.1 C.1.2.2.2.1 (C.1.2.2.2.2 _ hm1) C.2.2.1.2 (C.1.2.2.2.2 _ hm2) (g := F0 m pc ls (.int k :: .int x :: st)) rfl (by rw [C.1.2.1]; exact d) rfl hx hk hb.1 hb.2 (by have := hb.2; omega) rfl rfl hcs.1 hcs.2
  have eA : cA = G.2.2.2.2.2.1 := Option.some.inj (fA.symm.trans (C.2.1.2 3 (G.2.2.2.2.2.1, .array .int) rfl).2)
  have eC : comp = G.2.2.1 := Option.some.inj (fC.symm.trans (C.2.1.2 0 (G.2.2.1, .int) rfl).2)
  subst eA
  subst eC
  generalize hFF : Jvm.Free.Multi.fill (T.setVm vm₁) G.2.2.2.2.2.1 G.2.2.1 x.toNatClampNeg k.toNatClampNeg (defaultValue .int) x.toNatClampNeg = F at X' step
  have hTh : (T.setVm vm₁).heap = H := hT
  obtain ⟨f1, f2, -, -⟩ := Jvm.Free.Multi.fill_facts (T.setVm vm₁) G.2.2.2.2.2.1 G.2.2.1 x.toNatClampNeg k.toNatClampNeg (defaultValue .int) x.toNatClampNeg
  rw [hFF, hTh, h.2.1] at f1 f2
  have hold : ∀ q : Nat, q < G.1 + n → F.heap[q]? = H[q]? := fun q hq => by
    have := Jvm.Free.Multi.fill_old (T.setVm vm₁) G.2.2.2.2.2.1 G.2.2.1 x.toNatClampNeg k.toNatClampNeg (defaultValue .int) (a := q) (by rw [hTh, h.2.1]; exact hq) x.toNatClampNeg
    rw [hFF, hTh] at this
    exact this
  have hrow : ∀ j : Nat, j < x.toNatClampNeg → F.heap[G.1 + n + 1 + j]? = some (Jvm.Free.Multi.innerC G.2.2.1 k.toNatClampNeg (.int 0)) := fun j hj => by
    have := Jvm.Free.Multi.fill_inner (T.setVm vm₁) G.2.2.2.2.2.1 G.2.2.1 x.toNatClampNeg k.toNatClampNeg (defaultValue .int) x.toNatClampNeg j hj
    rw [hFF, hTh, h.2.1] at this
    exact this
  have hP : va_P G.2.1 zcl (zwl G.1 (n + 1 + x.toNatClampNeg) (zenN G σ ρ)) F.heap := by
    intro q w hw
    obtain ⟨h1, rfl⟩ := zwl_lt hw
    rcases Nat.lt_trichotomy q n with hq | rfl | hq
    · exact (h.1 q _ (zwl_get hq)).kept (hold _ (by show G.1 + q < G.1 + n; omega))
    · show va_at _ _ (G.1 + q, zenN G σ ρ q) _
      rw [zenN_q hz]
      show F.heap[G.1 + q]? = some (vp_cell _ _)
      rw [f2, vp_cell_q]
      congr 1
      rw [zouter]
      congr 1
      funext j
      rw [show G.1 + q + 1 + j = G.1 + (q + 1 + j) by omega]
    · obtain ⟨j, rfl⟩ : ∃ j, q = n + 1 + j := ⟨q - (n + 1), by omega⟩
      have hj : j < x.toNatClampNeg := by omega
      show va_at _ _ (G.1 + (n + 1 + j), zenN G σ ρ (n + 1 + j)) _
      rw [zenN_i (hz2 j hj)]
      show F.heap[G.1 + (n + 1 + j)]? = some (vp_cell _ _)
      rw [show G.1 + (n + 1 + j) = G.1 + n + 1 + j by omega, hrow j hj, vp_cell_i]
      have e0 : σ.1 (n + 1 + j) = fun _ => 0 := funext (hF _ (by omega)).1
      rw [e0]
      unfold Jvm.Free.Multi.innerC
      rw [arrV_new]
  obtain ⟨t, a1, b1⟩ := kk (hF.mono (by omega)) F.heap locs ls ⟨hP, by rw [f1]; omega, zS_push h (by rw [f1, h.2.1]; omega) hold⟩ hl F rfl X'
  refine ⟨t, step t ?_, b1⟩
  have ee : T.heap.size = G.1 + n := by rw [hT]; exact h.2.1
  rw [ee]
  exact a1
theorem zn_oi (C : zC G cc nL own p s m args meth c) {idx a : Nat} (hm : Cond.methodLink own idx objectInit ∈ wsL_law) (h1 : Cond.instanceMethod objectInit ∈ wsL_law) (h2 : Cond.code objectInit ⟨#[0xb1]⟩ 1 none ∈ wsL_law) (hfr : 1 ≤ R.frames) (hlo : (st.map fun v => v.category).sum + 12 ≤ R.locals) (d : decode cc pc = .ok (.invokespecial idx, 3))
    (kk : zW G nL p l e R s m args below meth c Q cells slots n f (pc + 3) lv st) : zW G nL p l e R s m args below meth c Q cells slots n f pc lv (.ref a :: st) :=
  fun H locs ls h hl => W.objInit C.1.1 C.1.2.1 C.1.2.2.2.1 (C.1.2.2.2.2 _ hm) (C.1.2.2.2.2 _ h1) (C.1.2.2.2.2 _ h2) rfl (hl.1.trans C.1.2.2.1.symm) rfl d hfr (by show 2 * 0 + _ + 12 ≤ _; omega) (kk H locs ls h hl)
theorem zn_putI (C : zC G cc nL own p s m args meth c) {ci k idx N a : Nat} {Cn : String} {T : u_T} {v : Int32} {ty : FieldType} (c0 : Nat) (hc : c0 < n) (hz : zk c0 = (4, ci)) (hcl : zcl[ci]? = some (Cn, T, N)) (hk : k < N ∧ k < 56) (hm : Cond.fieldLink own idx (T k).1 (T k).2.1 (T k).2.2.1 ∈ wsL_law) (hfin : (T k).2.2.2 = false) (hd : parseFieldDescriptor (T k).2.2.1 = some ty) (hn : narrow ty (.int v) = .int v) (hft : fits ty (.int v) = true) (hz0 : zft ci k = (0, a)) (hF : zfrM n σ ρ) (d : decode cc pc = .ok (.putfield idx, 3))
    (kk : zfrM n (zsI σ c0 k v) ρ → zW G nL p l e R s m args below meth c Q cells slots n (zenN G (zsI σ c0 k v) ρ) (pc + 3) lv st) : zW G nL p l e R s m args below meth c Q cells slots n (zenN G σ ρ) pc lv (.int v :: .ref (G.1 + c0) :: st) := by
  refine zr_putf (f' := zenN G (zsI σ c0 k v) ρ) C c0 hc (zenN_obj hz) hcl hk.1 hm (Or.inl hfin) hd hn hft (by simpa using hk.2) d ?_ (fun j hj => zenN_I hj) (kk (hF.I hc))
  rw [zenN_obj hz, zset_slots (g' := zslN G (zsI σ c0 k v) ρ c0 ci) ?_ (fun j hj => zslN_I (Or.inr hj))]
  unfold zslN
  rw [hz0]
  simp [zsI]
theorem zn_putR (C : zC G cc nL own p s m args meth c) {ci k idx N a t : Nat} {Cn : String} {T : u_T} {ty : FieldType} (c0 v : Nat) (hc : c0 < n) (hz : zk c0 = (4, ci)) (hcl : zcl[ci]? = some (Cn, T, N)) (hk : k < N ∧ k < 56) (hm : Cond.fieldLink own idx (T k).1 (T k).2.1 (T k).2.2.1 ∈ wsL_law) (hfin : (T k).2.2.2 = false ∨ ((T k).2.2.2 = true ∧ meth.name = "<init>" ∧ (T k).1 = own)) (hd : parseFieldDescriptor (T k).2.2.1 = some ty) (hn : narrow ty (.ref (G.1 + v)) = .ref (G.1 + v)) (hft : fits ty (.ref (G.1 + v)) = true) (hz0 : zft ci k = (t, a)) (ht : (t = 2 ∧ c0 + a = v) ∨ (t = 3 ∧ a = v)) (hF : zfrM n σ ρ) (d : decode cc pc = .ok (.putfield idx, 3))
    (kk : zfrM n σ (zrsM ρ c0 k) → zW G nL p l e R s m args below meth c Q cells slots n (zenN G σ (zrsM ρ c0 k)) (pc + 3) lv st) : zW G nL p l e R s m args below meth c Q cells slots n (zenN G σ ρ) pc lv (.ref (G.1 + v) :: .ref (G.1 + c0) :: st) := by
  refine zr_putf (f' := zenN G σ (zrsM ρ c0 k)) C c0 hc (zenN_obj hz) hcl hk.1 hm hfin hd hn hft (by simpa using hk.2) d ?_ (fun j hj => zenN_r hj) (kk (hF.r hc))
  rw [zenN_obj hz, zset_slots (g' := zslN G σ (zrsM ρ c0 k) c0 ci) ?_ (fun j hj => zslN_r (Or.inr hj))]
  unfold zslN
  rw [hz0]
  rcases ht with ⟨rfl, rfl⟩ | ⟨rfl, rfl⟩ <;> simp [zrsM]
theorem zn_putM (C : zC G cc nL own p s m args meth c) {ci k idx N a : Nat} {Cn : String} {T : u_T} {ty : FieldType} (c0 v : Nat) (hc : c0 < n) (hz : zk c0 = (4, ci)) (hcl : zcl[ci]? = some (Cn, T, N)) (hk : k < N ∧ k < 56) (hm : Cond.fieldLink own idx (T k).1 (T k).2.1 (T k).2.2.1 ∈ wsL_law) (hfin : (T k).2.2.2 = false ∨ ((T k).2.2.2 = true ∧ meth.name = "<init>" ∧ (T k).1 = own)) (hd : parseFieldDescriptor (T k).2.2.1 = some ty) (hn : narrow ty (.ref (G.1 + v)) = .ref (G.1 + v)) (hft : fits ty (.ref (G.1 + v)) = true) (hz0 : zft ci k = (4, a)) (hF : zfrM n σ ρ) (d : decode cc pc = .ok (.putfield idx, 3))
    (kk : zfrM n (zsR σ c0 k v) (zrsM ρ c0 k) → zW G nL p l e R s m args below meth c Q cells slots n (zenN G (zsR σ c0 k v) (zrsM ρ c0 k)) (pc + 3) lv st) : zW G nL p l e R s m args below meth c Q cells slots n (zenN G σ ρ) pc lv (.ref (G.1 + v) :: .ref (G.1 + c0) :: st) := by
  refine zr_putf (f' := zenN G (zsR σ c0 k v) (zrsM ρ c0 k)) C c0 hc (zenN_obj hz) hcl hk.1 hm hfin hd hn hft (by simpa using hk.2) d ?_ (fun j hj => (zenN_r hj).trans (zenN_R hj)) (kk (hF.R.r hc))
  rw [zenN_obj hz, zset_slots (g' := zslN G (zsR σ c0 k v) (zrsM ρ c0 k) c0 ci) ?_ (fun j hj => (zslN_r (Or.inr hj)).trans (zslN_R (Or.inr hj)))]
  unfold zslN
  rw [hz0]
  simp [zrsM, zsR]
theorem zn_get (C : zC G cc nL own p s m args meth c) {ci k idx N a t : Nat} {Cn : String} {T : u_T} (c0 v : Nat) (hc : c0 < n) (hz : zk c0 = (4, ci)) (hcl : zcl[ci]? = some (Cn, T, N)) (hk : k < N ∧ k < 56) (hm : Cond.fieldLink own idx (T k).1 (T k).2.1 (T k).2.2.1 ∈ wsL_law) (hz0 : zft ci k = (t, a)) (ht : (t = 2 ∧ c0 + a = v) ∨ (t = 3 ∧ a = v) ∨ (t = 4 ∧ σ.2.2 c0 k = v)) (hρ : ρ c0 k = true) (d : decode cc pc = .ok (.getfield idx, 3))
    (kk : zW G nL p l e R s m args below meth c Q cells slots n (zenN G σ ρ) (pc + 3) lv (.ref (G.1 + v) :: st)) : zW G nL p l e R s m args below meth c Q cells slots n (zenN G σ ρ) pc lv (.ref (G.1 + c0) :: st) := by
  refine zr_getf (v := .ref (G.1 + v)) C c0 hc (zenN_obj hz) hcl hk.1 hm ?_ d kk
  rw [List.getElem?_map, List.getElem?_range hk.2]
  show some (zslN G σ ρ c0 ci k) = _
  unfold zslN
  rw [hz0]
  rcases ht with ⟨rfl, rfl⟩ | ⟨rfl, rfl⟩ | ⟨rfl, rfl⟩ <;> simp [hρ]
theorem zn_iast (C : zC G cc nL own p s m args meth c) {N : Nat} {i x : Int32} (c0 j : Nat) (hc : c0 < n) (hz : zk c0 = (0, N)) (hi : zi i N = true) (hj : i.toNatClampNeg = j) (hF : zfrM n σ ρ) (d : decode cc pc = .ok (.iastore, 1)) (kk : zfrM n (zsI σ c0 j x) ρ → zW G nL p l e R s m args below meth c Q cells slots n (zenN G (zsI σ c0 j x) ρ) (pc + 1) lv st) : zW G nL p l e R s m args below meth c Q cells slots n (zenN G σ ρ) pc lv (.int x :: .int i :: .ref (G.1 + c0) :: st) := by
  subst hj
  exact zr_iast (f' := zenN G (zsI σ c0 i.toNatClampNeg x) ρ) C c0 hc (zenN_i hz) hi d (by rw [zenN_i hz, zsI_upd]) (fun j hj => zenN_I hj) (kk (hF.I hc))
/-- a constructor's call -/
theorem zn_callN (C : zC G cc nL own p s m args meth c) {y : MethodName} {b : ByteArray} {nLy na idx a n' : Nat} {rm : Room} {f' : Nat → va_E} {host : String} {As st0 : List Value} (hM : zMV G l y b nLy none rm (.ref a :: As) n f n' f') (h1 : Cond.instanceMethod y ∈ wsL_law) (h2 : Cond.initialized y.cls ∈ wsL_law) (h3 : Cond.code y b nLy none ∈ wsL_law) (h4 : y.cls ≠ "java/lang/invoke/MethodHandle" ∧ y.cls ≠ "java/lang/invoke/VarHandle" ∧ (parseMethodDescriptor y.desc).map (fun d => d.parameters.length) = some na) (h5 : y.name = "<init>") (hm : Cond.methodLinkNest own idx y host ∈ zNest) (hn : As.length = na) (hst : st0 = As.reverse ++ .ref a :: st) (hcat : (st.map fun v => v.category).sum ≤ 8) (hR : rm.frames + 1 ≤ R.frames ∧ 8 + (nLy + 11) + rm.locals ≤ R.locals) (hf3 : cells + rm.cells ≤ R.cells ∧ slots + rm.slots ≤ R.slots) (d : decode cc pc = .ok (.invokespecial idx, 3))
    (kk : zW G nL p l e R s m args below meth c Q (cells + rm.cells) (slots + rm.slots) n' f' (pc + 3) lv st) : zW G nL p l e R s m args below meth c Q cells slots n f pc lv st0 := by
  intro H locs ls h hl
  refine va_callv (va_runIN (As := As) (rest := st) C.1 hM ⟨⟨⟨rfl, rfl, hR.1, hR.2, pay_in C.1.2.2.2.2 (zgc h3), List.mem_cons_self⟩, C.1.2.2.2.2 _ h3, C.1.2.2.2.2 _ h2, ⟨h4.1, h4.2.1⟩, fun sig hh => zpl h4.2.2 hh, va_Nw.use rfl (C.2.2.1.1 _ hm)⟩, h5, C.1.2.2.2.2 _ h1⟩ ⟨zok.blind, fun U hU hW => ⟨rfl, zok_of C h hU hW⟩⟩ rfl hn hl.1 hst (lv_room hcat) d hf3) h.2.2 (fun q _ h => h) (fun q h => h) (fun u t H1 locs1 ht hvm hw hB hz1 hk1 hS => ?_)
  exact kk H1 locs1 ls ⟨by rw [← ht]; exact hB.1, by rw [← ht]; exact hB.2.1, hS⟩ hl
theorem zn_callI (C : zC G cc nL own p s m args meth c) {y : MethodName} {b : ByteArray} {nLy na idx a n' : Nat} {rm : Room} {f' : Nat → va_E} {As st0 : List Value} (hM : zMV G l y b nLy none rm (.ref a :: As) n f n' f') (h1 : Cond.instanceMethod y ∈ wsL_law) (h2 : Cond.initialized y.cls ∈ wsL_law) (h3 : Cond.code y b nLy none ∈ wsL_law) (h4 : y.cls ≠ "java/lang/invoke/MethodHandle" ∧ y.cls ≠ "java/lang/invoke/VarHandle" ∧ (parseMethodDescriptor y.desc).map (fun d => d.parameters.length) = some na) (h5 : y.name = "<init>") (hm : Cond.methodLink own idx y ∈ wsL_law) (hn : As.length = na) (hst : st0 = As.reverse ++ .ref a :: st) (hcat : (st.map fun v => v.category).sum ≤ 8) (hR : rm.frames + 1 ≤ R.frames ∧ 8 + (nLy + 11) + rm.locals ≤ R.locals) (hf3 : cells + rm.cells ≤ R.cells ∧ slots + rm.slots ≤ R.slots) (d : decode cc pc = .ok (.invokespecial idx, 3))
    (kk : zW G nL p l e R s m args below meth c Q (cells + rm.cells) (slots + rm.slots) n' f' (pc + 3) lv st) : zW G nL p l e R s m args below meth c Q cells slots n f pc lv st0 := by
  intro H locs ls h hl
  refine va_callv (va_runI (As := As) (rest := st) C.1 hM ⟨zcB C h3 h2 h4 hm hR, h5, C.1.2.2.2.2 _ h1⟩ ⟨zok.blind, fun U hU hW => ⟨rfl, zok_of C h hU hW⟩⟩ rfl hn hl.1 hst (lv_room hcat) d hf3) h.2.2 (fun q _ h => h) (fun q h => h) (fun u t H1 locs1 ht hvm hw hB hz1 hk1 hS => ?_)
  exact kk H1 locs1 ls ⟨by rw [← ht]; exact hB.1, by rw [← ht]; exact hB.2.1, hS⟩ hl
theorem zentN {y : MethodName} {b : ByteArray} {nLy : Nat} {ret : Option FieldType} {rm : Room} {av : List Value} {n' : Nat} {f' : Nat → va_E} (hy : plainName y.cls = true) (hlen : (lg_sl av).length ≤ nLy)
    (body : ∀ (p : Program) (e : Env) (s : State) (m : MethodId) (args : Array Value) (below : List Frame) (meth : Method) (c : Code), zC G b nLy y.cls p s m args meth c → meth.sig.returnType = ret → meth.name = y.name →
      zW G nLy p l e rm s m args below meth c (MQ below (va_Qv (fun (_ : Unit) => True) (fun _ t => zok G n' f' t) (zA G)) args s rm.cells rm.slots (zA G)) 0 0 n f 0 (lv_args 0 av) []) : zMV G l y b nLy ret rm av n f n' f' := by
  refine Met.ofW (cc := b) (maxL := nLy) (ret := ret) hy rfl ?_
  intro p e s m args below meth c s₁ B hml hP
  obtain ⟨rfl, ok⟩ := hP
  have hts : ∀ w ∈ wsL_law, w.before av.toArray s = true := fun w hw => atoms_spec (ws := zWs y b nLy ret) B.pre w (List.mem_cons_of_mem _ hw)
  have C : zC G b nLy y.cls p s m av.toArray meth c := ⟨⟨B.exec, B.bytes, hml, findClass_of_methodNamed B.named, hts⟩, ok.2.2.1, ok.2.2.2.1, ok.2.2.2.2, B.notSynchronized, by rw [ok.2.1]; exact Nat.le_add_right _ _⟩
  have hl := lv_entry av (n := nLy) hlen
  rw [lg_entry_eq]
  exact body p e s m av.toArray below meth c C B.returns (name_of_methodNamed B.named B.method).1 s.heap [] _ ⟨ok.1, ok.2.1, va_S.rf⟩ hl
end ZN
