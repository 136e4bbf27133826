/-! ===== the state: ints, longs, references of all cells; which cell is what ===== -/
def zkl : List (Nat × Nat) := [(4, 10), (4, 8), (1, 320), (4, 3), (0, 16), (0, 16), (0, 16), (3, 16), (0, 8), (0, 8), (0, 8), (0, 8), (0, 8), (0, 8), (0, 8), (0, 8), (0, 8), (0, 8), (0, 8), (0, 8), (0, 8), (0, 8), (0, 8), (0, 8), (0, 40), (0, 40), (0, 40), (0, 40), (0, 40), (0, 40), (0, 4), (1, 6000), (0, 6001), (4, 3), (0, 16), (0, 16), (0, 16), (3, 16), (0, 8), (0, 8), (0, 8), (0, 8), (0, 8), (0, 8), (0, 8), (0, 8), (0, 8), (0, 8), (0, 8), (0, 8), (0, 8), (0, 8), (0, 8), (0, 8), (0, 40), (0, 40), (0, 40), (0, 40), (0, 40), (0, 40), (0, 4), (1, 6000), (0, 6001), (4, 4), (4, 1), (3, 16), (0, 8), (0, 8), (0, 8), (0, 8), (0, 8), (0, 8), (0, 8), (0, 8), (0, 8), (0, 8), (0, 8), (0, 8), (0, 8), (0, 8), (0, 8), (0, 8), (4, 0), (0, 4), (0, 4), (0, 8), (2, 256), (0, 256), (4, 9), (4, 6), (0, 16), (4, 2), (4, 5), (0, 12), (0, 12), (0, 12), (0, 36), (4, 7), (0, 4), (0, 4), (3, 4), (0, 40), (0, 40), (0, 40), (0, 40), (4, 11), (0, 16), (0, 128), (0, 16), (0, 40), (0, 40), (0, 6000), (0, 16), (0, 16), (0, 128), (0, 16), (0, 40), (0, 40), (0, 5), (0, 100), (0, 100), (0, 320), (0, 40), (0, 40), (0, 128), (0, 4), (0, 4), (0, 256), (2, 256), (0, 8), (0, 16), (0, 12), (0, 12), (0, 12), (0, 4), (0, 4), (0, 160)]
def zk (c : Nat) : Nat × Nat := zkl.getD c (9, 9)
def zftl : List (List (Nat × Nat)) := [[(0, 0), (3, 83), (3, 84), (3, 85), (3, 86), (3, 87), (0, 0)], [(3, 65)], [(0, 0), (0, 0), (0, 0), (0, 0)], [(0, 0), (2, 1), (2, 2), (2, 3), (2, 4), (0, 0), (2, 21), (2, 22), (2, 23), (2, 24), (2, 25), (2, 26), (2, 27), (0, 0), (0, 0), (0, 0), (0, 0), (2, 28), (2, 29)], [(3, 1), (4, 0), (0, 0), (0, 0), (0, 0), (0, 0), (0, 0), (0, 0)], [(0, 0), (3, 93), (3, 94), (3, 95), (0, 0), (3, 96)], [(3, 90), (0, 0), (0, 0)], [(3, 98), (3, 99), (3, 100)], [(3, 2), (0, 0)], [(0, 0), (0, 0)], [(3, 1), (4, 0), (4, 0), (3, 63), (3, 64), (3, 82), (3, 88), (3, 89), (3, 91), (3, 92), (3, 97), (0, 0)], [(0, 0), (3, 106), (3, 107), (3, 108), (0, 0), (3, 109), (3, 110), (0, 0), (3, 111), (3, 112), (0, 0), (0, 0), (3, 113), (3, 114), (3, 115), (0, 0), (3, 116), (3, 117), (3, 118), (0, 0), (3, 119), (3, 120), (0, 0), (0, 0), (3, 121), (0, 0), (0, 0), (0, 0), (0, 0), (0, 0), (0, 0), (0, 0), (3, 122), (3, 123), (0, 0), (3, 124), (0, 0), (3, 125), (3, 126), (3, 127), (3, 128), (0, 0), (3, 129), (1, 0), (1, 0), (0, 0), (0, 0), (3, 130), (0, 0), (0, 0), (3, 131), (3, 132), (3, 133), (3, 134), (3, 135), (3, 136)]]
def zft (ci k : Nat) : Nat × Nat := (zftl.getD ci []).getD k (9, 9)
def zsl (G : zG) (σ : zS) (c ci k : Nat) : Value := match zft ci k with
  | (0, _) => .int (σ.1 c k)
  | (1, _) => .long (σ.2.1 c k)
  | (2, d) => .ref (G.1 + (c + d))
  | (3, a) => .ref (G.1 + a)
  | _ => .ref (G.1 + σ.2.2 c k)
def zen (G : zG) (σ : zS) (c : Nat) : va_E := match zk c with
  | (0, x) => .inl (G.2.2.1, x, .inl (σ.1 c))
  | (1, x) => .inl (G.2.2.2.1, x, .inl (σ.1 c))
  | (2, x) => .inl (G.2.2.2.2.1, x, .inl (σ.1 c))
  | (3, x) => .inl (G.2.2.2.2.2.1, x, .inr (.inr (.inr (.inr (fun j => if j < x then some (G.1 + (c + 1 + j)) else none)))))
  | (_, ci) => .inr (ci, (List.range 56).map (zsl G σ c ci))
def zsI (σ : zS) (c k : Nat) (v : Int32) : zS := (fun a j => if a = c ∧ j = k then v else σ.1 a j, σ.2)
def zsL (σ : zS) (c k : Nat) (v : Int64) : zS := (σ.1, fun a j => if a = c ∧ j = k then v else σ.2.1 a j, σ.2.2)
def zsR (σ : zS) (c k : Nat) (v : Nat) : zS := (σ.1, σ.2.1, fun a j => if a = c ∧ j = k then v else σ.2.2 a j)
theorem zk_lt {c t x : Nat} (h : zk c = (t, x)) (ht : t < 9) : c < 137 := by
  rcases Nat.lt_or_ge c 137 with h1 | h1
  · exact h1
  · have h2 : zk c = (9, 9) := by
      unfold zk
      rw [List.getD_eq_getElem?_getD, List.getElem?_eq_none (by exact h1)]
      rfl
    rw [h2] at h
    cases h
    exact absurd ht (by decide)
theorem zsI_ne {σ : zS} {c k : Nat} {v : Int32} {j : Nat} (h : j ≠ c) : (zsI σ c k v).1 j = σ.1 j := by
  funext i
  simp [zsI, h]
theorem zsI_upd {σ : zS} {c k : Nat} {v : Int32} : (zsI σ c k v).1 c = upd (σ.1 c) k v := by
  funext i
  simp [zsI, upd]
theorem zsl_I {G : zG} {σ : zS} {c k ci : Nat} {v : Int32} {c' k' : Nat} (h : c' ≠ c ∨ k' ≠ k) : zsl G (zsI σ c k v) c' ci k' = zsl G σ c' ci k' := by
  unfold zsl
  split <;> try rfl
  simp only [zsI]
  rw [if_neg]
  rintro ⟨a, b⟩
  rcases h with h | h
  · exact h a
  · exact h b
theorem zsl_L {G : zG} {σ : zS} {c k ci : Nat} {v : Int64} {c' k' : Nat} (h : c' ≠ c ∨ k' ≠ k) : zsl G (zsL σ c k v) c' ci k' = zsl G σ c' ci k' := by
  unfold zsl
  split <;> try rfl
  simp only [zsL]
  rw [if_neg]
  rintro ⟨a, b⟩
  rcases h with h | h
  · exact h a
  · exact h b
theorem zsl_R {G : zG} {σ : zS} {c k ci : Nat} {v : Nat} {c' k' : Nat} (h : c' ≠ c ∨ k' ≠ k) : zsl G (zsR σ c k v) c' ci k' = zsl G σ c' ci k' := by
  unfold zsl
  split <;> try rfl
  simp only [zsR]
  rw [if_neg]
  rintro ⟨a, b⟩
  rcases h with h | h
  · exact h a
  · exact h b
theorem zen_I {G : zG} {σ : zS} {c k : Nat} {v : Int32} {j : Nat} (h : j ≠ c) : zen G (zsI σ c k v) j = zen G σ j := by
  unfold zen
  split <;> first | rfl | rw [zsI_ne h] | skip
  rw [show zsl G (zsI σ c k v) j _ = zsl G σ j _ from funext fun q => zsl_I (Or.inl h)]
theorem zen_L {G : zG} {σ : zS} {c k : Nat} {v : Int64} {j : Nat} (h : j ≠ c) : zen G (zsL σ c k v) j = zen G σ j := by
  unfold zen
  split <;> first | rfl | skip
  rw [show zsl G (zsL σ c k v) j _ = zsl G σ j _ from funext fun q => zsl_L (Or.inl h)]
theorem zen_R {G : zG} {σ : zS} {c k : Nat} {v : Nat} {j : Nat} (h : j ≠ c) : zen G (zsR σ c k v) j = zen G σ j := by
  unfold zen
  split <;> first | rfl | skip
  rw [show zsl G (zsR σ c k v) j _ = zsl G σ j _ from funext fun q => zsl_R (Or.inl h)]
theorem zen_obj {G : zG} {σ : zS} {c ci : Nat} (h : zk c = (4, ci)) : zen G σ c = .inr (ci, (List.range 56).map (zsl G σ c ci)) := by
  unfold zen
  rw [h]
  rfl
theorem zen_i {G : zG} {σ : zS} {c x : Nat} (h : zk c = (0, x)) : zen G σ c = .inl (G.2.2.1, x, .inl (σ.1 c)) := by
  unfold zen
  rw [h]
  rfl
theorem zen_b {G : zG} {σ : zS} {c x : Nat} (h : zk c = (1, x)) : zen G σ c = .inl (G.2.2.2.1, x, .inl (σ.1 c)) := by
  unfold zen
  rw [h]
  rfl
theorem zen_z {G : zG} {σ : zS} {c x : Nat} (h : zk c = (2, x)) : zen G σ c = .inl (G.2.2.2.2.1, x, .inl (σ.1 c)) := by
  unfold zen
  rw [h]
  rfl
theorem zen_q {G : zG} {σ : zS} {c x : Nat} (h : zk c = (3, x)) : zen G σ c = .inl (G.2.2.2.2.2.1, x, .inr (.inr (.inr (.inr (fun j => if j < x then some (G.1 + (c + 1 + j)) else none))))) := by
  unfold zen
  rw [h]
  rfl
theorem zget_slot {G : zG} {σ : zS} {c ci k : Nat} (h : k < 56) : ((List.range 56).map (zsl G σ c ci))[k]? = some (zsl G σ c ci k) := by
  rw [List.getElem?_map, List.getElem?_range h]
  rfl
theorem zset_slots {g g' : Nat → Value} {k : Nat} {v : Value} (hv : g' k = v) (ho : ∀ j, j ≠ k → g' j = g j) : ((List.range 56).map g).set k v = (List.range 56).map g' := by
  apply List.ext_getElem?
  intro j
  by_cases hj : j < 56
  · by_cases hjk : j = k
    · subst hjk
      rw [List.getElem?_set_self (by simpa using hj), List.getElem?_map, List.getElem?_range hj]
      simp [hv]
    · rw [List.getElem?_set_ne (Ne.symm hjk), List.getElem?_map, List.getElem?_map, List.getElem?_range hj]
      simp [ho j hjk]
  · rw [List.getElem?_eq_none (by rw [List.length_set]; simpa using hj), List.getElem?_eq_none (by simpa using hj)]
section ZS
variable {G : zG} {cc : ByteArray} {nL : Nat} {own : String} {p : Program} {l : Launch} {e : Env} {R : Room} {s : State} {m : MethodId} {args : Array Value} {below : List Frame} {meth : Method} {c : Code} {cells slots : Nat} {Q : State → Prop}
variable {σ : zS} {pc : Nat} {lv : List (Nat × Value)} {st : List Value}
/-- the machine over a state of all cells -/
abbrev zU (G : zG) (nL : Nat) (p : Program) (l : Launch) (e : Env) (R : Room) (s : State) (m : MethodId) (args : Array Value) (below : List Frame) (meth : Method) (c : Code) (Q : State → Prop) (σ : zS) (pc : Nat) (lv : List (Nat × Value)) (st : List Value) : Prop := zW G nL p l e R s m args below meth c Q 0 0 137 (zen G σ) pc lv st
theorem zu_get (C : zC G cc nL own p s m args meth c) {ci k idx N : Nat} {Cn : String} {T : u_T} {v : Value} (c0 : Nat) (hz : zk c0 = (4, ci)) (hcl : zcl[ci]? = some (Cn, T, N)) (hk : k < N ∧ k < 56) (hm : Cond.fieldLink own idx (T k).1 (T k).2.1 (T k).2.2.1 ∈ wsL_law) (hv : zsl G σ c0 ci k = v) (d : decode cc pc = .ok (.getfield idx, 3))
    (kk : zU G nL p l e R s m args below meth c Q σ (pc + 3) lv (v :: st)) : zU G nL p l e R s m args below meth c Q σ pc lv (.ref (G.1 + c0) :: st) :=
  zr_getf C c0 (zk_lt hz (by decide)) (zen_obj hz) hcl hk.1 hm (by rw [zget_slot hk.2, hv]) d kk
theorem zu_putI (C : zC G cc nL own p s m args meth c) {ci k idx N a : Nat} {Cn : String} {T : u_T} {v : Int32} {ty : FieldType} (c0 : Nat) (hz : zk c0 = (4, ci)) (hcl : zcl[ci]? = some (Cn, T, N)) (hk : k < N ∧ k < 56) (hm : Cond.fieldLink own idx (T k).1 (T k).2.1 (T k).2.2.1 ∈ wsL_law) (hfin : (T k).2.2.2 = false) (hd : parseFieldDescriptor (T k).2.2.1 = some ty) (hn : narrow ty (.int v) = .int v) (hft : fits ty (.int v) = true) (hz0 : zft ci k = (0, a)) (d : decode cc pc = .ok (.putfield idx, 3))
    (kk : zU G nL p l e R s m args below meth c Q (zsI σ c0 k v) (pc + 3) lv st) : zU G nL p l e R s m args below meth c Q σ pc lv (.int v :: .ref (G.1 + c0) :: st) := by
  refine zr_putf (f' := zen G (zsI σ c0 k v)) C c0 (zk_lt hz (by decide)) (zen_obj hz) hcl hk.1 hm (Or.inl hfin) hd hn hft (by simpa using hk.2) d ?_ (fun j hj => zen_I hj) kk
  rw [zen_obj hz, zset_slots (g' := zsl G (zsI σ c0 k v) c0 ci) ?_ (fun j hj => zsl_I (Or.inr hj))]
  unfold zsl
  rw [hz0]
  simp [zsI]
theorem zu_putL (C : zC G cc nL own p s m args meth c) {ci k idx N a : Nat} {Cn : String} {T : u_T} {v : Int64} (c0 : Nat) (hz : zk c0 = (4, ci)) (hcl : zcl[ci]? = some (Cn, T, N)) (hk : k < N ∧ k < 56) (hm : Cond.fieldLink own idx (T k).1 (T k).2.1 (T k).2.2.1 ∈ wsL_law) (hfin : (T k).2.2.2 = false) (hd : parseFieldDescriptor (T k).2.2.1 = some .long) (hz0 : zft ci k = (1, a)) (d : decode cc pc = .ok (.putfield idx, 3))
    (kk : zU G nL p l e R s m args below meth c Q (zsL σ c0 k v) (pc + 3) lv st) : zU G nL p l e R s m args below meth c Q σ pc lv (.long v :: .ref (G.1 + c0) :: st) := by
  refine zr_putf (f' := zen G (zsL σ c0 k v)) C c0 (zk_lt hz (by decide)) (zen_obj hz) hcl hk.1 hm (Or.inl hfin) hd rfl rfl (by simpa using hk.2) d ?_ (fun j hj => zen_L hj) kk
  rw [zen_obj hz, zset_slots (g' := zsl G (zsL σ c0 k v) c0 ci) ?_ (fun j hj => zsl_L (Or.inr hj))]
  unfold zsl
  rw [hz0]
  simp [zsL]
theorem zu_putR (C : zC G cc nL own p s m args meth c) {ci k idx N a : Nat} {Cn nm : String} {T : u_T} {v : Nat} (c0 : Nat) (hz : zk c0 = (4, ci)) (hcl : zcl[ci]? = some (Cn, T, N)) (hk : k < N ∧ k < 56) (hm : Cond.fieldLink own idx (T k).1 (T k).2.1 (T k).2.2.1 ∈ wsL_law) (hfin : (T k).2.2.2 = false) (hd : parseFieldDescriptor (T k).2.2.1 = some (.object nm)) (hz0 : zft ci k = (4, a)) (d : decode cc pc = .ok (.putfield idx, 3))
    (kk : zU G nL p l e R s m args below meth c Q (zsR σ c0 k v) (pc + 3) lv st) : zU G nL p l e R s m args below meth c Q σ pc lv (.ref (G.1 + v) :: .ref (G.1 + c0) :: st) := by
  refine zr_putf (f' := zen G (zsR σ c0 k v)) C c0 (zk_lt hz (by decide)) (zen_obj hz) hcl hk.1 hm (Or.inl hfin) hd rfl rfl (by simpa using hk.2) d ?_ (fun j hj => zen_R hj) kk
  rw [zen_obj hz, zset_slots (g' := zsl G (zsR σ c0 k v) c0 ci) ?_ (fun j hj => zsl_R (Or.inr hj))]
  unfold zsl
  rw [hz0]
  simp [zsR]
theorem zu_iald (C : zC G cc nL own p s m args meth c) {N : Nat} {i : Int32} (c0 : Nat) (hz : zk c0 = (0, N)) (hi : zi i N = true) (d : decode cc pc = .ok (.iaload, 1)) (kk : zU G nL p l e R s m args below meth c Q σ (pc + 1) lv (.int (σ.1 c0 i.toNatClampNeg) :: st)) : zU G nL p l e R s m args below meth c Q σ pc lv (.int i :: .ref (G.1 + c0) :: st) :=
  zr_iald C c0 (zk_lt hz (by decide)) (zen_i hz) hi d kk
theorem zu_bald (C : zC G cc nL own p s m args meth c) {N : Nat} {i : Int32} (c0 : Nat) (hz : zk c0 = (1, N)) (hi : zi i N = true) (d : decode cc pc = .ok (.baload, 1)) (kk : zU G nL p l e R s m args below meth c Q σ (pc + 1) lv (.int (σ.1 c0 i.toNatClampNeg) :: st)) : zU G nL p l e R s m args below meth c Q σ pc lv (.int i :: .ref (G.1 + c0) :: st) :=
  zr_bald C c0 (zk_lt hz (by decide)) (zen_b hz) hi d kk
theorem zu_zald (C : zC G cc nL own p s m args meth c) {N : Nat} {i : Int32} (c0 : Nat) (hz : zk c0 = (2, N)) (hi : zi i N = true) (d : decode cc pc = .ok (.baload, 1)) (kk : zU G nL p l e R s m args below meth c Q σ (pc + 1) lv (.int (σ.1 c0 i.toNatClampNeg) :: st)) : zU G nL p l e R s m args below meth c Q σ pc lv (.int i :: .ref (G.1 + c0) :: st) :=
  zr_zald C c0 (zk_lt hz (by decide)) (zen_z hz) hi d kk
theorem zu_aald (C : zC G cc nL own p s m args meth c) {N : Nat} {i : Int32} (c0 : Nat) (hz : zk c0 = (3, N)) (hi : zi i N = true) (d : decode cc pc = .ok (.aaload, 1)) (kk : zU G nL p l e R s m args below meth c Q σ (pc + 1) lv (.ref (G.1 + (c0 + 1 + i.toNatClampNeg)) :: st)) : zU G nL p l e R s m args below meth c Q σ pc lv (.int i :: .ref (G.1 + c0) :: st) :=
  zr_aald C c0 (zk_lt hz (by decide)) (zen_q hz) hi (if_pos (Nat.not_le.mp fun q => zi_in hi (Or.inr q))) d kk
theorem zu_alen (C : zC G cc nL own p s m args meth c) {N : Nat} {v : Int32} (c0 : Nat) (hz : zk c0 = (0, N)) (hv : Int32.ofNat N = v) (d : decode cc pc = .ok (.arraylength, 1)) (kk : zU G nL p l e R s m args below meth c Q σ (pc + 1) lv (.int v :: st)) : zU G nL p l e R s m args below meth c Q σ pc lv (.ref (G.1 + c0) :: st) :=
  zr_alen C c0 (zk_lt hz (by decide)) (zen_i hz) hv d kk
theorem zu_iast (C : zC G cc nL own p s m args meth c) {N : Nat} {i x : Int32} (c0 : Nat) (hz : zk c0 = (0, N)) (hi : zi i N = true) (d : decode cc pc = .ok (.iastore, 1)) (kk : zU G nL p l e R s m args below meth c Q (zsI σ c0 i.toNatClampNeg x) (pc + 1) lv st) : zU G nL p l e R s m args below meth c Q σ pc lv (.int x :: .int i :: .ref (G.1 + c0) :: st) :=
  zr_iast (f' := zen G (zsI σ c0 i.toNatClampNeg x)) C c0 (zk_lt hz (by decide)) (zen_i hz) hi d (by rw [zen_i hz, zsI_upd]) (fun j hj => zen_I hj) kk
theorem zu_bast (C : zC G cc nL own p s m args meth c) {N : Nat} {i x : Int32} (c0 : Nat) (hz : zk c0 = (1, N)) (hi : zi i N = true) (d : decode cc pc = .ok (.bastore, 1)) (kk : zU G nL p l e R s m args below meth c Q (zsI σ c0 i.toNatClampNeg (vp_nar .byte x)) (pc + 1) lv st) : zU G nL p l e R s m args below meth c Q σ pc lv (.int x :: .int i :: .ref (G.1 + c0) :: st) :=
  zr_bast (f' := zen G (zsI σ c0 i.toNatClampNeg (vp_nar .byte x))) C c0 (zk_lt hz (by decide)) (zen_b hz) hi d (by rw [zen_b hz, zsI_upd]) (fun j hj => zen_I hj) kk
theorem zu_zast (C : zC G cc nL own p s m args meth c) {N : Nat} {i x : Int32} (c0 : Nat) (hz : zk c0 = (2, N)) (hi : zi i N = true) (d : decode cc pc = .ok (.bastore, 1)) (kk : zU G nL p l e R s m args below meth c Q (zsI σ c0 i.toNatClampNeg (vp_nar .boolean x)) (pc + 1) lv st) : zU G nL p l e R s m args below meth c Q σ pc lv (.int x :: .int i :: .ref (G.1 + c0) :: st) :=
  zr_zast (f' := zen G (zsI σ c0 i.toNatClampNeg (vp_nar .boolean x))) C c0 (zk_lt hz (by decide)) (zen_z hz) hi d (by rw [zen_z hz, zsI_upd]) (fun j hj => zen_I hj) kk
end ZS
/-! ===== what the pictures of methods are made of ===== -/
def zlet {α β : Type} (x : α) (f : α → β) : β := f x
theorem zlet_e {α ρ : Type} {x : α} {f : α → Option ρ} {r : ρ} (h : zlet x f = some r) : ∃ v, v = x ∧ f v = some r := ⟨x, rfl, h⟩
def zg {ρ : Type} (b : Bool) (x : Option ρ) : Option ρ := if b = true then x else none
theorem zg_e {ρ : Type} {b : Bool} {x : Option ρ} {r : ρ} (h : zg b x = some r) : b = true ∧ x = some r := by
  unfold zg at h
  by_cases hb : b = true
  · exact ⟨hb, by rw [if_pos hb] at h; exact h⟩
  · rw [if_neg hb] at h
    cases h
def zn {ρ : Type} (y : Int32) (x : Option ρ) : Option ρ := if y = 0 then none else x
theorem zn_e {ρ : Type} {y : Int32} {x : Option ρ} {r : ρ} (h : zn y x = some r) : ¬ y = 0 ∧ x = some r := by
  unfold zn at h
  by_cases hb : y = 0
  · rw [if_pos hb] at h
    cases h
  · exact ⟨hb, by rw [if_neg hb] at h; exact h⟩
def znl {ρ : Type} (y : Int64) (x : Option ρ) : Option ρ := if y = 0 then none else x
theorem znl_e {ρ : Type} {y : Int64} {x : Option ρ} {r : ρ} (h : znl y x = some r) : ¬ y = 0 ∧ x = some r := by
  unfold znl at h
  by_cases hb : y = 0
  · rw [if_pos hb] at h
    cases h
  · exact ⟨hb, by rw [if_neg hb] at h; exact h⟩
/-- a call that only answers; one that answers and leaves a state; one that only leaves a state -/
def zb {α ρ : Type} (o : Option α) (f : α → Option ρ) : Option ρ := match o with
  | none => none
  | some a => f a
theorem zb_e {α ρ : Type} {o : Option α} {f : α → Option ρ} {r : ρ} (h : zb o f = some r) : ∃ a, o = some a ∧ f a = some r := by
  cases o with
  | none => cases h
  | some a => exact ⟨a, rfl, h⟩
def zb2 {α β ρ : Type} (o : Option (α × β)) (f : α → β → Option ρ) : Option ρ := match o with
  | none => none
  | some (a, b) => f a b
theorem zb2_e {α β ρ : Type} {o : Option (α × β)} {f : α → β → Option ρ} {r : ρ} (h : zb2 o f = some r) : ∃ a b, o = some (a, b) ∧ f a b = some r := by
  cases o with
  | none => cases h
  | some q => exact ⟨q.1, q.2, rfl, h⟩
theorem zs_e {ρ : Type} {x r : ρ} (h : some x = some r) : x = r := Option.some.inj h
theorem zif {ρ : Type} {c : Prop} {i : Decidable c} {a b : Option ρ} {r : ρ} (hc : c) (h : @ite _ c i a b = some r) : a = some r := (if_pos hc).symm.trans h
theorem zif' {ρ : Type} {c : Prop} {i : Decidable c} {a b : Option ρ} {r : ρ} (hc : ¬ c) (h : @ite _ c i a b = some r) : b = some r := (if_neg hc).symm.trans h

theorem zk_0 : zk 0 = (4, 10) := rfl
theorem zk_1 : zk 1 = (4, 8) := rfl
theorem zk_2 : zk 2 = (1, 320) := rfl
theorem zk_3 : zk 3 = (4, 3) := rfl
theorem zk_4 : zk 4 = (0, 16) := rfl
theorem zk_5 : zk 5 = (0, 16) := rfl
theorem zk_6 : zk 6 = (0, 16) := rfl
theorem zk_7 : zk 7 = (3, 16) := rfl
theorem zk_8 : zk 8 = (0, 8) := rfl
theorem zk_9 : zk 9 = (0, 8) := rfl
theorem zk_10 : zk 10 = (0, 8) := rfl
theorem zk_11 : zk 11 = (0, 8) := rfl
theorem zk_12 : zk 12 = (0, 8) := rfl
theorem zk_13 : zk 13 = (0, 8) := rfl
theorem zk_14 : zk 14 = (0, 8) := rfl
theorem zk_15 : zk 15 = (0, 8) := rfl
theorem zk_16 : zk 16 = (0, 8) := rfl
theorem zk_17 : zk 17 = (0, 8) := rfl
theorem zk_18 : zk 18 = (0, 8) := rfl
theorem zk_19 : zk 19 = (0, 8) := rfl
theorem zk_20 : zk 20 = (0, 8) := rfl
theorem zk_21 : zk 21 = (0, 8) := rfl
theorem zk_22 : zk 22 = (0, 8) := rfl
theorem zk_23 : zk 23 = (0, 8) := rfl
theorem zk_24 : zk 24 = (0, 40) := rfl
theorem zk_25 : zk 25 = (0, 40) := rfl
theorem zk_26 : zk 26 = (0, 40) := rfl
theorem zk_27 : zk 27 = (0, 40) := rfl
theorem zk_28 : zk 28 = (0, 40) := rfl
theorem zk_29 : zk 29 = (0, 40) := rfl
theorem zk_30 : zk 30 = (0, 4) := rfl
theorem zk_31 : zk 31 = (1, 6000) := rfl
theorem zk_32 : zk 32 = (0, 6001) := rfl
theorem zk_33 : zk 33 = (4, 3) := rfl
theorem zk_34 : zk 34 = (0, 16) := rfl
theorem zk_35 : zk 35 = (0, 16) := rfl
theorem zk_36 : zk 36 = (0, 16) := rfl
theorem zk_37 : zk 37 = (3, 16) := rfl
theorem zk_38 : zk 38 = (0, 8) := rfl
theorem zk_39 : zk 39 = (0, 8) := rfl
theorem zk_40 : zk 40 = (0, 8) := rfl
theorem zk_41 : zk 41 = (0, 8) := rfl
theorem zk_42 : zk 42 = (0, 8) := rfl
theorem zk_43 : zk 43 = (0, 8) := rfl
theorem zk_44 : zk 44 = (0, 8) := rfl
theorem zk_45 : zk 45 = (0, 8) := rfl
theorem zk_46 : zk 46 = (0, 8) := rfl
theorem zk_47 : zk 47 = (0, 8) := rfl
theorem zk_48 : zk 48 = (0, 8) := rfl
theorem zk_49 : zk 49 = (0, 8) := rfl
theorem zk_50 : zk 50 = (0, 8) := rfl
theorem zk_51 : zk 51 = (0, 8) := rfl
theorem zk_52 : zk 52 = (0, 8) := rfl
theorem zk_53 : zk 53 = (0, 8) := rfl
theorem zk_54 : zk 54 = (0, 40) := rfl
theorem zk_55 : zk 55 = (0, 40) := rfl
theorem zk_56 : zk 56 = (0, 40) := rfl
theorem zk_57 : zk 57 = (0, 40) := rfl
theorem zk_58 : zk 58 = (0, 40) := rfl
theorem zk_59 : zk 59 = (0, 40) := rfl
theorem zk_60 : zk 60 = (0, 4) := rfl
theorem zk_61 : zk 61 = (1, 6000) := rfl
theorem zk_62 : zk 62 = (0, 6001) := rfl
theorem zk_63 : zk 63 = (4, 4) := rfl
theorem zk_64 : zk 64 = (4, 1) := rfl
theorem zk_65 : zk 65 = (3, 16) := rfl
theorem zk_66 : zk 66 = (0, 8) := rfl
theorem zk_67 : zk 67 = (0, 8) := rfl
theorem zk_68 : zk 68 = (0, 8) := rfl
theorem zk_69 : zk 69 = (0, 8) := rfl
theorem zk_70 : zk 70 = (0, 8) := rfl
theorem zk_71 : zk 71 = (0, 8) := rfl
theorem zk_72 : zk 72 = (0, 8) := rfl
theorem zk_73 : zk 73 = (0, 8) := rfl
theorem zk_74 : zk 74 = (0, 8) := rfl
theorem zk_75 : zk 75 = (0, 8) := rfl
theorem zk_76 : zk 76 = (0, 8) := rfl
theorem zk_77 : zk 77 = (0, 8) := rfl
theorem zk_78 : zk 78 = (0, 8) := rfl
theorem zk_79 : zk 79 = (0, 8) := rfl
theorem zk_80 : zk 80 = (0, 8) := rfl
theorem zk_81 : zk 81 = (0, 8) := rfl
theorem zk_82 : zk 82 = (4, 0) := rfl
theorem zk_83 : zk 83 = (0, 4) := rfl
theorem zk_84 : zk 84 = (0, 4) := rfl
theorem zk_85 : zk 85 = (0, 8) := rfl
theorem zk_86 : zk 86 = (2, 256) := rfl
theorem zk_87 : zk 87 = (0, 256) := rfl
theorem zk_88 : zk 88 = (4, 9) := rfl
theorem zk_89 : zk 89 = (4, 6) := rfl
theorem zk_90 : zk 90 = (0, 16) := rfl
theorem zk_91 : zk 91 = (4, 2) := rfl
theorem zk_92 : zk 92 = (4, 5) := rfl
theorem zk_93 : zk 93 = (0, 12) := rfl
theorem zk_94 : zk 94 = (0, 12) := rfl
theorem zk_95 : zk 95 = (0, 12) := rfl
theorem zk_96 : zk 96 = (0, 36) := rfl
theorem zk_97 : zk 97 = (4, 7) := rfl
theorem zk_98 : zk 98 = (0, 4) := rfl
theorem zk_99 : zk 99 = (0, 4) := rfl
theorem zk_100 : zk 100 = (3, 4) := rfl
theorem zk_101 : zk 101 = (0, 40) := rfl
theorem zk_102 : zk 102 = (0, 40) := rfl
theorem zk_103 : zk 103 = (0, 40) := rfl
theorem zk_104 : zk 104 = (0, 40) := rfl
theorem zk_105 : zk 105 = (4, 11) := rfl
theorem zk_106 : zk 106 = (0, 16) := rfl
theorem zk_107 : zk 107 = (0, 128) := rfl
theorem zk_108 : zk 108 = (0, 16) := rfl
theorem zk_109 : zk 109 = (0, 40) := rfl
theorem zk_110 : zk 110 = (0, 40) := rfl
theorem zk_111 : zk 111 = (0, 6000) := rfl
theorem zk_112 : zk 112 = (0, 16) := rfl
theorem zk_113 : zk 113 = (0, 16) := rfl
theorem zk_114 : zk 114 = (0, 128) := rfl
theorem zk_115 : zk 115 = (0, 16) := rfl
theorem zk_116 : zk 116 = (0, 40) := rfl
theorem zk_117 : zk 117 = (0, 40) := rfl
theorem zk_118 : zk 118 = (0, 5) := rfl
theorem zk_119 : zk 119 = (0, 100) := rfl
theorem zk_120 : zk 120 = (0, 100) := rfl
theorem zk_121 : zk 121 = (0, 320) := rfl
theorem zk_122 : zk 122 = (0, 40) := rfl
theorem zk_123 : zk 123 = (0, 40) := rfl
theorem zk_124 : zk 124 = (0, 128) := rfl
theorem zk_125 : zk 125 = (0, 4) := rfl
theorem zk_126 : zk 126 = (0, 4) := rfl
theorem zk_127 : zk 127 = (0, 256) := rfl
theorem zk_128 : zk 128 = (2, 256) := rfl
theorem zk_129 : zk 129 = (0, 8) := rfl
theorem zk_130 : zk 130 = (0, 16) := rfl
theorem zk_131 : zk 131 = (0, 12) := rfl
theorem zk_132 : zk 132 = (0, 12) := rfl
theorem zk_133 : zk 133 = (0, 12) := rfl
theorem zk_134 : zk 134 = (0, 4) := rfl
theorem zk_135 : zk 135 = (0, 4) := rfl
theorem zk_136 : zk 136 = (0, 160) := rfl
theorem zs_0_0 {G : zG} {σ : zS} {c : Nat} : zsl G σ c 0 0 = .int (σ.1 c 0) := rfl
theorem zf_0_0 : zft 0 0 = (0, 0) := rfl
theorem zs_0_1 {G : zG} {σ : zS} {c : Nat} : zsl G σ c 0 1 = .ref (G.1 + 83) := rfl
theorem zf_0_1 : zft 0 1 = (3, 83) := rfl
theorem zs_0_2 {G : zG} {σ : zS} {c : Nat} : zsl G σ c 0 2 = .ref (G.1 + 84) := rfl
theorem zf_0_2 : zft 0 2 = (3, 84) := rfl
theorem zs_0_3 {G : zG} {σ : zS} {c : Nat} : zsl G σ c 0 3 = .ref (G.1 + 85) := rfl
theorem zf_0_3 : zft 0 3 = (3, 85) := rfl
theorem zs_0_4 {G : zG} {σ : zS} {c : Nat} : zsl G σ c 0 4 = .ref (G.1 + 86) := rfl
theorem zf_0_4 : zft 0 4 = (3, 86) := rfl
theorem zs_0_5 {G : zG} {σ : zS} {c : Nat} : zsl G σ c 0 5 = .ref (G.1 + 87) := rfl
theorem zf_0_5 : zft 0 5 = (3, 87) := rfl
theorem zs_0_6 {G : zG} {σ : zS} {c : Nat} : zsl G σ c 0 6 = .int (σ.1 c 6) := rfl
theorem zf_0_6 : zft 0 6 = (0, 0) := rfl
theorem zs_1_0 {G : zG} {σ : zS} {c : Nat} : zsl G σ c 1 0 = .ref (G.1 + 65) := rfl
theorem zf_1_0 : zft 1 0 = (3, 65) := rfl
theorem zs_2_0 {G : zG} {σ : zS} {c : Nat} : zsl G σ c 2 0 = .int (σ.1 c 0) := rfl
theorem zf_2_0 : zft 2 0 = (0, 0) := rfl
theorem zs_2_1 {G : zG} {σ : zS} {c : Nat} : zsl G σ c 2 1 = .int (σ.1 c 1) := rfl
theorem zf_2_1 : zft 2 1 = (0, 0) := rfl
theorem zs_2_2 {G : zG} {σ : zS} {c : Nat} : zsl G σ c 2 2 = .int (σ.1 c 2) := rfl
theorem zf_2_2 : zft 2 2 = (0, 0) := rfl
theorem zs_2_3 {G : zG} {σ : zS} {c : Nat} : zsl G σ c 2 3 = .int (σ.1 c 3) := rfl
theorem zf_2_3 : zft 2 3 = (0, 0) := rfl
theorem zs_3_0 {G : zG} {σ : zS} {c : Nat} : zsl G σ c 3 0 = .int (σ.1 c 0) := rfl
theorem zf_3_0 : zft 3 0 = (0, 0) := rfl
theorem zs_3_1 {G : zG} {σ : zS} {c : Nat} : zsl G σ c 3 1 = .ref (G.1 + (c + 1)) := rfl
theorem zf_3_1 : zft 3 1 = (2, 1) := rfl
theorem zs_3_2 {G : zG} {σ : zS} {c : Nat} : zsl G σ c 3 2 = .ref (G.1 + (c + 2)) := rfl
theorem zf_3_2 : zft 3 2 = (2, 2) := rfl
theorem zs_3_3 {G : zG} {σ : zS} {c : Nat} : zsl G σ c 3 3 = .ref (G.1 + (c + 3)) := rfl
theorem zf_3_3 : zft 3 3 = (2, 3) := rfl
theorem zs_3_4 {G : zG} {σ : zS} {c : Nat} : zsl G σ c 3 4 = .ref (G.1 + (c + 4)) := rfl
theorem zf_3_4 : zft 3 4 = (2, 4) := rfl
theorem zs_3_5 {G : zG} {σ : zS} {c : Nat} : zsl G σ c 3 5 = .int (σ.1 c 5) := rfl
theorem zf_3_5 : zft 3 5 = (0, 0) := rfl
theorem zs_3_6 {G : zG} {σ : zS} {c : Nat} : zsl G σ c 3 6 = .ref (G.1 + (c + 21)) := rfl
theorem zf_3_6 : zft 3 6 = (2, 21) := rfl
theorem zs_3_7 {G : zG} {σ : zS} {c : Nat} : zsl G σ c 3 7 = .ref (G.1 + (c + 22)) := rfl
theorem zf_3_7 : zft 3 7 = (2, 22) := rfl
theorem zs_3_8 {G : zG} {σ : zS} {c : Nat} : zsl G σ c 3 8 = .ref (G.1 + (c + 23)) := rfl
theorem zf_3_8 : zft 3 8 = (2, 23) := rfl
theorem zs_3_9 {G : zG} {σ : zS} {c : Nat} : zsl G σ c 3 9 = .ref (G.1 + (c + 24)) := rfl
theorem zf_3_9 : zft 3 9 = (2, 24) := rfl
theorem zs_3_10 {G : zG} {σ : zS} {c : Nat} : zsl G σ c 3 10 = .ref (G.1 + (c + 25)) := rfl
theorem zf_3_10 : zft 3 10 = (2, 25) := rfl
theorem zs_3_11 {G : zG} {σ : zS} {c : Nat} : zsl G σ c 3 11 = .ref (G.1 + (c + 26)) := rfl
theorem zf_3_11 : zft 3 11 = (2, 26) := rfl
theorem zs_3_12 {G : zG} {σ : zS} {c : Nat} : zsl G σ c 3 12 = .ref (G.1 + (c + 27)) := rfl
theorem zf_3_12 : zft 3 12 = (2, 27) := rfl
theorem zs_3_13 {G : zG} {σ : zS} {c : Nat} : zsl G σ c 3 13 = .int (σ.1 c 13) := rfl
theorem zf_3_13 : zft 3 13 = (0, 0) := rfl
theorem zs_3_14 {G : zG} {σ : zS} {c : Nat} : zsl G σ c 3 14 = .int (σ.1 c 14) := rfl
theorem zf_3_14 : zft 3 14 = (0, 0) := rfl
theorem zs_3_15 {G : zG} {σ : zS} {c : Nat} : zsl G σ c 3 15 = .int (σ.1 c 15) := rfl
theorem zf_3_15 : zft 3 15 = (0, 0) := rfl
theorem zs_3_16 {G : zG} {σ : zS} {c : Nat} : zsl G σ c 3 16 = .int (σ.1 c 16) := rfl
theorem zf_3_16 : zft 3 16 = (0, 0) := rfl
theorem zs_3_17 {G : zG} {σ : zS} {c : Nat} : zsl G σ c 3 17 = .ref (G.1 + (c + 28)) := rfl
theorem zf_3_17 : zft 3 17 = (2, 28) := rfl
theorem zs_3_18 {G : zG} {σ : zS} {c : Nat} : zsl G σ c 3 18 = .ref (G.1 + (c + 29)) := rfl
theorem zf_3_18 : zft 3 18 = (2, 29) := rfl
theorem zs_4_0 {G : zG} {σ : zS} {c : Nat} : zsl G σ c 4 0 = .ref (G.1 + 1) := rfl
theorem zf_4_0 : zft 4 0 = (3, 1) := rfl
theorem zs_4_1 {G : zG} {σ : zS} {c : Nat} : zsl G σ c 4 1 = .ref (G.1 + σ.2.2 c 1) := rfl
theorem zf_4_1 : zft 4 1 = (4, 0) := rfl
theorem zs_4_2 {G : zG} {σ : zS} {c : Nat} : zsl G σ c 4 2 = .int (σ.1 c 2) := rfl
theorem zf_4_2 : zft 4 2 = (0, 0) := rfl
theorem zs_4_3 {G : zG} {σ : zS} {c : Nat} : zsl G σ c 4 3 = .int (σ.1 c 3) := rfl
theorem zf_4_3 : zft 4 3 = (0, 0) := rfl
theorem zs_4_4 {G : zG} {σ : zS} {c : Nat} : zsl G σ c 4 4 = .int (σ.1 c 4) := rfl
theorem zf_4_4 : zft 4 4 = (0, 0) := rfl
theorem zs_4_5 {G : zG} {σ : zS} {c : Nat} : zsl G σ c 4 5 = .int (σ.1 c 5) := rfl
theorem zf_4_5 : zft 4 5 = (0, 0) := rfl
theorem zs_4_6 {G : zG} {σ : zS} {c : Nat} : zsl G σ c 4 6 = .int (σ.1 c 6) := rfl
theorem zf_4_6 : zft 4 6 = (0, 0) := rfl
theorem zs_4_7 {G : zG} {σ : zS} {c : Nat} : zsl G σ c 4 7 = .int (σ.1 c 7) := rfl
theorem zf_4_7 : zft 4 7 = (0, 0) := rfl
theorem zs_5_0 {G : zG} {σ : zS} {c : Nat} : zsl G σ c 5 0 = .int (σ.1 c 0) := rfl
theorem zf_5_0 : zft 5 0 = (0, 0) := rfl
theorem zs_5_1 {G : zG} {σ : zS} {c : Nat} : zsl G σ c 5 1 = .ref (G.1 + 93) := rfl
theorem zf_5_1 : zft 5 1 = (3, 93) := rfl
theorem zs_5_2 {G : zG} {σ : zS} {c : Nat} : zsl G σ c 5 2 = .ref (G.1 + 94) := rfl
theorem zf_5_2 : zft 5 2 = (3, 94) := rfl
theorem zs_5_3 {G : zG} {σ : zS} {c : Nat} : zsl G σ c 5 3 = .ref (G.1 + 95) := rfl
theorem zf_5_3 : zft 5 3 = (3, 95) := rfl
theorem zs_5_4 {G : zG} {σ : zS} {c : Nat} : zsl G σ c 5 4 = .int (σ.1 c 4) := rfl
theorem zf_5_4 : zft 5 4 = (0, 0) := rfl
theorem zs_5_5 {G : zG} {σ : zS} {c : Nat} : zsl G σ c 5 5 = .ref (G.1 + 96) := rfl
theorem zf_5_5 : zft 5 5 = (3, 96) := rfl
theorem zs_6_0 {G : zG} {σ : zS} {c : Nat} : zsl G σ c 6 0 = .ref (G.1 + 90) := rfl
theorem zf_6_0 : zft 6 0 = (3, 90) := rfl
theorem zs_6_1 {G : zG} {σ : zS} {c : Nat} : zsl G σ c 6 1 = .int (σ.1 c 1) := rfl
theorem zf_6_1 : zft 6 1 = (0, 0) := rfl
theorem zs_6_2 {G : zG} {σ : zS} {c : Nat} : zsl G σ c 6 2 = .int (σ.1 c 2) := rfl
theorem zf_6_2 : zft 6 2 = (0, 0) := rfl
theorem zs_7_0 {G : zG} {σ : zS} {c : Nat} : zsl G σ c 7 0 = .ref (G.1 + 98) := rfl
theorem zf_7_0 : zft 7 0 = (3, 98) := rfl
theorem zs_7_1 {G : zG} {σ : zS} {c : Nat} : zsl G σ c 7 1 = .ref (G.1 + 99) := rfl
theorem zf_7_1 : zft 7 1 = (3, 99) := rfl
theorem zs_7_2 {G : zG} {σ : zS} {c : Nat} : zsl G σ c 7 2 = .ref (G.1 + 100) := rfl
theorem zf_7_2 : zft 7 2 = (3, 100) := rfl
theorem zs_8_0 {G : zG} {σ : zS} {c : Nat} : zsl G σ c 8 0 = .ref (G.1 + 2) := rfl
theorem zf_8_0 : zft 8 0 = (3, 2) := rfl
theorem zs_8_1 {G : zG} {σ : zS} {c : Nat} : zsl G σ c 8 1 = .int (σ.1 c 1) := rfl
theorem zf_8_1 : zft 8 1 = (0, 0) := rfl
theorem zs_9_0 {G : zG} {σ : zS} {c : Nat} : zsl G σ c 9 0 = .int (σ.1 c 0) := rfl
theorem zf_9_0 : zft 9 0 = (0, 0) := rfl
theorem zs_9_1 {G : zG} {σ : zS} {c : Nat} : zsl G σ c 9 1 = .int (σ.1 c 1) := rfl
theorem zf_9_1 : zft 9 1 = (0, 0) := rfl
theorem zs_10_0 {G : zG} {σ : zS} {c : Nat} : zsl G σ c 10 0 = .ref (G.1 + 1) := rfl
theorem zf_10_0 : zft 10 0 = (3, 1) := rfl
theorem zs_10_1 {G : zG} {σ : zS} {c : Nat} : zsl G σ c 10 1 = .ref (G.1 + σ.2.2 c 1) := rfl
theorem zf_10_1 : zft 10 1 = (4, 0) := rfl
theorem zs_10_2 {G : zG} {σ : zS} {c : Nat} : zsl G σ c 10 2 = .ref (G.1 + σ.2.2 c 2) := rfl
theorem zf_10_2 : zft 10 2 = (4, 0) := rfl
theorem zs_10_3 {G : zG} {σ : zS} {c : Nat} : zsl G σ c 10 3 = .ref (G.1 + 63) := rfl
theorem zf_10_3 : zft 10 3 = (3, 63) := rfl
theorem zs_10_4 {G : zG} {σ : zS} {c : Nat} : zsl G σ c 10 4 = .ref (G.1 + 64) := rfl
theorem zf_10_4 : zft 10 4 = (3, 64) := rfl
theorem zs_10_5 {G : zG} {σ : zS} {c : Nat} : zsl G σ c 10 5 = .ref (G.1 + 82) := rfl
theorem zf_10_5 : zft 10 5 = (3, 82) := rfl
theorem zs_10_6 {G : zG} {σ : zS} {c : Nat} : zsl G σ c 10 6 = .ref (G.1 + 88) := rfl
theorem zf_10_6 : zft 10 6 = (3, 88) := rfl
theorem zs_10_7 {G : zG} {σ : zS} {c : Nat} : zsl G σ c 10 7 = .ref (G.1 + 89) := rfl
theorem zf_10_7 : zft 10 7 = (3, 89) := rfl
theorem zs_10_8 {G : zG} {σ : zS} {c : Nat} : zsl G σ c 10 8 = .ref (G.1 + 91) := rfl
theorem zf_10_8 : zft 10 8 = (3, 91) := rfl
theorem zs_10_9 {G : zG} {σ : zS} {c : Nat} : zsl G σ c 10 9 = .ref (G.1 + 92) := rfl
theorem zf_10_9 : zft 10 9 = (3, 92) := rfl
theorem zs_10_10 {G : zG} {σ : zS} {c : Nat} : zsl G σ c 10 10 = .ref (G.1 + 97) := rfl
theorem zf_10_10 : zft 10 10 = (3, 97) := rfl
theorem zs_10_11 {G : zG} {σ : zS} {c : Nat} : zsl G σ c 10 11 = .int (σ.1 c 11) := rfl
theorem zf_10_11 : zft 10 11 = (0, 0) := rfl
theorem zs_11_0 {G : zG} {σ : zS} {c : Nat} : zsl G σ c 11 0 = .int (σ.1 c 0) := rfl
theorem zf_11_0 : zft 11 0 = (0, 0) := rfl
theorem zs_11_1 {G : zG} {σ : zS} {c : Nat} : zsl G σ c 11 1 = .ref (G.1 + 106) := rfl
theorem zf_11_1 : zft 11 1 = (3, 106) := rfl
theorem zs_11_2 {G : zG} {σ : zS} {c : Nat} : zsl G σ c 11 2 = .ref (G.1 + 107) := rfl
theorem zf_11_2 : zft 11 2 = (3, 107) := rfl
theorem zs_11_3 {G : zG} {σ : zS} {c : Nat} : zsl G σ c 11 3 = .ref (G.1 + 108) := rfl
theorem zf_11_3 : zft 11 3 = (3, 108) := rfl
theorem zs_11_4 {G : zG} {σ : zS} {c : Nat} : zsl G σ c 11 4 = .int (σ.1 c 4) := rfl
theorem zf_11_4 : zft 11 4 = (0, 0) := rfl
theorem zs_11_5 {G : zG} {σ : zS} {c : Nat} : zsl G σ c 11 5 = .ref (G.1 + 109) := rfl
theorem zf_11_5 : zft 11 5 = (3, 109) := rfl
theorem zs_11_6 {G : zG} {σ : zS} {c : Nat} : zsl G σ c 11 6 = .ref (G.1 + 110) := rfl
theorem zf_11_6 : zft 11 6 = (3, 110) := rfl
theorem zs_11_7 {G : zG} {σ : zS} {c : Nat} : zsl G σ c 11 7 = .int (σ.1 c 7) := rfl
theorem zf_11_7 : zft 11 7 = (0, 0) := rfl
theorem zs_11_8 {G : zG} {σ : zS} {c : Nat} : zsl G σ c 11 8 = .ref (G.1 + 111) := rfl
theorem zf_11_8 : zft 11 8 = (3, 111) := rfl
theorem zs_11_9 {G : zG} {σ : zS} {c : Nat} : zsl G σ c 11 9 = .ref (G.1 + 112) := rfl
theorem zf_11_9 : zft 11 9 = (3, 112) := rfl
theorem zs_11_10 {G : zG} {σ : zS} {c : Nat} : zsl G σ c 11 10 = .int (σ.1 c 10) := rfl
theorem zf_11_10 : zft 11 10 = (0, 0) := rfl
theorem zs_11_11 {G : zG} {σ : zS} {c : Nat} : zsl G σ c 11 11 = .int (σ.1 c 11) := rfl
theorem zf_11_11 : zft 11 11 = (0, 0) := rfl
theorem zs_11_12 {G : zG} {σ : zS} {c : Nat} : zsl G σ c 11 12 = .ref (G.1 + 113) := rfl
theorem zf_11_12 : zft 11 12 = (3, 113) := rfl
theorem zs_11_13 {G : zG} {σ : zS} {c : Nat} : zsl G σ c 11 13 = .ref (G.1 + 114) := rfl
theorem zf_11_13 : zft 11 13 = (3, 114) := rfl
theorem zs_11_14 {G : zG} {σ : zS} {c : Nat} : zsl G σ c 11 14 = .ref (G.1 + 115) := rfl
theorem zf_11_14 : zft 11 14 = (3, 115) := rfl
theorem zs_11_15 {G : zG} {σ : zS} {c : Nat} : zsl G σ c 11 15 = .int (σ.1 c 15) := rfl
theorem zf_11_15 : zft 11 15 = (0, 0) := rfl
theorem zs_11_16 {G : zG} {σ : zS} {c : Nat} : zsl G σ c 11 16 = .ref (G.1 + 116) := rfl
theorem zf_11_16 : zft 11 16 = (3, 116) := rfl
theorem zs_11_17 {G : zG} {σ : zS} {c : Nat} : zsl G σ c 11 17 = .ref (G.1 + 117) := rfl
theorem zf_11_17 : zft 11 17 = (3, 117) := rfl
theorem zs_11_18 {G : zG} {σ : zS} {c : Nat} : zsl G σ c 11 18 = .ref (G.1 + 118) := rfl
theorem zf_11_18 : zft 11 18 = (3, 118) := rfl
theorem zs_11_19 {G : zG} {σ : zS} {c : Nat} : zsl G σ c 11 19 = .int (σ.1 c 19) := rfl
theorem zf_11_19 : zft 11 19 = (0, 0) := rfl
theorem zs_11_20 {G : zG} {σ : zS} {c : Nat} : zsl G σ c 11 20 = .ref (G.1 + 119) := rfl
theorem zf_11_20 : zft 11 20 = (3, 119) := rfl
theorem zs_11_21 {G : zG} {σ : zS} {c : Nat} : zsl G σ c 11 21 = .ref (G.1 + 120) := rfl
theorem zf_11_21 : zft 11 21 = (3, 120) := rfl
theorem zs_11_22 {G : zG} {σ : zS} {c : Nat} : zsl G σ c 11 22 = .int (σ.1 c 22) := rfl
theorem zf_11_22 : zft 11 22 = (0, 0) := rfl
theorem zs_11_23 {G : zG} {σ : zS} {c : Nat} : zsl G σ c 11 23 = .int (σ.1 c 23) := rfl
theorem zf_11_23 : zft 11 23 = (0, 0) := rfl
theorem zs_11_24 {G : zG} {σ : zS} {c : Nat} : zsl G σ c 11 24 = .ref (G.1 + 121) := rfl
theorem zf_11_24 : zft 11 24 = (3, 121) := rfl
theorem zs_11_25 {G : zG} {σ : zS} {c : Nat} : zsl G σ c 11 25 = .int (σ.1 c 25) := rfl
theorem zf_11_25 : zft 11 25 = (0, 0) := rfl
theorem zs_11_26 {G : zG} {σ : zS} {c : Nat} : zsl G σ c 11 26 = .int (σ.1 c 26) := rfl
theorem zf_11_26 : zft 11 26 = (0, 0) := rfl
theorem zs_11_27 {G : zG} {σ : zS} {c : Nat} : zsl G σ c 11 27 = .int (σ.1 c 27) := rfl
theorem zf_11_27 : zft 11 27 = (0, 0) := rfl
theorem zs_11_28 {G : zG} {σ : zS} {c : Nat} : zsl G σ c 11 28 = .int (σ.1 c 28) := rfl
theorem zf_11_28 : zft 11 28 = (0, 0) := rfl
theorem zs_11_29 {G : zG} {σ : zS} {c : Nat} : zsl G σ c 11 29 = .int (σ.1 c 29) := rfl
theorem zf_11_29 : zft 11 29 = (0, 0) := rfl
theorem zs_11_30 {G : zG} {σ : zS} {c : Nat} : zsl G σ c 11 30 = .int (σ.1 c 30) := rfl
theorem zf_11_30 : zft 11 30 = (0, 0) := rfl
theorem zs_11_31 {G : zG} {σ : zS} {c : Nat} : zsl G σ c 11 31 = .int (σ.1 c 31) := rfl
theorem zf_11_31 : zft 11 31 = (0, 0) := rfl
theorem zs_11_32 {G : zG} {σ : zS} {c : Nat} : zsl G σ c 11 32 = .ref (G.1 + 122) := rfl
theorem zf_11_32 : zft 11 32 = (3, 122) := rfl
theorem zs_11_33 {G : zG} {σ : zS} {c : Nat} : zsl G σ c 11 33 = .ref (G.1 + 123) := rfl
theorem zf_11_33 : zft 11 33 = (3, 123) := rfl
theorem zs_11_34 {G : zG} {σ : zS} {c : Nat} : zsl G σ c 11 34 = .int (σ.1 c 34) := rfl
theorem zf_11_34 : zft 11 34 = (0, 0) := rfl
theorem zs_11_35 {G : zG} {σ : zS} {c : Nat} : zsl G σ c 11 35 = .ref (G.1 + 124) := rfl
theorem zf_11_35 : zft 11 35 = (3, 124) := rfl
theorem zs_11_36 {G : zG} {σ : zS} {c : Nat} : zsl G σ c 11 36 = .int (σ.1 c 36) := rfl
theorem zf_11_36 : zft 11 36 = (0, 0) := rfl
theorem zs_11_37 {G : zG} {σ : zS} {c : Nat} : zsl G σ c 11 37 = .ref (G.1 + 125) := rfl
theorem zf_11_37 : zft 11 37 = (3, 125) := rfl
theorem zs_11_38 {G : zG} {σ : zS} {c : Nat} : zsl G σ c 11 38 = .ref (G.1 + 126) := rfl
theorem zf_11_38 : zft 11 38 = (3, 126) := rfl
theorem zs_11_39 {G : zG} {σ : zS} {c : Nat} : zsl G σ c 11 39 = .ref (G.1 + 127) := rfl
theorem zf_11_39 : zft 11 39 = (3, 127) := rfl
theorem zs_11_40 {G : zG} {σ : zS} {c : Nat} : zsl G σ c 11 40 = .ref (G.1 + 128) := rfl
theorem zf_11_40 : zft 11 40 = (3, 128) := rfl
theorem zs_11_41 {G : zG} {σ : zS} {c : Nat} : zsl G σ c 11 41 = .int (σ.1 c 41) := rfl
theorem zf_11_41 : zft 11 41 = (0, 0) := rfl
theorem zs_11_42 {G : zG} {σ : zS} {c : Nat} : zsl G σ c 11 42 = .ref (G.1 + 129) := rfl
theorem zf_11_42 : zft 11 42 = (3, 129) := rfl
theorem zs_11_43 {G : zG} {σ : zS} {c : Nat} : zsl G σ c 11 43 = .long (σ.2.1 c 43) := rfl
theorem zf_11_43 : zft 11 43 = (1, 0) := rfl
theorem zs_11_44 {G : zG} {σ : zS} {c : Nat} : zsl G σ c 11 44 = .long (σ.2.1 c 44) := rfl
theorem zf_11_44 : zft 11 44 = (1, 0) := rfl
theorem zs_11_45 {G : zG} {σ : zS} {c : Nat} : zsl G σ c 11 45 = .int (σ.1 c 45) := rfl
theorem zf_11_45 : zft 11 45 = (0, 0) := rfl
theorem zs_11_46 {G : zG} {σ : zS} {c : Nat} : zsl G σ c 11 46 = .int (σ.1 c 46) := rfl
theorem zf_11_46 : zft 11 46 = (0, 0) := rfl
theorem zs_11_47 {G : zG} {σ : zS} {c : Nat} : zsl G σ c 11 47 = .ref (G.1 + 130) := rfl
theorem zf_11_47 : zft 11 47 = (3, 130) := rfl
theorem zs_11_48 {G : zG} {σ : zS} {c : Nat} : zsl G σ c 11 48 = .int (σ.1 c 48) := rfl
theorem zf_11_48 : zft 11 48 = (0, 0) := rfl
theorem zs_11_49 {G : zG} {σ : zS} {c : Nat} : zsl G σ c 11 49 = .int (σ.1 c 49) := rfl
theorem zf_11_49 : zft 11 49 = (0, 0) := rfl
theorem zs_11_50 {G : zG} {σ : zS} {c : Nat} : zsl G σ c 11 50 = .ref (G.1 + 131) := rfl
theorem zf_11_50 : zft 11 50 = (3, 131) := rfl
theorem zs_11_51 {G : zG} {σ : zS} {c : Nat} : zsl G σ c 11 51 = .ref (G.1 + 132) := rfl
theorem zf_11_51 : zft 11 51 = (3, 132) := rfl
theorem zs_11_52 {G : zG} {σ : zS} {c : Nat} : zsl G σ c 11 52 = .ref (G.1 + 133) := rfl
theorem zf_11_52 : zft 11 52 = (3, 133) := rfl
theorem zs_11_53 {G : zG} {σ : zS} {c : Nat} : zsl G σ c 11 53 = .ref (G.1 + 134) := rfl
theorem zf_11_53 : zft 11 53 = (3, 134) := rfl
theorem zs_11_54 {G : zG} {σ : zS} {c : Nat} : zsl G σ c 11 54 = .ref (G.1 + 135) := rfl
theorem zf_11_54 : zft 11 54 = (3, 135) := rfl
theorem zs_11_55 {G : zG} {σ : zS} {c : Nat} : zsl G σ c 11 55 = .ref (G.1 + 136) := rfl
theorem zf_11_55 : zft 11 55 = (3, 136) := rfl
def zP (p : Nat) : Bool := p == 3 || p == 33
theorem zP_or {p : Nat} (h : zP p = true) : p = 3 ∨ p = 33 := by
  unfold zP at h
  simpa using h
theorem zkP_0 {p : Nat} (h : zP p = true) : zk p = (4, 3) := by
  rcases zP_or h with rfl | rfl <;> rfl
theorem zkP_1 {p : Nat} (h : zP p = true) : zk (p + 1) = (0, 16) := by
  rcases zP_or h with rfl | rfl <;> rfl
theorem zkP_2 {p : Nat} (h : zP p = true) : zk (p + 2) = (0, 16) := by
  rcases zP_or h with rfl | rfl <;> rfl
theorem zkP_3 {p : Nat} (h : zP p = true) : zk (p + 3) = (0, 16) := by
  rcases zP_or h with rfl | rfl <;> rfl
theorem zkP_4 {p : Nat} (h : zP p = true) : zk (p + 4) = (3, 16) := by
  rcases zP_or h with rfl | rfl <;> rfl
theorem zkP_5 {p : Nat} (h : zP p = true) : zk (p + 5) = (0, 8) := by
  rcases zP_or h with rfl | rfl <;> rfl
theorem zkP_6 {p : Nat} (h : zP p = true) : zk (p + 6) = (0, 8) := by
  rcases zP_or h with rfl | rfl <;> rfl
theorem zkP_7 {p : Nat} (h : zP p = true) : zk (p + 7) = (0, 8) := by
  rcases zP_or h with rfl | rfl <;> rfl
theorem zkP_8 {p : Nat} (h : zP p = true) : zk (p + 8) = (0, 8) := by
  rcases zP_or h with rfl | rfl <;> rfl
theorem zkP_9 {p : Nat} (h : zP p = true) : zk (p + 9) = (0, 8) := by
  rcases zP_or h with rfl | rfl <;> rfl
theorem zkP_10 {p : Nat} (h : zP p = true) : zk (p + 10) = (0, 8) := by
  rcases zP_or h with rfl | rfl <;> rfl
theorem zkP_11 {p : Nat} (h : zP p = true) : zk (p + 11) = (0, 8) := by
  rcases zP_or h with rfl | rfl <;> rfl
theorem zkP_12 {p : Nat} (h : zP p = true) : zk (p + 12) = (0, 8) := by
  rcases zP_or h with rfl | rfl <;> rfl
theorem zkP_13 {p : Nat} (h : zP p = true) : zk (p + 13) = (0, 8) := by
  rcases zP_or h with rfl | rfl <;> rfl
theorem zkP_14 {p : Nat} (h : zP p = true) : zk (p + 14) = (0, 8) := by
  rcases zP_or h with rfl | rfl <;> rfl
theorem zkP_15 {p : Nat} (h : zP p = true) : zk (p + 15) = (0, 8) := by
  rcases zP_or h with rfl | rfl <;> rfl
theorem zkP_16 {p : Nat} (h : zP p = true) : zk (p + 16) = (0, 8) := by
  rcases zP_or h with rfl | rfl <;> rfl
theorem zkP_17 {p : Nat} (h : zP p = true) : zk (p + 17) = (0, 8) := by
  rcases zP_or h with rfl | rfl <;> rfl
theorem zkP_18 {p : Nat} (h : zP p = true) : zk (p + 18) = (0, 8) := by
  rcases zP_or h with rfl | rfl <;> rfl
theorem zkP_19 {p : Nat} (h : zP p = true) : zk (p + 19) = (0, 8) := by
  rcases zP_or h with rfl | rfl <;> rfl
theorem zkP_20 {p : Nat} (h : zP p = true) : zk (p + 20) = (0, 8) := by
  rcases zP_or h with rfl | rfl <;> rfl
theorem zkP_21 {p : Nat} (h : zP p = true) : zk (p + 21) = (0, 40) := by
  rcases zP_or h with rfl | rfl <;> rfl
theorem zkP_22 {p : Nat} (h : zP p = true) : zk (p + 22) = (0, 40) := by
  rcases zP_or h with rfl | rfl <;> rfl
theorem zkP_23 {p : Nat} (h : zP p = true) : zk (p + 23) = (0, 40) := by
  rcases zP_or h with rfl | rfl <;> rfl
theorem zkP_24 {p : Nat} (h : zP p = true) : zk (p + 24) = (0, 40) := by
  rcases zP_or h with rfl | rfl <;> rfl
theorem zkP_25 {p : Nat} (h : zP p = true) : zk (p + 25) = (0, 40) := by
  rcases zP_or h with rfl | rfl <;> rfl
theorem zkP_26 {p : Nat} (h : zP p = true) : zk (p + 26) = (0, 40) := by
  rcases zP_or h with rfl | rfl <;> rfl
theorem zkP_27 {p : Nat} (h : zP p = true) : zk (p + 27) = (0, 4) := by
  rcases zP_or h with rfl | rfl <;> rfl
theorem zkP_28 {p : Nat} (h : zP p = true) : zk (p + 28) = (1, 6000) := by
  rcases zP_or h with rfl | rfl <;> rfl
theorem zkP_29 {p : Nat} (h : zP p = true) : zk (p + 29) = (0, 6001) := by
  rcases zP_or h with rfl | rfl <;> rfl
theorem zi_lt {i : Int32} {n : Nat} (h : zi i n = true) : i.toNatClampNeg < n := Nat.not_le.mp fun q => zi_in h (Or.inr q)
theorem zk_rowP {p j : Nat} (h : zP p = true) (hj : j < 16) : zk (p + 5 + j) = (0, 8) := by
  have e : ∀ j : Nat, j < 16 → zk (3 + 5 + j) = (0, 8) ∧ zk (33 + 5 + j) = (0, 8) := by decide +kernel
  rcases zP_or h with rfl | rfl
  · exact (e j hj).1
  · exact (e j hj).2
theorem zk_rowK {j : Nat} (hj : j < 16) : zk (66 + j) = (0, 8) := by
  have e : ∀ j : Nat, j < 16 → zk (66 + j) = (0, 8) := by decide +kernel
  exact e j hj
theorem zk_rowS {j : Nat} (hj : j < 4) : zk (101 + j) = (0, 40) := by
  have e : ∀ j : Nat, j < 4 → zk (101 + j) = (0, 40) := by decide +kernel
  exact e j hj
def zwn (k : Nat) : Nat := [4, 4, 3].getD k 0
def zwlen (k : Nat) : Int32 := Int32.ofNat (zwn k)
def zwc (k j : Nat) : Int32 := ([[108, 105, 110, 101], [108, 111, 111, 112], [101, 110, 100]].getD k []).getD j 0
section ZT
variable {G : zG} {cc : ByteArray} {nL : Nat} {own : String} {p : Program} {l : Launch} {e : Env} {R : Room} {s : State} {m : MethodId} {args : Array Value} {below : List Frame} {meth : Method} {c : Code} {Q : State → Prop} {σ : zS} {pc : Nat} {lv : List (Nat × Value)} {st : List Value}
theorem zg_0_0 (C : zC G cc nL own p s m args meth c) (c0 : Nat) (hz : zk c0 = (4, 0)) {idx : Nat} (hm : Cond.fieldLink own idx "EventCounters$Bank" "size" "I" ∈ wsL_law) (d : decode cc pc = .ok (.getfield idx, 3)) (kk : zU G nL p l e R s m args below meth c Q σ (pc + 3) lv (.int (σ.1 c0 0) :: st)) : zU G nL p l e R s m args below meth c Q σ pc lv (.ref (G.1 + c0) :: st) := zu_get C c0 hz (rfl : zcl[0]? = some (RX0, TX0, 7)) (k := 0) ⟨by decide, by decide⟩ hm zs_0_0 d kk
theorem zp_0_0 (C : zC G cc nL own p s m args meth c) (c0 : Nat) (hz : zk c0 = (4, 0)) {idx : Nat} {v : Int32} {σ1 : zS} (hm : Cond.fieldLink own idx "EventCounters$Bank" "size" "I" ∈ wsL_law) (hσ : σ1 = zsI σ c0 0 v) (d : decode cc pc = .ok (.putfield idx, 3)) (kk : zU G nL p l e R s m args below meth c Q σ1 (pc + 3) lv st) : zU G nL p l e R s m args below meth c Q σ pc lv (.int v :: .ref (G.1 + c0) :: st) := by
  subst hσ
  exact zu_putI C c0 hz (rfl : zcl[0]? = some (RX0, TX0, 7)) (k := 0) ⟨by decide, by decide⟩ hm rfl (tyX0_ok 0 (by decide)) rfl rfl zf_0_0 d kk
theorem zg_0_1 (C : zC G cc nL own p s m args meth c) (c0 : Nat) (hz : zk c0 = (4, 0)) {idx : Nat} (hm : Cond.fieldLink own idx "EventCounters$Bank" "masks" "[I" ∈ wsL_law) (d : decode cc pc = .ok (.getfield idx, 3)) (kk : zU G nL p l e R s m args below meth c Q σ (pc + 3) lv (.ref (G.1 + 83) :: st)) : zU G nL p l e R s m args below meth c Q σ pc lv (.ref (G.1 + c0) :: st) := zu_get C c0 hz (rfl : zcl[0]? = some (RX0, TX0, 7)) (k := 1) ⟨by decide, by decide⟩ hm zs_0_1 d kk
theorem zg_0_2 (C : zC G cc nL own p s m args meth c) (c0 : Nat) (hz : zk c0 = (4, 0)) {idx : Nat} (hm : Cond.fieldLink own idx "EventCounters$Bank" "widths" "[I" ∈ wsL_law) (d : decode cc pc = .ok (.getfield idx, 3)) (kk : zU G nL p l e R s m args below meth c Q σ (pc + 3) lv (.ref (G.1 + 84) :: st)) : zU G nL p l e R s m args below meth c Q σ pc lv (.ref (G.1 + c0) :: st) := zu_get C c0 hz (rfl : zcl[0]? = some (RX0, TX0, 7)) (k := 2) ⟨by decide, by decide⟩ hm zs_0_2 d kk
theorem zg_0_3 (C : zC G cc nL own p s m args meth c) (c0 : Nat) (hz : zk c0 = (4, 0)) {idx : Nat} (hm : Cond.fieldLink own idx "EventCounters$Bank" "roundSets" "[I" ∈ wsL_law) (d : decode cc pc = .ok (.getfield idx, 3)) (kk : zU G nL p l e R s m args below meth c Q σ (pc + 3) lv (.ref (G.1 + 85) :: st)) : zU G nL p l e R s m args below meth c Q σ pc lv (.ref (G.1 + c0) :: st) := zu_get C c0 hz (rfl : zcl[0]? = some (RX0, TX0, 7)) (k := 3) ⟨by decide, by decide⟩ hm zs_0_3 d kk
theorem zg_0_4 (C : zC G cc nL own p s m args meth c) (c0 : Nat) (hz : zk c0 = (4, 0)) {idx : Nat} (hm : Cond.fieldLink own idx "EventCounters$Bank" "fits" "[Z" ∈ wsL_law) (d : decode cc pc = .ok (.getfield idx, 3)) (kk : zU G nL p l e R s m args below meth c Q σ (pc + 3) lv (.ref (G.1 + 86) :: st)) : zU G nL p l e R s m args below meth c Q σ pc lv (.ref (G.1 + c0) :: st) := zu_get C c0 hz (rfl : zcl[0]? = some (RX0, TX0, 7)) (k := 4) ⟨by decide, by decide⟩ hm zs_0_4 d kk
theorem zg_0_5 (C : zC G cc nL own p s m args meth c) (c0 : Nat) (hz : zk c0 = (4, 0)) {idx : Nat} (hm : Cond.fieldLink own idx "EventCounters$Bank" "fewest" "[I" ∈ wsL_law) (d : decode cc pc = .ok (.getfield idx, 3)) (kk : zU G nL p l e R s m args below meth c Q σ (pc + 3) lv (.ref (G.1 + 87) :: st)) : zU G nL p l e R s m args below meth c Q σ pc lv (.ref (G.1 + c0) :: st) := zu_get C c0 hz (rfl : zcl[0]? = some (RX0, TX0, 7)) (k := 5) ⟨by decide, by decide⟩ hm zs_0_5 d kk
theorem zg_0_6 (C : zC G cc nL own p s m args meth c) (c0 : Nat) (hz : zk c0 = (4, 0)) {idx : Nat} (hm : Cond.fieldLink own idx "EventCounters$Bank" "known" "Z" ∈ wsL_law) (d : decode cc pc = .ok (.getfield idx, 3)) (kk : zU G nL p l e R s m args below meth c Q σ (pc + 3) lv (.int (σ.1 c0 6) :: st)) : zU G nL p l e R s m args below meth c Q σ pc lv (.ref (G.1 + c0) :: st) := zu_get C c0 hz (rfl : zcl[0]? = some (RX0, TX0, 7)) (k := 6) ⟨by decide, by decide⟩ hm zs_0_6 d kk
theorem zp_0_6 (C : zC G cc nL own p s m args meth c) (c0 : Nat) (hz : zk c0 = (4, 0)) {idx : Nat} {v : Int32} {σ1 : zS} (hm : Cond.fieldLink own idx "EventCounters$Bank" "known" "Z" ∈ wsL_law) (hn : narrow .boolean (.int v) = .int v) (hft : fits .boolean (.int v) = true) (hσ : σ1 = zsI σ c0 6 v) (d : decode cc pc = .ok (.putfield idx, 3)) (kk : zU G nL p l e R s m args below meth c Q σ1 (pc + 3) lv st) : zU G nL p l e R s m args below meth c Q σ pc lv (.int v :: .ref (G.1 + c0) :: st) := by
  subst hσ
  exact zu_putI C c0 hz (rfl : zcl[0]? = some (RX0, TX0, 7)) (k := 6) ⟨by decide, by decide⟩ hm rfl (tyX0_ok 6 (by decide)) hn hft zf_0_6 d kk
theorem zg_1_0 (C : zC G cc nL own p s m args meth c) (c0 : Nat) (hz : zk c0 = (4, 1)) {idx : Nat} (hm : Cond.fieldLink own idx "EventCounters$Kept" "made" "[[I" ∈ wsL_law) (d : decode cc pc = .ok (.getfield idx, 3)) (kk : zU G nL p l e R s m args below meth c Q σ (pc + 3) lv (.ref (G.1 + 65) :: st)) : zU G nL p l e R s m args below meth c Q σ pc lv (.ref (G.1 + c0) :: st) := zu_get C c0 hz (rfl : zcl[1]? = some (RX1, TX1, 1)) (k := 0) ⟨by decide, by decide⟩ hm zs_1_0 d kk
theorem zg_2_0 (C : zC G cc nL own p s m args meth c) (c0 : Nat) (hz : zk c0 = (4, 2)) {idx : Nat} (hm : Cond.fieldLink own idx "EventCounters$Looks" "told" "I" ∈ wsL_law) (d : decode cc pc = .ok (.getfield idx, 3)) (kk : zU G nL p l e R s m args below meth c Q σ (pc + 3) lv (.int (σ.1 c0 0) :: st)) : zU G nL p l e R s m args below meth c Q σ pc lv (.ref (G.1 + c0) :: st) := zu_get C c0 hz (rfl : zcl[2]? = some (RX2, TX2, 4)) (k := 0) ⟨by decide, by decide⟩ hm zs_2_0 d kk
theorem zp_2_0 (C : zC G cc nL own p s m args meth c) (c0 : Nat) (hz : zk c0 = (4, 2)) {idx : Nat} {v : Int32} {σ1 : zS} (hm : Cond.fieldLink own idx "EventCounters$Looks" "told" "I" ∈ wsL_law) (hσ : σ1 = zsI σ c0 0 v) (d : decode cc pc = .ok (.putfield idx, 3)) (kk : zU G nL p l e R s m args below meth c Q σ1 (pc + 3) lv st) : zU G nL p l e R s m args below meth c Q σ pc lv (.int v :: .ref (G.1 + c0) :: st) := by
  subst hσ
  exact zu_putI C c0 hz (rfl : zcl[2]? = some (RX2, TX2, 4)) (k := 0) ⟨by decide, by decide⟩ hm rfl (tyX2_ok 0 (by decide)) rfl rfl zf_2_0 d kk
theorem zg_2_1 (C : zC G cc nL own p s m args meth c) (c0 : Nat) (hz : zk c0 = (4, 2)) {idx : Nat} (hm : Cond.fieldLink own idx "EventCounters$Looks" "often" "I" ∈ wsL_law) (d : decode cc pc = .ok (.getfield idx, 3)) (kk : zU G nL p l e R s m args below meth c Q σ (pc + 3) lv (.int (σ.1 c0 1) :: st)) : zU G nL p l e R s m args below meth c Q σ pc lv (.ref (G.1 + c0) :: st) := zu_get C c0 hz (rfl : zcl[2]? = some (RX2, TX2, 4)) (k := 1) ⟨by decide, by decide⟩ hm zs_2_1 d kk
theorem zp_2_1 (C : zC G cc nL own p s m args meth c) (c0 : Nat) (hz : zk c0 = (4, 2)) {idx : Nat} {v : Int32} {σ1 : zS} (hm : Cond.fieldLink own idx "EventCounters$Looks" "often" "I" ∈ wsL_law) (hσ : σ1 = zsI σ c0 1 v) (d : decode cc pc = .ok (.putfield idx, 3)) (kk : zU G nL p l e R s m args below meth c Q σ1 (pc + 3) lv st) : zU G nL p l e R s m args below meth c Q σ pc lv (.int v :: .ref (G.1 + c0) :: st) := by
  subst hσ
  exact zu_putI C c0 hz (rfl : zcl[2]? = some (RX2, TX2, 4)) (k := 1) ⟨by decide, by decide⟩ hm rfl (tyX2_ok 1 (by decide)) rfl rfl zf_2_1 d kk
theorem zg_2_2 (C : zC G cc nL own p s m args meth c) (c0 : Nat) (hz : zk c0 = (4, 2)) {idx : Nat} (hm : Cond.fieldLink own idx "EventCounters$Looks" "lossBegins" "I" ∈ wsL_law) (d : decode cc pc = .ok (.getfield idx, 3)) (kk : zU G nL p l e R s m args below meth c Q σ (pc + 3) lv (.int (σ.1 c0 2) :: st)) : zU G nL p l e R s m args below meth c Q σ pc lv (.ref (G.1 + c0) :: st) := zu_get C c0 hz (rfl : zcl[2]? = some (RX2, TX2, 4)) (k := 2) ⟨by decide, by decide⟩ hm zs_2_2 d kk
theorem zp_2_2 (C : zC G cc nL own p s m args meth c) (c0 : Nat) (hz : zk c0 = (4, 2)) {idx : Nat} {v : Int32} {σ1 : zS} (hm : Cond.fieldLink own idx "EventCounters$Looks" "lossBegins" "I" ∈ wsL_law) (hσ : σ1 = zsI σ c0 2 v) (d : decode cc pc = .ok (.putfield idx, 3)) (kk : zU G nL p l e R s m args below meth c Q σ1 (pc + 3) lv st) : zU G nL p l e R s m args below meth c Q σ pc lv (.int v :: .ref (G.1 + c0) :: st) := by
  subst hσ
  exact zu_putI C c0 hz (rfl : zcl[2]? = some (RX2, TX2, 4)) (k := 2) ⟨by decide, by decide⟩ hm rfl (tyX2_ok 2 (by decide)) rfl rfl zf_2_2 d kk
theorem zg_2_3 (C : zC G cc nL own p s m args meth c) (c0 : Nat) (hz : zk c0 = (4, 2)) {idx : Nat} (hm : Cond.fieldLink own idx "EventCounters$Looks" "lossEnds" "I" ∈ wsL_law) (d : decode cc pc = .ok (.getfield idx, 3)) (kk : zU G nL p l e R s m args below meth c Q σ (pc + 3) lv (.int (σ.1 c0 3) :: st)) : zU G nL p l e R s m args below meth c Q σ pc lv (.ref (G.1 + c0) :: st) := zu_get C c0 hz (rfl : zcl[2]? = some (RX2, TX2, 4)) (k := 3) ⟨by decide, by decide⟩ hm zs_2_3 d kk
theorem zp_2_3 (C : zC G cc nL own p s m args meth c) (c0 : Nat) (hz : zk c0 = (4, 2)) {idx : Nat} {v : Int32} {σ1 : zS} (hm : Cond.fieldLink own idx "EventCounters$Looks" "lossEnds" "I" ∈ wsL_law) (hσ : σ1 = zsI σ c0 3 v) (d : decode cc pc = .ok (.putfield idx, 3)) (kk : zU G nL p l e R s m args below meth c Q σ1 (pc + 3) lv st) : zU G nL p l e R s m args below meth c Q σ pc lv (.int v :: .ref (G.1 + c0) :: st) := by
  subst hσ
  exact zu_putI C c0 hz (rfl : zcl[2]? = some (RX2, TX2, 4)) (k := 3) ⟨by decide, by decide⟩ hm rfl (tyX2_ok 3 (by decide)) rfl rfl zf_2_3 d kk
theorem zg_3_0 (C : zC G cc nL own p s m args meth c) (c0 : Nat) (hz : zk c0 = (4, 3)) {idx : Nat} (hm : Cond.fieldLink own idx "EventCounters$Program" "lines" "I" ∈ wsL_law) (d : decode cc pc = .ok (.getfield idx, 3)) (kk : zU G nL p l e R s m args below meth c Q σ (pc + 3) lv (.int (σ.1 c0 0) :: st)) : zU G nL p l e R s m args below meth c Q σ pc lv (.ref (G.1 + c0) :: st) := zu_get C c0 hz (rfl : zcl[3]? = some (RX3, TX3, 19)) (k := 0) ⟨by decide, by decide⟩ hm zs_3_0 d kk
theorem zp_3_0 (C : zC G cc nL own p s m args meth c) (c0 : Nat) (hz : zk c0 = (4, 3)) {idx : Nat} {v : Int32} {σ1 : zS} (hm : Cond.fieldLink own idx "EventCounters$Program" "lines" "I" ∈ wsL_law) (hσ : σ1 = zsI σ c0 0 v) (d : decode cc pc = .ok (.putfield idx, 3)) (kk : zU G nL p l e R s m args below meth c Q σ1 (pc + 3) lv st) : zU G nL p l e R s m args below meth c Q σ pc lv (.int v :: .ref (G.1 + c0) :: st) := by
  subst hσ
  exact zu_putI C c0 hz (rfl : zcl[3]? = some (RX3, TX3, 19)) (k := 0) ⟨by decide, by decide⟩ hm rfl (tyX3_ok 0 (by decide)) rfl rfl zf_3_0 d kk
theorem zg_3_1 (C : zC G cc nL own p s m args meth c) (c0 : Nat) (hz : zk c0 = (4, 3)) {idx : Nat} (hm : Cond.fieldLink own idx "EventCounters$Program" "ticks" "[I" ∈ wsL_law) (d : decode cc pc = .ok (.getfield idx, 3)) (kk : zU G nL p l e R s m args below meth c Q σ (pc + 3) lv (.ref (G.1 + (c0 + 1)) :: st)) : zU G nL p l e R s m args below meth c Q σ pc lv (.ref (G.1 + c0) :: st) := zu_get C c0 hz (rfl : zcl[3]? = some (RX3, TX3, 19)) (k := 1) ⟨by decide, by decide⟩ hm zs_3_1 d kk
theorem zg_3_2 (C : zC G cc nL own p s m args meth c) (c0 : Nat) (hz : zk c0 = (4, 3)) {idx : Nat} (hm : Cond.fieldLink own idx "EventCounters$Program" "times" "[I" ∈ wsL_law) (d : decode cc pc = .ok (.getfield idx, 3)) (kk : zU G nL p l e R s m args below meth c Q σ (pc + 3) lv (.ref (G.1 + (c0 + 2)) :: st)) : zU G nL p l e R s m args below meth c Q σ pc lv (.ref (G.1 + c0) :: st) := zu_get C c0 hz (rfl : zcl[3]? = some (RX3, TX3, 19)) (k := 2) ⟨by decide, by decide⟩ hm zs_3_2 d kk
theorem zg_3_3 (C : zC G cc nL own p s m args meth c) (c0 : Nat) (hz : zk c0 = (4, 3)) {idx : Nat} (hm : Cond.fieldLink own idx "EventCounters$Program" "inside" "[I" ∈ wsL_law) (d : decode cc pc = .ok (.getfield idx, 3)) (kk : zU G nL p l e R s m args below meth c Q σ (pc + 3) lv (.ref (G.1 + (c0 + 3)) :: st)) : zU G nL p l e R s m args below meth c Q σ pc lv (.ref (G.1 + c0) :: st) := zu_get C c0 hz (rfl : zcl[3]? = some (RX3, TX3, 19)) (k := 3) ⟨by decide, by decide⟩ hm zs_3_3 d kk
theorem zg_3_4 (C : zC G cc nL own p s m args meth c) (c0 : Nat) (hz : zk c0 = (4, 3)) {idx : Nat} (hm : Cond.fieldLink own idx "EventCounters$Program" "each" "[[I" ∈ wsL_law) (d : decode cc pc = .ok (.getfield idx, 3)) (kk : zU G nL p l e R s m args below meth c Q σ (pc + 3) lv (.ref (G.1 + (c0 + 4)) :: st)) : zU G nL p l e R s m args below meth c Q σ pc lv (.ref (G.1 + c0) :: st) := zu_get C c0 hz (rfl : zcl[3]? = some (RX3, TX3, 19)) (k := 4) ⟨by decide, by decide⟩ hm zs_3_4 d kk
theorem zg_3_5 (C : zC G cc nL own p s m args meth c) (c0 : Nat) (hz : zk c0 = (4, 3)) {idx : Nat} (hm : Cond.fieldLink own idx "EventCounters$Program" "loops" "I" ∈ wsL_law) (d : decode cc pc = .ok (.getfield idx, 3)) (kk : zU G nL p l e R s m args below meth c Q σ (pc + 3) lv (.int (σ.1 c0 5) :: st)) : zU G nL p l e R s m args below meth c Q σ pc lv (.ref (G.1 + c0) :: st) := zu_get C c0 hz (rfl : zcl[3]? = some (RX3, TX3, 19)) (k := 5) ⟨by decide, by decide⟩ hm zs_3_5 d kk
theorem zp_3_5 (C : zC G cc nL own p s m args meth c) (c0 : Nat) (hz : zk c0 = (4, 3)) {idx : Nat} {v : Int32} {σ1 : zS} (hm : Cond.fieldLink own idx "EventCounters$Program" "loops" "I" ∈ wsL_law) (hσ : σ1 = zsI σ c0 5 v) (d : decode cc pc = .ok (.putfield idx, 3)) (kk : zU G nL p l e R s m args below meth c Q σ1 (pc + 3) lv st) : zU G nL p l e R s m args below meth c Q σ pc lv (.int v :: .ref (G.1 + c0) :: st) := by
  subst hσ
  exact zu_putI C c0 hz (rfl : zcl[3]? = some (RX3, TX3, 19)) (k := 5) ⟨by decide, by decide⟩ hm rfl (tyX3_ok 5 (by decide)) rfl rfl zf_3_5 d kk
theorem zg_3_6 (C : zC G cc nL own p s m args meth c) (c0 : Nat) (hz : zk c0 = (4, 3)) {idx : Nat} (hm : Cond.fieldLink own idx "EventCounters$Program" "tells" "[I" ∈ wsL_law) (d : decode cc pc = .ok (.getfield idx, 3)) (kk : zU G nL p l e R s m args below meth c Q σ (pc + 3) lv (.ref (G.1 + (c0 + 21)) :: st)) : zU G nL p l e R s m args below meth c Q σ pc lv (.ref (G.1 + c0) :: st) := zu_get C c0 hz (rfl : zcl[3]? = some (RX3, TX3, 19)) (k := 6) ⟨by decide, by decide⟩ hm zs_3_6 d kk
theorem zg_3_7 (C : zC G cc nL own p s m args meth c) (c0 : Nat) (hz : zk c0 = (4, 3)) {idx : Nat} (hm : Cond.fieldLink own idx "EventCounters$Program" "around" "[I" ∈ wsL_law) (d : decode cc pc = .ok (.getfield idx, 3)) (kk : zU G nL p l e R s m args below meth c Q σ (pc + 3) lv (.ref (G.1 + (c0 + 22)) :: st)) : zU G nL p l e R s m args below meth c Q σ pc lv (.ref (G.1 + c0) :: st) := zu_get C c0 hz (rfl : zcl[3]? = some (RX3, TX3, 19)) (k := 7) ⟨by decide, by decide⟩ hm zs_3_7 d kk
theorem zg_3_8 (C : zC G cc nL own p s m args meth c) (c0 : Nat) (hz : zk c0 = (4, 3)) {idx : Nat} (hm : Cond.fieldLink own idx "EventCounters$Program" "comes" "[I" ∈ wsL_law) (d : decode cc pc = .ok (.getfield idx, 3)) (kk : zU G nL p l e R s m args below meth c Q σ (pc + 3) lv (.ref (G.1 + (c0 + 23)) :: st)) : zU G nL p l e R s m args below meth c Q σ pc lv (.ref (G.1 + c0) :: st) := zu_get C c0 hz (rfl : zcl[3]? = some (RX3, TX3, 19)) (k := 8) ⟨by decide, by decide⟩ hm zs_3_8 d kk
theorem zg_3_9 (C : zC G cc nL own p s m args meth c) (c0 : Nat) (hz : zk c0 = (4, 3)) {idx : Nat} (hm : Cond.fieldLink own idx "EventCounters$Program" "firstLine" "[I" ∈ wsL_law) (d : decode cc pc = .ok (.getfield idx, 3)) (kk : zU G nL p l e R s m args below meth c Q σ (pc + 3) lv (.ref (G.1 + (c0 + 24)) :: st)) : zU G nL p l e R s m args below meth c Q σ pc lv (.ref (G.1 + c0) :: st) := zu_get C c0 hz (rfl : zcl[3]? = some (RX3, TX3, 19)) (k := 9) ⟨by decide, by decide⟩ hm zs_3_9 d kk
theorem zg_3_10 (C : zC G cc nL own p s m args meth c) (c0 : Nat) (hz : zk c0 = (4, 3)) {idx : Nat} (hm : Cond.fieldLink own idx "EventCounters$Program" "behindLine" "[I" ∈ wsL_law) (d : decode cc pc = .ok (.getfield idx, 3)) (kk : zU G nL p l e R s m args below meth c Q σ (pc + 3) lv (.ref (G.1 + (c0 + 25)) :: st)) : zU G nL p l e R s m args below meth c Q σ pc lv (.ref (G.1 + c0) :: st) := zu_get C c0 hz (rfl : zcl[3]? = some (RX3, TX3, 19)) (k := 10) ⟨by decide, by decide⟩ hm zs_3_10 d kk
theorem zg_3_11 (C : zC G cc nL own p s m args meth c) (c0 : Nat) (hz : zk c0 = (4, 3)) {idx : Nat} (hm : Cond.fieldLink own idx "EventCounters$Program" "firstStep" "[I" ∈ wsL_law) (d : decode cc pc = .ok (.getfield idx, 3)) (kk : zU G nL p l e R s m args below meth c Q σ (pc + 3) lv (.ref (G.1 + (c0 + 26)) :: st)) : zU G nL p l e R s m args below meth c Q σ pc lv (.ref (G.1 + c0) :: st) := zu_get C c0 hz (rfl : zcl[3]? = some (RX3, TX3, 19)) (k := 11) ⟨by decide, by decide⟩ hm zs_3_11 d kk
theorem zg_3_12 (C : zC G cc nL own p s m args meth c) (c0 : Nat) (hz : zk c0 = (4, 3)) {idx : Nat} (hm : Cond.fieldLink own idx "EventCounters$Program" "open" "[I" ∈ wsL_law) (d : decode cc pc = .ok (.getfield idx, 3)) (kk : zU G nL p l e R s m args below meth c Q σ (pc + 3) lv (.ref (G.1 + (c0 + 27)) :: st)) : zU G nL p l e R s m args below meth c Q σ pc lv (.ref (G.1 + c0) :: st) := zu_get C c0 hz (rfl : zcl[3]? = some (RX3, TX3, 19)) (k := 12) ⟨by decide, by decide⟩ hm zs_3_12 d kk
theorem zg_3_13 (C : zC G cc nL own p s m args meth c) (c0 : Nat) (hz : zk c0 = (4, 3)) {idx : Nat} (hm : Cond.fieldLink own idx "EventCounters$Program" "depth" "I" ∈ wsL_law) (d : decode cc pc = .ok (.getfield idx, 3)) (kk : zU G nL p l e R s m args below meth c Q σ (pc + 3) lv (.int (σ.1 c0 13) :: st)) : zU G nL p l e R s m args below meth c Q σ pc lv (.ref (G.1 + c0) :: st) := zu_get C c0 hz (rfl : zcl[3]? = some (RX3, TX3, 19)) (k := 13) ⟨by decide, by decide⟩ hm zs_3_13 d kk
theorem zp_3_13 (C : zC G cc nL own p s m args meth c) (c0 : Nat) (hz : zk c0 = (4, 3)) {idx : Nat} {v : Int32} {σ1 : zS} (hm : Cond.fieldLink own idx "EventCounters$Program" "depth" "I" ∈ wsL_law) (hσ : σ1 = zsI σ c0 13 v) (d : decode cc pc = .ok (.putfield idx, 3)) (kk : zU G nL p l e R s m args below meth c Q σ1 (pc + 3) lv st) : zU G nL p l e R s m args below meth c Q σ pc lv (.int v :: .ref (G.1 + c0) :: st) := by
  subst hσ
  exact zu_putI C c0 hz (rfl : zcl[3]? = some (RX3, TX3, 19)) (k := 13) ⟨by decide, by decide⟩ hm rfl (tyX3_ok 13 (by decide)) rfl rfl zf_3_13 d kk
theorem zg_3_14 (C : zC G cc nL own p s m args meth c) (c0 : Nat) (hz : zk c0 = (4, 3)) {idx : Nat} (hm : Cond.fieldLink own idx "EventCounters$Program" "repeats" "I" ∈ wsL_law) (d : decode cc pc = .ok (.getfield idx, 3)) (kk : zU G nL p l e R s m args below meth c Q σ (pc + 3) lv (.int (σ.1 c0 14) :: st)) : zU G nL p l e R s m args below meth c Q σ pc lv (.ref (G.1 + c0) :: st) := zu_get C c0 hz (rfl : zcl[3]? = some (RX3, TX3, 19)) (k := 14) ⟨by decide, by decide⟩ hm zs_3_14 d kk
theorem zp_3_14 (C : zC G cc nL own p s m args meth c) (c0 : Nat) (hz : zk c0 = (4, 3)) {idx : Nat} {v : Int32} {σ1 : zS} (hm : Cond.fieldLink own idx "EventCounters$Program" "repeats" "I" ∈ wsL_law) (hσ : σ1 = zsI σ c0 14 v) (d : decode cc pc = .ok (.putfield idx, 3)) (kk : zU G nL p l e R s m args below meth c Q σ1 (pc + 3) lv st) : zU G nL p l e R s m args below meth c Q σ pc lv (.int v :: .ref (G.1 + c0) :: st) := by
  subst hσ
  exact zu_putI C c0 hz (rfl : zcl[3]? = some (RX3, TX3, 19)) (k := 14) ⟨by decide, by decide⟩ hm rfl (tyX3_ok 14 (by decide)) rfl rfl zf_3_14 d kk
theorem zg_3_15 (C : zC G cc nL own p s m args meth c) (c0 : Nat) (hz : zk c0 = (4, 3)) {idx : Nat} (hm : Cond.fieldLink own idx "EventCounters$Program" "steps" "I" ∈ wsL_law) (d : decode cc pc = .ok (.getfield idx, 3)) (kk : zU G nL p l e R s m args below meth c Q σ (pc + 3) lv (.int (σ.1 c0 15) :: st)) : zU G nL p l e R s m args below meth c Q σ pc lv (.ref (G.1 + c0) :: st) := zu_get C c0 hz (rfl : zcl[3]? = some (RX3, TX3, 19)) (k := 15) ⟨by decide, by decide⟩ hm zs_3_15 d kk
theorem zp_3_15 (C : zC G cc nL own p s m args meth c) (c0 : Nat) (hz : zk c0 = (4, 3)) {idx : Nat} {v : Int32} {σ1 : zS} (hm : Cond.fieldLink own idx "EventCounters$Program" "steps" "I" ∈ wsL_law) (hσ : σ1 = zsI σ c0 15 v) (d : decode cc pc = .ok (.putfield idx, 3)) (kk : zU G nL p l e R s m args below meth c Q σ1 (pc + 3) lv st) : zU G nL p l e R s m args below meth c Q σ pc lv (.int v :: .ref (G.1 + c0) :: st) := by
  subst hσ
  exact zu_putI C c0 hz (rfl : zcl[3]? = some (RX3, TX3, 19)) (k := 15) ⟨by decide, by decide⟩ hm rfl (tyX3_ok 15 (by decide)) rfl rfl zf_3_15 d kk
theorem zg_3_16 (C : zC G cc nL own p s m args meth c) (c0 : Nat) (hz : zk c0 = (4, 3)) {idx : Nat} (hm : Cond.fieldLink own idx "EventCounters$Program" "tooLong" "Z" ∈ wsL_law) (d : decode cc pc = .ok (.getfield idx, 3)) (kk : zU G nL p l e R s m args below meth c Q σ (pc + 3) lv (.int (σ.1 c0 16) :: st)) : zU G nL p l e R s m args below meth c Q σ pc lv (.ref (G.1 + c0) :: st) := zu_get C c0 hz (rfl : zcl[3]? = some (RX3, TX3, 19)) (k := 16) ⟨by decide, by decide⟩ hm zs_3_16 d kk
theorem zp_3_16 (C : zC G cc nL own p s m args meth c) (c0 : Nat) (hz : zk c0 = (4, 3)) {idx : Nat} {v : Int32} {σ1 : zS} (hm : Cond.fieldLink own idx "EventCounters$Program" "tooLong" "Z" ∈ wsL_law) (hn : narrow .boolean (.int v) = .int v) (hft : fits .boolean (.int v) = true) (hσ : σ1 = zsI σ c0 16 v) (d : decode cc pc = .ok (.putfield idx, 3)) (kk : zU G nL p l e R s m args below meth c Q σ1 (pc + 3) lv st) : zU G nL p l e R s m args below meth c Q σ pc lv (.int v :: .ref (G.1 + c0) :: st) := by
  subst hσ
  exact zu_putI C c0 hz (rfl : zcl[3]? = some (RX3, TX3, 19)) (k := 16) ⟨by decide, by decide⟩ hm rfl (tyX3_ok 16 (by decide)) hn hft zf_3_16 d kk
theorem zg_3_17 (C : zC G cc nL own p s m args meth c) (c0 : Nat) (hz : zk c0 = (4, 3)) {idx : Nat} (hm : Cond.fieldLink own idx "EventCounters$Program" "lineOf" "[B" ∈ wsL_law) (d : decode cc pc = .ok (.getfield idx, 3)) (kk : zU G nL p l e R s m args below meth c Q σ (pc + 3) lv (.ref (G.1 + (c0 + 28)) :: st)) : zU G nL p l e R s m args below meth c Q σ pc lv (.ref (G.1 + c0) :: st) := zu_get C c0 hz (rfl : zcl[3]? = some (RX3, TX3, 19)) (k := 17) ⟨by decide, by decide⟩ hm zs_3_17 d kk
theorem zg_3_18 (C : zC G cc nL own p s m args meth c) (c0 : Nat) (hz : zk c0 = (4, 3)) {idx : Nat} (hm : Cond.fieldLink own idx "EventCounters$Program" "tickAt" "[I" ∈ wsL_law) (d : decode cc pc = .ok (.getfield idx, 3)) (kk : zU G nL p l e R s m args below meth c Q σ (pc + 3) lv (.ref (G.1 + (c0 + 29)) :: st)) : zU G nL p l e R s m args below meth c Q σ pc lv (.ref (G.1 + c0) :: st) := zu_get C c0 hz (rfl : zcl[3]? = some (RX3, TX3, 19)) (k := 18) ⟨by decide, by decide⟩ hm zs_3_18 d kk
theorem zg_4_0 (C : zC G cc nL own p s m args meth c) (c0 : Nat) (hz : zk c0 = (4, 4)) {idx : Nat} (hm : Cond.fieldLink own idx "EventCounters$Reader" "tape" "LEventCounters$Tape;" ∈ wsL_law) (d : decode cc pc = .ok (.getfield idx, 3)) (kk : zU G nL p l e R s m args below meth c Q σ (pc + 3) lv (.ref (G.1 + 1) :: st)) : zU G nL p l e R s m args below meth c Q σ pc lv (.ref (G.1 + c0) :: st) := zu_get C c0 hz (rfl : zcl[4]? = some (RX4, TX4, 8)) (k := 0) ⟨by decide, by decide⟩ hm zs_4_0 d kk
theorem zg_4_1 (C : zC G cc nL own p s m args meth c) (c0 : Nat) (hz : zk c0 = (4, 4)) {idx : Nat} (hm : Cond.fieldLink own idx "EventCounters$Reader" "draft" "LEventCounters$Program;" ∈ wsL_law) (d : decode cc pc = .ok (.getfield idx, 3)) (kk : zU G nL p l e R s m args below meth c Q σ (pc + 3) lv (.ref (G.1 + σ.2.2 c0 1) :: st)) : zU G nL p l e R s m args below meth c Q σ pc lv (.ref (G.1 + c0) :: st) := zu_get C c0 hz (rfl : zcl[4]? = some (RX4, TX4, 8)) (k := 1) ⟨by decide, by decide⟩ hm zs_4_1 d kk
theorem zp_4_1 (C : zC G cc nL own p s m args meth c) (c0 : Nat) (hz : zk c0 = (4, 4)) {idx : Nat} {v : Nat} {σ1 : zS} (hm : Cond.fieldLink own idx "EventCounters$Reader" "draft" "LEventCounters$Program;" ∈ wsL_law) (hσ : σ1 = zsR σ c0 1 v) (d : decode cc pc = .ok (.putfield idx, 3)) (kk : zU G nL p l e R s m args below meth c Q σ1 (pc + 3) lv st) : zU G nL p l e R s m args below meth c Q σ pc lv (.ref (G.1 + v) :: .ref (G.1 + c0) :: st) := by
  subst hσ
  exact zu_putR C c0 hz (rfl : zcl[4]? = some (RX4, TX4, 8)) (k := 1) ⟨by decide, by decide⟩ hm rfl (tyX4_ok 1 (by decide)) zf_4_1 d kk
theorem zg_4_2 (C : zC G cc nL own p s m args meth c) (c0 : Nat) (hz : zk c0 = (4, 4)) {idx : Nat} (hm : Cond.fieldLink own idx "EventCounters$Reader" "place" "I" ∈ wsL_law) (d : decode cc pc = .ok (.getfield idx, 3)) (kk : zU G nL p l e R s m args below meth c Q σ (pc + 3) lv (.int (σ.1 c0 2) :: st)) : zU G nL p l e R s m args below meth c Q σ pc lv (.ref (G.1 + c0) :: st) := zu_get C c0 hz (rfl : zcl[4]? = some (RX4, TX4, 8)) (k := 2) ⟨by decide, by decide⟩ hm zs_4_2 d kk
theorem zp_4_2 (C : zC G cc nL own p s m args meth c) (c0 : Nat) (hz : zk c0 = (4, 4)) {idx : Nat} {v : Int32} {σ1 : zS} (hm : Cond.fieldLink own idx "EventCounters$Reader" "place" "I" ∈ wsL_law) (hσ : σ1 = zsI σ c0 2 v) (d : decode cc pc = .ok (.putfield idx, 3)) (kk : zU G nL p l e R s m args below meth c Q σ1 (pc + 3) lv st) : zU G nL p l e R s m args below meth c Q σ pc lv (.int v :: .ref (G.1 + c0) :: st) := by
  subst hσ
  exact zu_putI C c0 hz (rfl : zcl[4]? = some (RX4, TX4, 8)) (k := 2) ⟨by decide, by decide⟩ hm rfl (tyX4_ok 2 (by decide)) rfl rfl zf_4_2 d kk
theorem zg_4_3 (C : zC G cc nL own p s m args meth c) (c0 : Nat) (hz : zk c0 = (4, 4)) {idx : Nat} (hm : Cond.fieldLink own idx "EventCounters$Reader" "kind" "I" ∈ wsL_law) (d : decode cc pc = .ok (.getfield idx, 3)) (kk : zU G nL p l e R s m args below meth c Q σ (pc + 3) lv (.int (σ.1 c0 3) :: st)) : zU G nL p l e R s m args below meth c Q σ pc lv (.ref (G.1 + c0) :: st) := zu_get C c0 hz (rfl : zcl[4]? = some (RX4, TX4, 8)) (k := 3) ⟨by decide, by decide⟩ hm zs_4_3 d kk
theorem zp_4_3 (C : zC G cc nL own p s m args meth c) (c0 : Nat) (hz : zk c0 = (4, 4)) {idx : Nat} {v : Int32} {σ1 : zS} (hm : Cond.fieldLink own idx "EventCounters$Reader" "kind" "I" ∈ wsL_law) (hσ : σ1 = zsI σ c0 3 v) (d : decode cc pc = .ok (.putfield idx, 3)) (kk : zU G nL p l e R s m args below meth c Q σ1 (pc + 3) lv st) : zU G nL p l e R s m args below meth c Q σ pc lv (.int v :: .ref (G.1 + c0) :: st) := by
  subst hσ
  exact zu_putI C c0 hz (rfl : zcl[4]? = some (RX4, TX4, 8)) (k := 3) ⟨by decide, by decide⟩ hm rfl (tyX4_ok 3 (by decide)) rfl rfl zf_4_3 d kk
theorem zg_4_4 (C : zC G cc nL own p s m args meth c) (c0 : Nat) (hz : zk c0 = (4, 4)) {idx : Nat} (hm : Cond.fieldLink own idx "EventCounters$Reader" "start" "I" ∈ wsL_law) (d : decode cc pc = .ok (.getfield idx, 3)) (kk : zU G nL p l e R s m args below meth c Q σ (pc + 3) lv (.int (σ.1 c0 4) :: st)) : zU G nL p l e R s m args below meth c Q σ pc lv (.ref (G.1 + c0) :: st) := zu_get C c0 hz (rfl : zcl[4]? = some (RX4, TX4, 8)) (k := 4) ⟨by decide, by decide⟩ hm zs_4_4 d kk
theorem zp_4_4 (C : zC G cc nL own p s m args meth c) (c0 : Nat) (hz : zk c0 = (4, 4)) {idx : Nat} {v : Int32} {σ1 : zS} (hm : Cond.fieldLink own idx "EventCounters$Reader" "start" "I" ∈ wsL_law) (hσ : σ1 = zsI σ c0 4 v) (d : decode cc pc = .ok (.putfield idx, 3)) (kk : zU G nL p l e R s m args below meth c Q σ1 (pc + 3) lv st) : zU G nL p l e R s m args below meth c Q σ pc lv (.int v :: .ref (G.1 + c0) :: st) := by
  subst hσ
  exact zu_putI C c0 hz (rfl : zcl[4]? = some (RX4, TX4, 8)) (k := 4) ⟨by decide, by decide⟩ hm rfl (tyX4_ok 4 (by decide)) rfl rfl zf_4_4 d kk
theorem zg_4_5 (C : zC G cc nL own p s m args meth c) (c0 : Nat) (hz : zk c0 = (4, 4)) {idx : Nat} (hm : Cond.fieldLink own idx "EventCounters$Reader" "value" "I" ∈ wsL_law) (d : decode cc pc = .ok (.getfield idx, 3)) (kk : zU G nL p l e R s m args below meth c Q σ (pc + 3) lv (.int (σ.1 c0 5) :: st)) : zU G nL p l e R s m args below meth c Q σ pc lv (.ref (G.1 + c0) :: st) := zu_get C c0 hz (rfl : zcl[4]? = some (RX4, TX4, 8)) (k := 5) ⟨by decide, by decide⟩ hm zs_4_5 d kk
theorem zp_4_5 (C : zC G cc nL own p s m args meth c) (c0 : Nat) (hz : zk c0 = (4, 4)) {idx : Nat} {v : Int32} {σ1 : zS} (hm : Cond.fieldLink own idx "EventCounters$Reader" "value" "I" ∈ wsL_law) (hσ : σ1 = zsI σ c0 5 v) (d : decode cc pc = .ok (.putfield idx, 3)) (kk : zU G nL p l e R s m args below meth c Q σ1 (pc + 3) lv st) : zU G nL p l e R s m args below meth c Q σ pc lv (.int v :: .ref (G.1 + c0) :: st) := by
  subst hσ
  exact zu_putI C c0 hz (rfl : zcl[4]? = some (RX4, TX4, 8)) (k := 5) ⟨by decide, by decide⟩ hm rfl (tyX4_ok 5 (by decide)) rfl rfl zf_4_5 d kk
theorem zg_4_6 (C : zC G cc nL own p s m args meth c) (c0 : Nat) (hz : zk c0 = (4, 4)) {idx : Nat} (hm : Cond.fieldLink own idx "EventCounters$Reader" "fault" "I" ∈ wsL_law) (d : decode cc pc = .ok (.getfield idx, 3)) (kk : zU G nL p l e R s m args below meth c Q σ (pc + 3) lv (.int (σ.1 c0 6) :: st)) : zU G nL p l e R s m args below meth c Q σ pc lv (.ref (G.1 + c0) :: st) := zu_get C c0 hz (rfl : zcl[4]? = some (RX4, TX4, 8)) (k := 6) ⟨by decide, by decide⟩ hm zs_4_6 d kk
theorem zp_4_6 (C : zC G cc nL own p s m args meth c) (c0 : Nat) (hz : zk c0 = (4, 4)) {idx : Nat} {v : Int32} {σ1 : zS} (hm : Cond.fieldLink own idx "EventCounters$Reader" "fault" "I" ∈ wsL_law) (hσ : σ1 = zsI σ c0 6 v) (d : decode cc pc = .ok (.putfield idx, 3)) (kk : zU G nL p l e R s m args below meth c Q σ1 (pc + 3) lv st) : zU G nL p l e R s m args below meth c Q σ pc lv (.int v :: .ref (G.1 + c0) :: st) := by
  subst hσ
  exact zu_putI C c0 hz (rfl : zcl[4]? = some (RX4, TX4, 8)) (k := 6) ⟨by decide, by decide⟩ hm rfl (tyX4_ok 6 (by decide)) rfl rfl zf_4_6 d kk
theorem zg_4_7 (C : zC G cc nL own p s m args meth c) (c0 : Nat) (hz : zk c0 = (4, 4)) {idx : Nat} (hm : Cond.fieldLink own idx "EventCounters$Reader" "faultPlace" "I" ∈ wsL_law) (d : decode cc pc = .ok (.getfield idx, 3)) (kk : zU G nL p l e R s m args below meth c Q σ (pc + 3) lv (.int (σ.1 c0 7) :: st)) : zU G nL p l e R s m args below meth c Q σ pc lv (.ref (G.1 + c0) :: st) := zu_get C c0 hz (rfl : zcl[4]? = some (RX4, TX4, 8)) (k := 7) ⟨by decide, by decide⟩ hm zs_4_7 d kk
theorem zp_4_7 (C : zC G cc nL own p s m args meth c) (c0 : Nat) (hz : zk c0 = (4, 4)) {idx : Nat} {v : Int32} {σ1 : zS} (hm : Cond.fieldLink own idx "EventCounters$Reader" "faultPlace" "I" ∈ wsL_law) (hσ : σ1 = zsI σ c0 7 v) (d : decode cc pc = .ok (.putfield idx, 3)) (kk : zU G nL p l e R s m args below meth c Q σ1 (pc + 3) lv st) : zU G nL p l e R s m args below meth c Q σ pc lv (.int v :: .ref (G.1 + c0) :: st) := by
  subst hσ
  exact zu_putI C c0 hz (rfl : zcl[4]? = some (RX4, TX4, 8)) (k := 7) ⟨by decide, by decide⟩ hm rfl (tyX4_ok 7 (by decide)) rfl rfl zf_4_7 d kk
theorem zg_5_0 (C : zC G cc nL own p s m args meth c) (c0 : Nat) (hz : zk c0 = (4, 5)) {idx : Nat} (hm : Cond.fieldLink own idx "EventCounters$Runs" "size" "I" ∈ wsL_law) (d : decode cc pc = .ok (.getfield idx, 3)) (kk : zU G nL p l e R s m args below meth c Q σ (pc + 3) lv (.int (σ.1 c0 0) :: st)) : zU G nL p l e R s m args below meth c Q σ pc lv (.ref (G.1 + c0) :: st) := zu_get C c0 hz (rfl : zcl[5]? = some (RX5, TX5, 6)) (k := 0) ⟨by decide, by decide⟩ hm zs_5_0 d kk
theorem zp_5_0 (C : zC G cc nL own p s m args meth c) (c0 : Nat) (hz : zk c0 = (4, 5)) {idx : Nat} {v : Int32} {σ1 : zS} (hm : Cond.fieldLink own idx "EventCounters$Runs" "size" "I" ∈ wsL_law) (hσ : σ1 = zsI σ c0 0 v) (d : decode cc pc = .ok (.putfield idx, 3)) (kk : zU G nL p l e R s m args below meth c Q σ1 (pc + 3) lv st) : zU G nL p l e R s m args below meth c Q σ pc lv (.int v :: .ref (G.1 + c0) :: st) := by
  subst hσ
  exact zu_putI C c0 hz (rfl : zcl[5]? = some (RX5, TX5, 6)) (k := 0) ⟨by decide, by decide⟩ hm rfl (tyX5_ok 0 (by decide)) rfl rfl zf_5_0 d kk
theorem zg_5_1 (C : zC G cc nL own p s m args meth c) (c0 : Nat) (hz : zk c0 = (4, 5)) {idx : Nat} (hm : Cond.fieldLink own idx "EventCounters$Runs" "counterOf" "[I" ∈ wsL_law) (d : decode cc pc = .ok (.getfield idx, 3)) (kk : zU G nL p l e R s m args below meth c Q σ (pc + 3) lv (.ref (G.1 + 93) :: st)) : zU G nL p l e R s m args below meth c Q σ pc lv (.ref (G.1 + c0) :: st) := zu_get C c0 hz (rfl : zcl[5]? = some (RX5, TX5, 6)) (k := 1) ⟨by decide, by decide⟩ hm zs_5_1 d kk
theorem zg_5_2 (C : zC G cc nL own p s m args meth c) (c0 : Nat) (hz : zk c0 = (4, 5)) {idx : Nat} (hm : Cond.fieldLink own idx "EventCounters$Runs" "eventOf" "[I" ∈ wsL_law) (d : decode cc pc = .ok (.getfield idx, 3)) (kk : zU G nL p l e R s m args below meth c Q σ (pc + 3) lv (.ref (G.1 + 94) :: st)) : zU G nL p l e R s m args below meth c Q σ pc lv (.ref (G.1 + c0) :: st) := zu_get C c0 hz (rfl : zcl[5]? = some (RX5, TX5, 6)) (k := 2) ⟨by decide, by decide⟩ hm zs_5_2 d kk
theorem zg_5_3 (C : zC G cc nL own p s m args meth c) (c0 : Nat) (hz : zk c0 = (4, 5)) {idx : Nat} (hm : Cond.fieldLink own idx "EventCounters$Runs" "shown" "[I" ∈ wsL_law) (d : decode cc pc = .ok (.getfield idx, 3)) (kk : zU G nL p l e R s m args below meth c Q σ (pc + 3) lv (.ref (G.1 + 95) :: st)) : zU G nL p l e R s m args below meth c Q σ pc lv (.ref (G.1 + c0) :: st) := zu_get C c0 hz (rfl : zcl[5]? = some (RX5, TX5, 6)) (k := 3) ⟨by decide, by decide⟩ hm zs_5_3 d kk
theorem zg_5_4 (C : zC G cc nL own p s m args meth c) (c0 : Nat) (hz : zk c0 = (4, 5)) {idx : Nat} (hm : Cond.fieldLink own idx "EventCounters$Runs" "guessed" "I" ∈ wsL_law) (d : decode cc pc = .ok (.getfield idx, 3)) (kk : zU G nL p l e R s m args below meth c Q σ (pc + 3) lv (.int (σ.1 c0 4) :: st)) : zU G nL p l e R s m args below meth c Q σ pc lv (.ref (G.1 + c0) :: st) := zu_get C c0 hz (rfl : zcl[5]? = some (RX5, TX5, 6)) (k := 4) ⟨by decide, by decide⟩ hm zs_5_4 d kk
theorem zp_5_4 (C : zC G cc nL own p s m args meth c) (c0 : Nat) (hz : zk c0 = (4, 5)) {idx : Nat} {v : Int32} {σ1 : zS} (hm : Cond.fieldLink own idx "EventCounters$Runs" "guessed" "I" ∈ wsL_law) (hσ : σ1 = zsI σ c0 4 v) (d : decode cc pc = .ok (.putfield idx, 3)) (kk : zU G nL p l e R s m args below meth c Q σ1 (pc + 3) lv st) : zU G nL p l e R s m args below meth c Q σ pc lv (.int v :: .ref (G.1 + c0) :: st) := by
  subst hσ
  exact zu_putI C c0 hz (rfl : zcl[5]? = some (RX5, TX5, 6)) (k := 4) ⟨by decide, by decide⟩ hm rfl (tyX5_ok 4 (by decide)) rfl rfl zf_5_4 d kk
theorem zg_5_5 (C : zC G cc nL own p s m args meth c) (c0 : Nat) (hz : zk c0 = (4, 5)) {idx : Nat} (hm : Cond.fieldLink own idx "EventCounters$Runs" "guesses" "[I" ∈ wsL_law) (d : decode cc pc = .ok (.getfield idx, 3)) (kk : zU G nL p l e R s m args below meth c Q σ (pc + 3) lv (.ref (G.1 + 96) :: st)) : zU G nL p l e R s m args below meth c Q σ pc lv (.ref (G.1 + c0) :: st) := zu_get C c0 hz (rfl : zcl[5]? = some (RX5, TX5, 6)) (k := 5) ⟨by decide, by decide⟩ hm zs_5_5 d kk
theorem zg_6_0 (C : zC G cc nL own p s m args meth c) (c0 : Nat) (hz : zk c0 = (4, 6)) {idx : Nat} (hm : Cond.fieldLink own idx "EventCounters$Samples" "shown" "[I" ∈ wsL_law) (d : decode cc pc = .ok (.getfield idx, 3)) (kk : zU G nL p l e R s m args below meth c Q σ (pc + 3) lv (.ref (G.1 + 90) :: st)) : zU G nL p l e R s m args below meth c Q σ pc lv (.ref (G.1 + c0) :: st) := zu_get C c0 hz (rfl : zcl[6]? = some (RX6, TX6, 3)) (k := 0) ⟨by decide, by decide⟩ hm zs_6_0 d kk
theorem zg_6_1 (C : zC G cc nL own p s m args meth c) (c0 : Nat) (hz : zk c0 = (4, 6)) {idx : Nat} (hm : Cond.fieldLink own idx "EventCounters$Samples" "allShown" "I" ∈ wsL_law) (d : decode cc pc = .ok (.getfield idx, 3)) (kk : zU G nL p l e R s m args below meth c Q σ (pc + 3) lv (.int (σ.1 c0 1) :: st)) : zU G nL p l e R s m args below meth c Q σ pc lv (.ref (G.1 + c0) :: st) := zu_get C c0 hz (rfl : zcl[6]? = some (RX6, TX6, 3)) (k := 1) ⟨by decide, by decide⟩ hm zs_6_1 d kk
theorem zp_6_1 (C : zC G cc nL own p s m args meth c) (c0 : Nat) (hz : zk c0 = (4, 6)) {idx : Nat} {v : Int32} {σ1 : zS} (hm : Cond.fieldLink own idx "EventCounters$Samples" "allShown" "I" ∈ wsL_law) (hσ : σ1 = zsI σ c0 1 v) (d : decode cc pc = .ok (.putfield idx, 3)) (kk : zU G nL p l e R s m args below meth c Q σ1 (pc + 3) lv st) : zU G nL p l e R s m args below meth c Q σ pc lv (.int v :: .ref (G.1 + c0) :: st) := by
  subst hσ
  exact zu_putI C c0 hz (rfl : zcl[6]? = some (RX6, TX6, 3)) (k := 1) ⟨by decide, by decide⟩ hm rfl (tyX6_ok 1 (by decide)) rfl rfl zf_6_1 d kk
theorem zg_6_2 (C : zC G cc nL own p s m args meth c) (c0 : Nat) (hz : zk c0 = (4, 6)) {idx : Nat} (hm : Cond.fieldLink own idx "EventCounters$Samples" "lost" "I" ∈ wsL_law) (d : decode cc pc = .ok (.getfield idx, 3)) (kk : zU G nL p l e R s m args below meth c Q σ (pc + 3) lv (.int (σ.1 c0 2) :: st)) : zU G nL p l e R s m args below meth c Q σ pc lv (.ref (G.1 + c0) :: st) := zu_get C c0 hz (rfl : zcl[6]? = some (RX6, TX6, 3)) (k := 2) ⟨by decide, by decide⟩ hm zs_6_2 d kk
theorem zp_6_2 (C : zC G cc nL own p s m args meth c) (c0 : Nat) (hz : zk c0 = (4, 6)) {idx : Nat} {v : Int32} {σ1 : zS} (hm : Cond.fieldLink own idx "EventCounters$Samples" "lost" "I" ∈ wsL_law) (hσ : σ1 = zsI σ c0 2 v) (d : decode cc pc = .ok (.putfield idx, 3)) (kk : zU G nL p l e R s m args below meth c Q σ1 (pc + 3) lv st) : zU G nL p l e R s m args below meth c Q σ pc lv (.int v :: .ref (G.1 + c0) :: st) := by
  subst hσ
  exact zu_putI C c0 hz (rfl : zcl[6]? = some (RX6, TX6, 3)) (k := 2) ⟨by decide, by decide⟩ hm rfl (tyX6_ok 2 (by decide)) rfl rfl zf_6_2 d kk
theorem zg_7_0 (C : zC G cc nL own p s m args meth c) (c0 : Nat) (hz : zk c0 = (4, 7)) {idx : Nat} (hm : Cond.fieldLink own idx "EventCounters$Sheets" "lanes" "[I" ∈ wsL_law) (d : decode cc pc = .ok (.getfield idx, 3)) (kk : zU G nL p l e R s m args below meth c Q σ (pc + 3) lv (.ref (G.1 + 98) :: st)) : zU G nL p l e R s m args below meth c Q σ pc lv (.ref (G.1 + c0) :: st) := zu_get C c0 hz (rfl : zcl[7]? = some (RX7, TX7, 3)) (k := 0) ⟨by decide, by decide⟩ hm zs_7_0 d kk
theorem zg_7_1 (C : zC G cc nL own p s m args meth c) (c0 : Nat) (hz : zk c0 = (4, 7)) {idx : Nat} (hm : Cond.fieldLink own idx "EventCounters$Sheets" "sizes" "[I" ∈ wsL_law) (d : decode cc pc = .ok (.getfield idx, 3)) (kk : zU G nL p l e R s m args below meth c Q σ (pc + 3) lv (.ref (G.1 + 99) :: st)) : zU G nL p l e R s m args below meth c Q σ pc lv (.ref (G.1 + c0) :: st) := zu_get C c0 hz (rfl : zcl[7]? = some (RX7, TX7, 3)) (k := 1) ⟨by decide, by decide⟩ hm zs_7_1 d kk
theorem zg_7_2 (C : zC G cc nL own p s m args meth c) (c0 : Nat) (hz : zk c0 = (4, 7)) {idx : Nat} (hm : Cond.fieldLink own idx "EventCounters$Sheets" "cells" "[[I" ∈ wsL_law) (d : decode cc pc = .ok (.getfield idx, 3)) (kk : zU G nL p l e R s m args below meth c Q σ (pc + 3) lv (.ref (G.1 + 100) :: st)) : zU G nL p l e R s m args below meth c Q σ pc lv (.ref (G.1 + c0) :: st) := zu_get C c0 hz (rfl : zcl[7]? = some (RX7, TX7, 3)) (k := 2) ⟨by decide, by decide⟩ hm zs_7_2 d kk
theorem zg_8_0 (C : zC G cc nL own p s m args meth c) (c0 : Nat) (hz : zk c0 = (4, 8)) {idx : Nat} (hm : Cond.fieldLink own idx "EventCounters$Tape" "bytes" "[B" ∈ wsL_law) (d : decode cc pc = .ok (.getfield idx, 3)) (kk : zU G nL p l e R s m args below meth c Q σ (pc + 3) lv (.ref (G.1 + 2) :: st)) : zU G nL p l e R s m args below meth c Q σ pc lv (.ref (G.1 + c0) :: st) := zu_get C c0 hz (rfl : zcl[8]? = some (RX8, TX8, 2)) (k := 0) ⟨by decide, by decide⟩ hm zs_8_0 d kk
theorem zg_8_1 (C : zC G cc nL own p s m args meth c) (c0 : Nat) (hz : zk c0 = (4, 8)) {idx : Nat} (hm : Cond.fieldLink own idx "EventCounters$Tape" "size" "I" ∈ wsL_law) (d : decode cc pc = .ok (.getfield idx, 3)) (kk : zU G nL p l e R s m args below meth c Q σ (pc + 3) lv (.int (σ.1 c0 1) :: st)) : zU G nL p l e R s m args below meth c Q σ pc lv (.ref (G.1 + c0) :: st) := zu_get C c0 hz (rfl : zcl[8]? = some (RX8, TX8, 2)) (k := 1) ⟨by decide, by decide⟩ hm zs_8_1 d kk
theorem zp_8_1 (C : zC G cc nL own p s m args meth c) (c0 : Nat) (hz : zk c0 = (4, 8)) {idx : Nat} {v : Int32} {σ1 : zS} (hm : Cond.fieldLink own idx "EventCounters$Tape" "size" "I" ∈ wsL_law) (hσ : σ1 = zsI σ c0 1 v) (d : decode cc pc = .ok (.putfield idx, 3)) (kk : zU G nL p l e R s m args below meth c Q σ1 (pc + 3) lv st) : zU G nL p l e R s m args below meth c Q σ pc lv (.int v :: .ref (G.1 + c0) :: st) := by
  subst hσ
  exact zu_putI C c0 hz (rfl : zcl[8]? = some (RX8, TX8, 2)) (k := 1) ⟨by decide, by decide⟩ hm rfl (tyX8_ok 1 (by decide)) rfl rfl zf_8_1 d kk
theorem zg_9_0 (C : zC G cc nL own p s m args meth c) (c0 : Nat) (hz : zk c0 = (4, 9)) {idx : Nat} (hm : Cond.fieldLink own idx "EventCounters$Turns" "counted" "I" ∈ wsL_law) (d : decode cc pc = .ok (.getfield idx, 3)) (kk : zU G nL p l e R s m args below meth c Q σ (pc + 3) lv (.int (σ.1 c0 0) :: st)) : zU G nL p l e R s m args below meth c Q σ pc lv (.ref (G.1 + c0) :: st) := zu_get C c0 hz (rfl : zcl[9]? = some (RX9, TX9, 2)) (k := 0) ⟨by decide, by decide⟩ hm zs_9_0 d kk
theorem zp_9_0 (C : zC G cc nL own p s m args meth c) (c0 : Nat) (hz : zk c0 = (4, 9)) {idx : Nat} {v : Int32} {σ1 : zS} (hm : Cond.fieldLink own idx "EventCounters$Turns" "counted" "I" ∈ wsL_law) (hσ : σ1 = zsI σ c0 0 v) (d : decode cc pc = .ok (.putfield idx, 3)) (kk : zU G nL p l e R s m args below meth c Q σ1 (pc + 3) lv st) : zU G nL p l e R s m args below meth c Q σ pc lv (.int v :: .ref (G.1 + c0) :: st) := by
  subst hσ
  exact zu_putI C c0 hz (rfl : zcl[9]? = some (RX9, TX9, 2)) (k := 0) ⟨by decide, by decide⟩ hm rfl (tyX9_ok 0 (by decide)) rfl rfl zf_9_0 d kk
theorem zg_9_1 (C : zC G cc nL own p s m args meth c) (c0 : Nat) (hz : zk c0 = (4, 9)) {idx : Nat} (hm : Cond.fieldLink own idx "EventCounters$Turns" "ticks" "I" ∈ wsL_law) (d : decode cc pc = .ok (.getfield idx, 3)) (kk : zU G nL p l e R s m args below meth c Q σ (pc + 3) lv (.int (σ.1 c0 1) :: st)) : zU G nL p l e R s m args below meth c Q σ pc lv (.ref (G.1 + c0) :: st) := zu_get C c0 hz (rfl : zcl[9]? = some (RX9, TX9, 2)) (k := 1) ⟨by decide, by decide⟩ hm zs_9_1 d kk
theorem zp_9_1 (C : zC G cc nL own p s m args meth c) (c0 : Nat) (hz : zk c0 = (4, 9)) {idx : Nat} {v : Int32} {σ1 : zS} (hm : Cond.fieldLink own idx "EventCounters$Turns" "ticks" "I" ∈ wsL_law) (hσ : σ1 = zsI σ c0 1 v) (d : decode cc pc = .ok (.putfield idx, 3)) (kk : zU G nL p l e R s m args below meth c Q σ1 (pc + 3) lv st) : zU G nL p l e R s m args below meth c Q σ pc lv (.int v :: .ref (G.1 + c0) :: st) := by
  subst hσ
  exact zu_putI C c0 hz (rfl : zcl[9]? = some (RX9, TX9, 2)) (k := 1) ⟨by decide, by decide⟩ hm rfl (tyX9_ok 1 (by decide)) rfl rfl zf_9_1 d kk
theorem zg_10_0 (C : zC G cc nL own p s m args meth c) (c0 : Nat) (hz : zk c0 = (4, 10)) {idx : Nat} (hm : Cond.fieldLink own idx "EventCounters" "tape" "LEventCounters$Tape;" ∈ wsL_law) (d : decode cc pc = .ok (.getfield idx, 3)) (kk : zU G nL p l e R s m args below meth c Q σ (pc + 3) lv (.ref (G.1 + 1) :: st)) : zU G nL p l e R s m args below meth c Q σ pc lv (.ref (G.1 + c0) :: st) := zu_get C c0 hz (rfl : zcl[10]? = some (RX10, TX10, 12)) (k := 0) ⟨by decide, by decide⟩ hm zs_10_0 d kk
theorem zg_10_1 (C : zC G cc nL own p s m args meth c) (c0 : Nat) (hz : zk c0 = (4, 10)) {idx : Nat} (hm : Cond.fieldLink own idx "EventCounters" "now" "LEventCounters$Program;" ∈ wsL_law) (d : decode cc pc = .ok (.getfield idx, 3)) (kk : zU G nL p l e R s m args below meth c Q σ (pc + 3) lv (.ref (G.1 + σ.2.2 c0 1) :: st)) : zU G nL p l e R s m args below meth c Q σ pc lv (.ref (G.1 + c0) :: st) := zu_get C c0 hz (rfl : zcl[10]? = some (RX10, TX10, 12)) (k := 1) ⟨by decide, by decide⟩ hm zs_10_1 d kk
theorem zp_10_1 (C : zC G cc nL own p s m args meth c) (c0 : Nat) (hz : zk c0 = (4, 10)) {idx : Nat} {v : Nat} {σ1 : zS} (hm : Cond.fieldLink own idx "EventCounters" "now" "LEventCounters$Program;" ∈ wsL_law) (hσ : σ1 = zsR σ c0 1 v) (d : decode cc pc = .ok (.putfield idx, 3)) (kk : zU G nL p l e R s m args below meth c Q σ1 (pc + 3) lv st) : zU G nL p l e R s m args below meth c Q σ pc lv (.ref (G.1 + v) :: .ref (G.1 + c0) :: st) := by
  subst hσ
  exact zu_putR C c0 hz (rfl : zcl[10]? = some (RX10, TX10, 12)) (k := 1) ⟨by decide, by decide⟩ hm rfl (tyX10_ok 1 (by decide)) zf_10_1 d kk
theorem zg_10_2 (C : zC G cc nL own p s m args meth c) (c0 : Nat) (hz : zk c0 = (4, 10)) {idx : Nat} (hm : Cond.fieldLink own idx "EventCounters" "draft" "LEventCounters$Program;" ∈ wsL_law) (d : decode cc pc = .ok (.getfield idx, 3)) (kk : zU G nL p l e R s m args below meth c Q σ (pc + 3) lv (.ref (G.1 + σ.2.2 c0 2) :: st)) : zU G nL p l e R s m args below meth c Q σ pc lv (.ref (G.1 + c0) :: st) := zu_get C c0 hz (rfl : zcl[10]? = some (RX10, TX10, 12)) (k := 2) ⟨by decide, by decide⟩ hm zs_10_2 d kk
theorem zp_10_2 (C : zC G cc nL own p s m args meth c) (c0 : Nat) (hz : zk c0 = (4, 10)) {idx : Nat} {v : Nat} {σ1 : zS} (hm : Cond.fieldLink own idx "EventCounters" "draft" "LEventCounters$Program;" ∈ wsL_law) (hσ : σ1 = zsR σ c0 2 v) (d : decode cc pc = .ok (.putfield idx, 3)) (kk : zU G nL p l e R s m args below meth c Q σ1 (pc + 3) lv st) : zU G nL p l e R s m args below meth c Q σ pc lv (.ref (G.1 + v) :: .ref (G.1 + c0) :: st) := by
  subst hσ
  exact zu_putR C c0 hz (rfl : zcl[10]? = some (RX10, TX10, 12)) (k := 2) ⟨by decide, by decide⟩ hm rfl (tyX10_ok 2 (by decide)) zf_10_2 d kk
theorem zg_10_3 (C : zC G cc nL own p s m args meth c) (c0 : Nat) (hz : zk c0 = (4, 10)) {idx : Nat} (hm : Cond.fieldLink own idx "EventCounters" "reader" "LEventCounters$Reader;" ∈ wsL_law) (d : decode cc pc = .ok (.getfield idx, 3)) (kk : zU G nL p l e R s m args below meth c Q σ (pc + 3) lv (.ref (G.1 + 63) :: st)) : zU G nL p l e R s m args below meth c Q σ pc lv (.ref (G.1 + c0) :: st) := zu_get C c0 hz (rfl : zcl[10]? = some (RX10, TX10, 12)) (k := 3) ⟨by decide, by decide⟩ hm zs_10_3 d kk
theorem zg_10_4 (C : zC G cc nL own p s m args meth c) (c0 : Nat) (hz : zk c0 = (4, 10)) {idx : Nat} (hm : Cond.fieldLink own idx "EventCounters" "kept" "LEventCounters$Kept;" ∈ wsL_law) (d : decode cc pc = .ok (.getfield idx, 3)) (kk : zU G nL p l e R s m args below meth c Q σ (pc + 3) lv (.ref (G.1 + 64) :: st)) : zU G nL p l e R s m args below meth c Q σ pc lv (.ref (G.1 + c0) :: st) := zu_get C c0 hz (rfl : zcl[10]? = some (RX10, TX10, 12)) (k := 4) ⟨by decide, by decide⟩ hm zs_10_4 d kk
theorem zg_10_5 (C : zC G cc nL own p s m args meth c) (c0 : Nat) (hz : zk c0 = (4, 10)) {idx : Nat} (hm : Cond.fieldLink own idx "EventCounters" "bank" "LEventCounters$Bank;" ∈ wsL_law) (d : decode cc pc = .ok (.getfield idx, 3)) (kk : zU G nL p l e R s m args below meth c Q σ (pc + 3) lv (.ref (G.1 + 82) :: st)) : zU G nL p l e R s m args below meth c Q σ pc lv (.ref (G.1 + c0) :: st) := zu_get C c0 hz (rfl : zcl[10]? = some (RX10, TX10, 12)) (k := 5) ⟨by decide, by decide⟩ hm zs_10_5 d kk
theorem zg_10_6 (C : zC G cc nL own p s m args meth c) (c0 : Nat) (hz : zk c0 = (4, 10)) {idx : Nat} (hm : Cond.fieldLink own idx "EventCounters" "turns" "LEventCounters$Turns;" ∈ wsL_law) (d : decode cc pc = .ok (.getfield idx, 3)) (kk : zU G nL p l e R s m args below meth c Q σ (pc + 3) lv (.ref (G.1 + 88) :: st)) : zU G nL p l e R s m args below meth c Q σ pc lv (.ref (G.1 + c0) :: st) := zu_get C c0 hz (rfl : zcl[10]? = some (RX10, TX10, 12)) (k := 6) ⟨by decide, by decide⟩ hm zs_10_6 d kk
theorem zg_10_7 (C : zC G cc nL own p s m args meth c) (c0 : Nat) (hz : zk c0 = (4, 10)) {idx : Nat} (hm : Cond.fieldLink own idx "EventCounters" "taken" "LEventCounters$Samples;" ∈ wsL_law) (d : decode cc pc = .ok (.getfield idx, 3)) (kk : zU G nL p l e R s m args below meth c Q σ (pc + 3) lv (.ref (G.1 + 89) :: st)) : zU G nL p l e R s m args below meth c Q σ pc lv (.ref (G.1 + c0) :: st) := zu_get C c0 hz (rfl : zcl[10]? = some (RX10, TX10, 12)) (k := 7) ⟨by decide, by decide⟩ hm zs_10_7 d kk
theorem zg_10_8 (C : zC G cc nL own p s m args meth c) (c0 : Nat) (hz : zk c0 = (4, 10)) {idx : Nat} (hm : Cond.fieldLink own idx "EventCounters" "looks" "LEventCounters$Looks;" ∈ wsL_law) (d : decode cc pc = .ok (.getfield idx, 3)) (kk : zU G nL p l e R s m args below meth c Q σ (pc + 3) lv (.ref (G.1 + 91) :: st)) : zU G nL p l e R s m args below meth c Q σ pc lv (.ref (G.1 + c0) :: st) := zu_get C c0 hz (rfl : zcl[10]? = some (RX10, TX10, 12)) (k := 8) ⟨by decide, by decide⟩ hm zs_10_8 d kk
theorem zg_10_9 (C : zC G cc nL own p s m args meth c) (c0 : Nat) (hz : zk c0 = (4, 10)) {idx : Nat} (hm : Cond.fieldLink own idx "EventCounters" "runs" "LEventCounters$Runs;" ∈ wsL_law) (d : decode cc pc = .ok (.getfield idx, 3)) (kk : zU G nL p l e R s m args below meth c Q σ (pc + 3) lv (.ref (G.1 + 92) :: st)) : zU G nL p l e R s m args below meth c Q σ pc lv (.ref (G.1 + c0) :: st) := zu_get C c0 hz (rfl : zcl[10]? = some (RX10, TX10, 12)) (k := 9) ⟨by decide, by decide⟩ hm zs_10_9 d kk
theorem zg_10_10 (C : zC G cc nL own p s m args meth c) (c0 : Nat) (hz : zk c0 = (4, 10)) {idx : Nat} (hm : Cond.fieldLink own idx "EventCounters" "sheets" "LEventCounters$Sheets;" ∈ wsL_law) (d : decode cc pc = .ok (.getfield idx, 3)) (kk : zU G nL p l e R s m args below meth c Q σ (pc + 3) lv (.ref (G.1 + 97) :: st)) : zU G nL p l e R s m args below meth c Q σ pc lv (.ref (G.1 + c0) :: st) := zu_get C c0 hz (rfl : zcl[10]? = some (RX10, TX10, 12)) (k := 10) ⟨by decide, by decide⟩ hm zs_10_10 d kk
theorem zg_10_11 (C : zC G cc nL own p s m args meth c) (c0 : Nat) (hz : zk c0 = (4, 10)) {idx : Nat} (hm : Cond.fieldLink own idx "EventCounters" "latestFault" "I" ∈ wsL_law) (d : decode cc pc = .ok (.getfield idx, 3)) (kk : zU G nL p l e R s m args below meth c Q σ (pc + 3) lv (.int (σ.1 c0 11) :: st)) : zU G nL p l e R s m args below meth c Q σ pc lv (.ref (G.1 + c0) :: st) := zu_get C c0 hz (rfl : zcl[10]? = some (RX10, TX10, 12)) (k := 11) ⟨by decide, by decide⟩ hm zs_10_11 d kk
theorem zp_10_11 (C : zC G cc nL own p s m args meth c) (c0 : Nat) (hz : zk c0 = (4, 10)) {idx : Nat} {v : Int32} {σ1 : zS} (hm : Cond.fieldLink own idx "EventCounters" "latestFault" "I" ∈ wsL_law) (hσ : σ1 = zsI σ c0 11 v) (d : decode cc pc = .ok (.putfield idx, 3)) (kk : zU G nL p l e R s m args below meth c Q σ1 (pc + 3) lv st) : zU G nL p l e R s m args below meth c Q σ pc lv (.int v :: .ref (G.1 + c0) :: st) := by
  subst hσ
  exact zu_putI C c0 hz (rfl : zcl[10]? = some (RX10, TX10, 12)) (k := 11) ⟨by decide, by decide⟩ hm rfl (tyX10_ok 11 (by decide)) rfl rfl zf_10_11 d kk
theorem zg_11_0 (C : zC G cc nL own p s m args meth c) (c0 : Nat) (hz : zk c0 = (4, 11)) {idx : Nat} (hm : Cond.fieldLink own idx "EventCountersModel" "lines" "I" ∈ wsL_law) (d : decode cc pc = .ok (.getfield idx, 3)) (kk : zU G nL p l e R s m args below meth c Q σ (pc + 3) lv (.int (σ.1 c0 0) :: st)) : zU G nL p l e R s m args below meth c Q σ pc lv (.ref (G.1 + c0) :: st) := zu_get C c0 hz (rfl : zcl[11]? = some (RX11, TX11, 56)) (k := 0) ⟨by decide, by decide⟩ hm zs_11_0 d kk
theorem zp_11_0 (C : zC G cc nL own p s m args meth c) (c0 : Nat) (hz : zk c0 = (4, 11)) {idx : Nat} {v : Int32} {σ1 : zS} (hm : Cond.fieldLink own idx "EventCountersModel" "lines" "I" ∈ wsL_law) (hσ : σ1 = zsI σ c0 0 v) (d : decode cc pc = .ok (.putfield idx, 3)) (kk : zU G nL p l e R s m args below meth c Q σ1 (pc + 3) lv st) : zU G nL p l e R s m args below meth c Q σ pc lv (.int v :: .ref (G.1 + c0) :: st) := by
  subst hσ
  exact zu_putI C c0 hz (rfl : zcl[11]? = some (RX11, TX11, 56)) (k := 0) ⟨by decide, by decide⟩ hm rfl (tyX11_ok 0 (by decide)) rfl rfl zf_11_0 d kk
theorem zg_11_1 (C : zC G cc nL own p s m args meth c) (c0 : Nat) (hz : zk c0 = (4, 11)) {idx : Nat} (hm : Cond.fieldLink own idx "EventCountersModel" "ticks" "[I" ∈ wsL_law) (d : decode cc pc = .ok (.getfield idx, 3)) (kk : zU G nL p l e R s m args below meth c Q σ (pc + 3) lv (.ref (G.1 + 106) :: st)) : zU G nL p l e R s m args below meth c Q σ pc lv (.ref (G.1 + c0) :: st) := zu_get C c0 hz (rfl : zcl[11]? = some (RX11, TX11, 56)) (k := 1) ⟨by decide, by decide⟩ hm zs_11_1 d kk
theorem zg_11_2 (C : zC G cc nL own p s m args meth c) (c0 : Nat) (hz : zk c0 = (4, 11)) {idx : Nat} (hm : Cond.fieldLink own idx "EventCountersModel" "makes" "[I" ∈ wsL_law) (d : decode cc pc = .ok (.getfield idx, 3)) (kk : zU G nL p l e R s m args below meth c Q σ (pc + 3) lv (.ref (G.1 + 107) :: st)) : zU G nL p l e R s m args below meth c Q σ pc lv (.ref (G.1 + c0) :: st) := zu_get C c0 hz (rfl : zcl[11]? = some (RX11, TX11, 56)) (k := 2) ⟨by decide, by decide⟩ hm zs_11_2 d kk
theorem zg_11_3 (C : zC G cc nL own p s m args meth c) (c0 : Nat) (hz : zk c0 = (4, 11)) {idx : Nat} (hm : Cond.fieldLink own idx "EventCountersModel" "around" "[I" ∈ wsL_law) (d : decode cc pc = .ok (.getfield idx, 3)) (kk : zU G nL p l e R s m args below meth c Q σ (pc + 3) lv (.ref (G.1 + 108) :: st)) : zU G nL p l e R s m args below meth c Q σ pc lv (.ref (G.1 + c0) :: st) := zu_get C c0 hz (rfl : zcl[11]? = some (RX11, TX11, 56)) (k := 3) ⟨by decide, by decide⟩ hm zs_11_3 d kk
theorem zg_11_4 (C : zC G cc nL own p s m args meth c) (c0 : Nat) (hz : zk c0 = (4, 11)) {idx : Nat} (hm : Cond.fieldLink own idx "EventCountersModel" "loops" "I" ∈ wsL_law) (d : decode cc pc = .ok (.getfield idx, 3)) (kk : zU G nL p l e R s m args below meth c Q σ (pc + 3) lv (.int (σ.1 c0 4) :: st)) : zU G nL p l e R s m args below meth c Q σ pc lv (.ref (G.1 + c0) :: st) := zu_get C c0 hz (rfl : zcl[11]? = some (RX11, TX11, 56)) (k := 4) ⟨by decide, by decide⟩ hm zs_11_4 d kk
theorem zp_11_4 (C : zC G cc nL own p s m args meth c) (c0 : Nat) (hz : zk c0 = (4, 11)) {idx : Nat} {v : Int32} {σ1 : zS} (hm : Cond.fieldLink own idx "EventCountersModel" "loops" "I" ∈ wsL_law) (hσ : σ1 = zsI σ c0 4 v) (d : decode cc pc = .ok (.putfield idx, 3)) (kk : zU G nL p l e R s m args below meth c Q σ1 (pc + 3) lv st) : zU G nL p l e R s m args below meth c Q σ pc lv (.int v :: .ref (G.1 + c0) :: st) := by
  subst hσ
  exact zu_putI C c0 hz (rfl : zcl[11]? = some (RX11, TX11, 56)) (k := 4) ⟨by decide, by decide⟩ hm rfl (tyX11_ok 4 (by decide)) rfl rfl zf_11_4 d kk
theorem zg_11_5 (C : zC G cc nL own p s m args meth c) (c0 : Nat) (hz : zk c0 = (4, 11)) {idx : Nat} (hm : Cond.fieldLink own idx "EventCountersModel" "often" "[I" ∈ wsL_law) (d : decode cc pc = .ok (.getfield idx, 3)) (kk : zU G nL p l e R s m args below meth c Q σ (pc + 3) lv (.ref (G.1 + 109) :: st)) : zU G nL p l e R s m args below meth c Q σ pc lv (.ref (G.1 + c0) :: st) := zu_get C c0 hz (rfl : zcl[11]? = some (RX11, TX11, 56)) (k := 5) ⟨by decide, by decide⟩ hm zs_11_5 d kk
theorem zg_11_6 (C : zC G cc nL own p s m args meth c) (c0 : Nat) (hz : zk c0 = (4, 11)) {idx : Nat} (hm : Cond.fieldLink own idx "EventCountersModel" "outer" "[I" ∈ wsL_law) (d : decode cc pc = .ok (.getfield idx, 3)) (kk : zU G nL p l e R s m args below meth c Q σ (pc + 3) lv (.ref (G.1 + 110) :: st)) : zU G nL p l e R s m args below meth c Q σ pc lv (.ref (G.1 + c0) :: st) := zu_get C c0 hz (rfl : zcl[11]? = some (RX11, TX11, 56)) (k := 6) ⟨by decide, by decide⟩ hm zs_11_6 d kk
theorem zg_11_7 (C : zC G cc nL own p s m args meth c) (c0 : Nat) (hz : zk c0 = (4, 11)) {idx : Nat} (hm : Cond.fieldLink own idx "EventCountersModel" "steps" "I" ∈ wsL_law) (d : decode cc pc = .ok (.getfield idx, 3)) (kk : zU G nL p l e R s m args below meth c Q σ (pc + 3) lv (.int (σ.1 c0 7) :: st)) : zU G nL p l e R s m args below meth c Q σ pc lv (.ref (G.1 + c0) :: st) := zu_get C c0 hz (rfl : zcl[11]? = some (RX11, TX11, 56)) (k := 7) ⟨by decide, by decide⟩ hm zs_11_7 d kk
theorem zp_11_7 (C : zC G cc nL own p s m args meth c) (c0 : Nat) (hz : zk c0 = (4, 11)) {idx : Nat} {v : Int32} {σ1 : zS} (hm : Cond.fieldLink own idx "EventCountersModel" "steps" "I" ∈ wsL_law) (hσ : σ1 = zsI σ c0 7 v) (d : decode cc pc = .ok (.putfield idx, 3)) (kk : zU G nL p l e R s m args below meth c Q σ1 (pc + 3) lv st) : zU G nL p l e R s m args below meth c Q σ pc lv (.int v :: .ref (G.1 + c0) :: st) := by
  subst hσ
  exact zu_putI C c0 hz (rfl : zcl[11]? = some (RX11, TX11, 56)) (k := 7) ⟨by decide, by decide⟩ hm rfl (tyX11_ok 7 (by decide)) rfl rfl zf_11_7 d kk
theorem zg_11_8 (C : zC G cc nL own p s m args meth c) (c0 : Nat) (hz : zk c0 = (4, 11)) {idx : Nat} (hm : Cond.fieldLink own idx "EventCountersModel" "lineOf" "[I" ∈ wsL_law) (d : decode cc pc = .ok (.getfield idx, 3)) (kk : zU G nL p l e R s m args below meth c Q σ (pc + 3) lv (.ref (G.1 + 111) :: st)) : zU G nL p l e R s m args below meth c Q σ pc lv (.ref (G.1 + c0) :: st) := zu_get C c0 hz (rfl : zcl[11]? = some (RX11, TX11, 56)) (k := 8) ⟨by decide, by decide⟩ hm zs_11_8 d kk
theorem zg_11_9 (C : zC G cc nL own p s m args meth c) (c0 : Nat) (hz : zk c0 = (4, 11)) {idx : Nat} (hm : Cond.fieldLink own idx "EventCountersModel" "times" "[I" ∈ wsL_law) (d : decode cc pc = .ok (.getfield idx, 3)) (kk : zU G nL p l e R s m args below meth c Q σ (pc + 3) lv (.ref (G.1 + 112) :: st)) : zU G nL p l e R s m args below meth c Q σ pc lv (.ref (G.1 + c0) :: st) := zu_get C c0 hz (rfl : zcl[11]? = some (RX11, TX11, 56)) (k := 9) ⟨by decide, by decide⟩ hm zs_11_9 d kk
theorem zg_11_10 (C : zC G cc nL own p s m args meth c) (c0 : Nat) (hz : zk c0 = (4, 11)) {idx : Nat} (hm : Cond.fieldLink own idx "EventCountersModel" "allTicks" "I" ∈ wsL_law) (d : decode cc pc = .ok (.getfield idx, 3)) (kk : zU G nL p l e R s m args below meth c Q σ (pc + 3) lv (.int (σ.1 c0 10) :: st)) : zU G nL p l e R s m args below meth c Q σ pc lv (.ref (G.1 + c0) :: st) := zu_get C c0 hz (rfl : zcl[11]? = some (RX11, TX11, 56)) (k := 10) ⟨by decide, by decide⟩ hm zs_11_10 d kk
theorem zp_11_10 (C : zC G cc nL own p s m args meth c) (c0 : Nat) (hz : zk c0 = (4, 11)) {idx : Nat} {v : Int32} {σ1 : zS} (hm : Cond.fieldLink own idx "EventCountersModel" "allTicks" "I" ∈ wsL_law) (hσ : σ1 = zsI σ c0 10 v) (d : decode cc pc = .ok (.putfield idx, 3)) (kk : zU G nL p l e R s m args below meth c Q σ1 (pc + 3) lv st) : zU G nL p l e R s m args below meth c Q σ pc lv (.int v :: .ref (G.1 + c0) :: st) := by
  subst hσ
  exact zu_putI C c0 hz (rfl : zcl[11]? = some (RX11, TX11, 56)) (k := 10) ⟨by decide, by decide⟩ hm rfl (tyX11_ok 10 (by decide)) rfl rfl zf_11_10 d kk
theorem zg_11_11 (C : zC G cc nL own p s m args meth c) (c0 : Nat) (hz : zk c0 = (4, 11)) {idx : Nat} (hm : Cond.fieldLink own idx "EventCountersModel" "dLines" "I" ∈ wsL_law) (d : decode cc pc = .ok (.getfield idx, 3)) (kk : zU G nL p l e R s m args below meth c Q σ (pc + 3) lv (.int (σ.1 c0 11) :: st)) : zU G nL p l e R s m args below meth c Q σ pc lv (.ref (G.1 + c0) :: st) := zu_get C c0 hz (rfl : zcl[11]? = some (RX11, TX11, 56)) (k := 11) ⟨by decide, by decide⟩ hm zs_11_11 d kk
theorem zp_11_11 (C : zC G cc nL own p s m args meth c) (c0 : Nat) (hz : zk c0 = (4, 11)) {idx : Nat} {v : Int32} {σ1 : zS} (hm : Cond.fieldLink own idx "EventCountersModel" "dLines" "I" ∈ wsL_law) (hσ : σ1 = zsI σ c0 11 v) (d : decode cc pc = .ok (.putfield idx, 3)) (kk : zU G nL p l e R s m args below meth c Q σ1 (pc + 3) lv st) : zU G nL p l e R s m args below meth c Q σ pc lv (.int v :: .ref (G.1 + c0) :: st) := by
  subst hσ
  exact zu_putI C c0 hz (rfl : zcl[11]? = some (RX11, TX11, 56)) (k := 11) ⟨by decide, by decide⟩ hm rfl (tyX11_ok 11 (by decide)) rfl rfl zf_11_11 d kk
theorem zg_11_12 (C : zC G cc nL own p s m args meth c) (c0 : Nat) (hz : zk c0 = (4, 11)) {idx : Nat} (hm : Cond.fieldLink own idx "EventCountersModel" "dTicks" "[I" ∈ wsL_law) (d : decode cc pc = .ok (.getfield idx, 3)) (kk : zU G nL p l e R s m args below meth c Q σ (pc + 3) lv (.ref (G.1 + 113) :: st)) : zU G nL p l e R s m args below meth c Q σ pc lv (.ref (G.1 + c0) :: st) := zu_get C c0 hz (rfl : zcl[11]? = some (RX11, TX11, 56)) (k := 12) ⟨by decide, by decide⟩ hm zs_11_12 d kk
theorem zg_11_13 (C : zC G cc nL own p s m args meth c) (c0 : Nat) (hz : zk c0 = (4, 11)) {idx : Nat} (hm : Cond.fieldLink own idx "EventCountersModel" "dMakes" "[I" ∈ wsL_law) (d : decode cc pc = .ok (.getfield idx, 3)) (kk : zU G nL p l e R s m args below meth c Q σ (pc + 3) lv (.ref (G.1 + 114) :: st)) : zU G nL p l e R s m args below meth c Q σ pc lv (.ref (G.1 + c0) :: st) := zu_get C c0 hz (rfl : zcl[11]? = some (RX11, TX11, 56)) (k := 13) ⟨by decide, by decide⟩ hm zs_11_13 d kk
theorem zg_11_14 (C : zC G cc nL own p s m args meth c) (c0 : Nat) (hz : zk c0 = (4, 11)) {idx : Nat} (hm : Cond.fieldLink own idx "EventCountersModel" "dAround" "[I" ∈ wsL_law) (d : decode cc pc = .ok (.getfield idx, 3)) (kk : zU G nL p l e R s m args below meth c Q σ (pc + 3) lv (.ref (G.1 + 115) :: st)) : zU G nL p l e R s m args below meth c Q σ pc lv (.ref (G.1 + c0) :: st) := zu_get C c0 hz (rfl : zcl[11]? = some (RX11, TX11, 56)) (k := 14) ⟨by decide, by decide⟩ hm zs_11_14 d kk
theorem zg_11_15 (C : zC G cc nL own p s m args meth c) (c0 : Nat) (hz : zk c0 = (4, 11)) {idx : Nat} (hm : Cond.fieldLink own idx "EventCountersModel" "dLoops" "I" ∈ wsL_law) (d : decode cc pc = .ok (.getfield idx, 3)) (kk : zU G nL p l e R s m args below meth c Q σ (pc + 3) lv (.int (σ.1 c0 15) :: st)) : zU G nL p l e R s m args below meth c Q σ pc lv (.ref (G.1 + c0) :: st) := zu_get C c0 hz (rfl : zcl[11]? = some (RX11, TX11, 56)) (k := 15) ⟨by decide, by decide⟩ hm zs_11_15 d kk
theorem zp_11_15 (C : zC G cc nL own p s m args meth c) (c0 : Nat) (hz : zk c0 = (4, 11)) {idx : Nat} {v : Int32} {σ1 : zS} (hm : Cond.fieldLink own idx "EventCountersModel" "dLoops" "I" ∈ wsL_law) (hσ : σ1 = zsI σ c0 15 v) (d : decode cc pc = .ok (.putfield idx, 3)) (kk : zU G nL p l e R s m args below meth c Q σ1 (pc + 3) lv st) : zU G nL p l e R s m args below meth c Q σ pc lv (.int v :: .ref (G.1 + c0) :: st) := by
  subst hσ
  exact zu_putI C c0 hz (rfl : zcl[11]? = some (RX11, TX11, 56)) (k := 15) ⟨by decide, by decide⟩ hm rfl (tyX11_ok 15 (by decide)) rfl rfl zf_11_15 d kk
theorem zg_11_16 (C : zC G cc nL own p s m args meth c) (c0 : Nat) (hz : zk c0 = (4, 11)) {idx : Nat} (hm : Cond.fieldLink own idx "EventCountersModel" "dOften" "[I" ∈ wsL_law) (d : decode cc pc = .ok (.getfield idx, 3)) (kk : zU G nL p l e R s m args below meth c Q σ (pc + 3) lv (.ref (G.1 + 116) :: st)) : zU G nL p l e R s m args below meth c Q σ pc lv (.ref (G.1 + c0) :: st) := zu_get C c0 hz (rfl : zcl[11]? = some (RX11, TX11, 56)) (k := 16) ⟨by decide, by decide⟩ hm zs_11_16 d kk
theorem zg_11_17 (C : zC G cc nL own p s m args meth c) (c0 : Nat) (hz : zk c0 = (4, 11)) {idx : Nat} (hm : Cond.fieldLink own idx "EventCountersModel" "dOuter" "[I" ∈ wsL_law) (d : decode cc pc = .ok (.getfield idx, 3)) (kk : zU G nL p l e R s m args below meth c Q σ (pc + 3) lv (.ref (G.1 + 117) :: st)) : zU G nL p l e R s m args below meth c Q σ pc lv (.ref (G.1 + c0) :: st) := zu_get C c0 hz (rfl : zcl[11]? = some (RX11, TX11, 56)) (k := 17) ⟨by decide, by decide⟩ hm zs_11_17 d kk
theorem zg_11_18 (C : zC G cc nL own p s m args meth c) (c0 : Nat) (hz : zk c0 = (4, 11)) {idx : Nat} (hm : Cond.fieldLink own idx "EventCountersModel" "open" "[I" ∈ wsL_law) (d : decode cc pc = .ok (.getfield idx, 3)) (kk : zU G nL p l e R s m args below meth c Q σ (pc + 3) lv (.ref (G.1 + 118) :: st)) : zU G nL p l e R s m args below meth c Q σ pc lv (.ref (G.1 + c0) :: st) := zu_get C c0 hz (rfl : zcl[11]? = some (RX11, TX11, 56)) (k := 18) ⟨by decide, by decide⟩ hm zs_11_18 d kk
theorem zg_11_19 (C : zC G cc nL own p s m args meth c) (c0 : Nat) (hz : zk c0 = (4, 11)) {idx : Nat} (hm : Cond.fieldLink own idx "EventCountersModel" "depth" "I" ∈ wsL_law) (d : decode cc pc = .ok (.getfield idx, 3)) (kk : zU G nL p l e R s m args below meth c Q σ (pc + 3) lv (.int (σ.1 c0 19) :: st)) : zU G nL p l e R s m args below meth c Q σ pc lv (.ref (G.1 + c0) :: st) := zu_get C c0 hz (rfl : zcl[11]? = some (RX11, TX11, 56)) (k := 19) ⟨by decide, by decide⟩ hm zs_11_19 d kk
theorem zp_11_19 (C : zC G cc nL own p s m args meth c) (c0 : Nat) (hz : zk c0 = (4, 11)) {idx : Nat} {v : Int32} {σ1 : zS} (hm : Cond.fieldLink own idx "EventCountersModel" "depth" "I" ∈ wsL_law) (hσ : σ1 = zsI σ c0 19 v) (d : decode cc pc = .ok (.putfield idx, 3)) (kk : zU G nL p l e R s m args below meth c Q σ1 (pc + 3) lv st) : zU G nL p l e R s m args below meth c Q σ pc lv (.int v :: .ref (G.1 + c0) :: st) := by
  subst hσ
  exact zu_putI C c0 hz (rfl : zcl[11]? = some (RX11, TX11, 56)) (k := 19) ⟨by decide, by decide⟩ hm rfl (tyX11_ok 19 (by decide)) rfl rfl zf_11_19 d kk
theorem zg_11_20 (C : zC G cc nL own p s m args meth c) (c0 : Nat) (hz : zk c0 = (4, 11)) {idx : Nat} (hm : Cond.fieldLink own idx "EventCountersModel" "row" "[I" ∈ wsL_law) (d : decode cc pc = .ok (.getfield idx, 3)) (kk : zU G nL p l e R s m args below meth c Q σ (pc + 3) lv (.ref (G.1 + 119) :: st)) : zU G nL p l e R s m args below meth c Q σ pc lv (.ref (G.1 + c0) :: st) := zu_get C c0 hz (rfl : zcl[11]? = some (RX11, TX11, 56)) (k := 20) ⟨by decide, by decide⟩ hm zs_11_20 d kk
theorem zg_11_21 (C : zC G cc nL own p s m args meth c) (c0 : Nat) (hz : zk c0 = (4, 11)) {idx : Nat} (hm : Cond.fieldLink own idx "EventCountersModel" "dRow" "[I" ∈ wsL_law) (d : decode cc pc = .ok (.getfield idx, 3)) (kk : zU G nL p l e R s m args below meth c Q σ (pc + 3) lv (.ref (G.1 + 120) :: st)) : zU G nL p l e R s m args below meth c Q σ pc lv (.ref (G.1 + c0) :: st) := zu_get C c0 hz (rfl : zcl[11]? = some (RX11, TX11, 56)) (k := 21) ⟨by decide, by decide⟩ hm zs_11_21 d kk
theorem zg_11_22 (C : zC G cc nL own p s m args meth c) (c0 : Nat) (hz : zk c0 = (4, 11)) {idx : Nat} (hm : Cond.fieldLink own idx "EventCountersModel" "rowLong" "I" ∈ wsL_law) (d : decode cc pc = .ok (.getfield idx, 3)) (kk : zU G nL p l e R s m args below meth c Q σ (pc + 3) lv (.int (σ.1 c0 22) :: st)) : zU G nL p l e R s m args below meth c Q σ pc lv (.ref (G.1 + c0) :: st) := zu_get C c0 hz (rfl : zcl[11]? = some (RX11, TX11, 56)) (k := 22) ⟨by decide, by decide⟩ hm zs_11_22 d kk
theorem zp_11_22 (C : zC G cc nL own p s m args meth c) (c0 : Nat) (hz : zk c0 = (4, 11)) {idx : Nat} {v : Int32} {σ1 : zS} (hm : Cond.fieldLink own idx "EventCountersModel" "rowLong" "I" ∈ wsL_law) (hσ : σ1 = zsI σ c0 22 v) (d : decode cc pc = .ok (.putfield idx, 3)) (kk : zU G nL p l e R s m args below meth c Q σ1 (pc + 3) lv st) : zU G nL p l e R s m args below meth c Q σ pc lv (.int v :: .ref (G.1 + c0) :: st) := by
  subst hσ
  exact zu_putI C c0 hz (rfl : zcl[11]? = some (RX11, TX11, 56)) (k := 22) ⟨by decide, by decide⟩ hm rfl (tyX11_ok 22 (by decide)) rfl rfl zf_11_22 d kk
theorem zg_11_23 (C : zC G cc nL own p s m args meth c) (c0 : Nat) (hz : zk c0 = (4, 11)) {idx : Nat} (hm : Cond.fieldLink own idx "EventCountersModel" "dRowLong" "I" ∈ wsL_law) (d : decode cc pc = .ok (.getfield idx, 3)) (kk : zU G nL p l e R s m args below meth c Q σ (pc + 3) lv (.int (σ.1 c0 23) :: st)) : zU G nL p l e R s m args below meth c Q σ pc lv (.ref (G.1 + c0) :: st) := zu_get C c0 hz (rfl : zcl[11]? = some (RX11, TX11, 56)) (k := 23) ⟨by decide, by decide⟩ hm zs_11_23 d kk
theorem zp_11_23 (C : zC G cc nL own p s m args meth c) (c0 : Nat) (hz : zk c0 = (4, 11)) {idx : Nat} {v : Int32} {σ1 : zS} (hm : Cond.fieldLink own idx "EventCountersModel" "dRowLong" "I" ∈ wsL_law) (hσ : σ1 = zsI σ c0 23 v) (d : decode cc pc = .ok (.putfield idx, 3)) (kk : zU G nL p l e R s m args below meth c Q σ1 (pc + 3) lv st) : zU G nL p l e R s m args below meth c Q σ pc lv (.int v :: .ref (G.1 + c0) :: st) := by
  subst hσ
  exact zu_putI C c0 hz (rfl : zcl[11]? = some (RX11, TX11, 56)) (k := 23) ⟨by decide, by decide⟩ hm rfl (tyX11_ok 23 (by decide)) rfl rfl zf_11_23 d kk
theorem zg_11_24 (C : zC G cc nL own p s m args meth c) (c0 : Nat) (hz : zk c0 = (4, 11)) {idx : Nat} (hm : Cond.fieldLink own idx "EventCountersModel" "tape" "[I" ∈ wsL_law) (d : decode cc pc = .ok (.getfield idx, 3)) (kk : zU G nL p l e R s m args below meth c Q σ (pc + 3) lv (.ref (G.1 + 121) :: st)) : zU G nL p l e R s m args below meth c Q σ pc lv (.ref (G.1 + c0) :: st) := zu_get C c0 hz (rfl : zcl[11]? = some (RX11, TX11, 56)) (k := 24) ⟨by decide, by decide⟩ hm zs_11_24 d kk
theorem zg_11_25 (C : zC G cc nL own p s m args meth c) (c0 : Nat) (hz : zk c0 = (4, 11)) {idx : Nat} (hm : Cond.fieldLink own idx "EventCountersModel" "taped" "I" ∈ wsL_law) (d : decode cc pc = .ok (.getfield idx, 3)) (kk : zU G nL p l e R s m args below meth c Q σ (pc + 3) lv (.int (σ.1 c0 25) :: st)) : zU G nL p l e R s m args below meth c Q σ pc lv (.ref (G.1 + c0) :: st) := zu_get C c0 hz (rfl : zcl[11]? = some (RX11, TX11, 56)) (k := 25) ⟨by decide, by decide⟩ hm zs_11_25 d kk
theorem zp_11_25 (C : zC G cc nL own p s m args meth c) (c0 : Nat) (hz : zk c0 = (4, 11)) {idx : Nat} {v : Int32} {σ1 : zS} (hm : Cond.fieldLink own idx "EventCountersModel" "taped" "I" ∈ wsL_law) (hσ : σ1 = zsI σ c0 25 v) (d : decode cc pc = .ok (.putfield idx, 3)) (kk : zU G nL p l e R s m args below meth c Q σ1 (pc + 3) lv st) : zU G nL p l e R s m args below meth c Q σ pc lv (.int v :: .ref (G.1 + c0) :: st) := by
  subst hσ
  exact zu_putI C c0 hz (rfl : zcl[11]? = some (RX11, TX11, 56)) (k := 25) ⟨by decide, by decide⟩ hm rfl (tyX11_ok 25 (by decide)) rfl rfl zf_11_25 d kk
theorem zg_11_26 (C : zC G cc nL own p s m args meth c) (c0 : Nat) (hz : zk c0 = (4, 11)) {idx : Nat} (hm : Cond.fieldLink own idx "EventCountersModel" "pos" "I" ∈ wsL_law) (d : decode cc pc = .ok (.getfield idx, 3)) (kk : zU G nL p l e R s m args below meth c Q σ (pc + 3) lv (.int (σ.1 c0 26) :: st)) : zU G nL p l e R s m args below meth c Q σ pc lv (.ref (G.1 + c0) :: st) := zu_get C c0 hz (rfl : zcl[11]? = some (RX11, TX11, 56)) (k := 26) ⟨by decide, by decide⟩ hm zs_11_26 d kk
theorem zp_11_26 (C : zC G cc nL own p s m args meth c) (c0 : Nat) (hz : zk c0 = (4, 11)) {idx : Nat} {v : Int32} {σ1 : zS} (hm : Cond.fieldLink own idx "EventCountersModel" "pos" "I" ∈ wsL_law) (hσ : σ1 = zsI σ c0 26 v) (d : decode cc pc = .ok (.putfield idx, 3)) (kk : zU G nL p l e R s m args below meth c Q σ1 (pc + 3) lv st) : zU G nL p l e R s m args below meth c Q σ pc lv (.int v :: .ref (G.1 + c0) :: st) := by
  subst hσ
  exact zu_putI C c0 hz (rfl : zcl[11]? = some (RX11, TX11, 56)) (k := 26) ⟨by decide, by decide⟩ hm rfl (tyX11_ok 26 (by decide)) rfl rfl zf_11_26 d kk
theorem zg_11_27 (C : zC G cc nL own p s m args meth c) (c0 : Nat) (hz : zk c0 = (4, 11)) {idx : Nat} (hm : Cond.fieldLink own idx "EventCountersModel" "from" "I" ∈ wsL_law) (d : decode cc pc = .ok (.getfield idx, 3)) (kk : zU G nL p l e R s m args below meth c Q σ (pc + 3) lv (.int (σ.1 c0 27) :: st)) : zU G nL p l e R s m args below meth c Q σ pc lv (.ref (G.1 + c0) :: st) := zu_get C c0 hz (rfl : zcl[11]? = some (RX11, TX11, 56)) (k := 27) ⟨by decide, by decide⟩ hm zs_11_27 d kk
theorem zp_11_27 (C : zC G cc nL own p s m args meth c) (c0 : Nat) (hz : zk c0 = (4, 11)) {idx : Nat} {v : Int32} {σ1 : zS} (hm : Cond.fieldLink own idx "EventCountersModel" "from" "I" ∈ wsL_law) (hσ : σ1 = zsI σ c0 27 v) (d : decode cc pc = .ok (.putfield idx, 3)) (kk : zU G nL p l e R s m args below meth c Q σ1 (pc + 3) lv st) : zU G nL p l e R s m args below meth c Q σ pc lv (.int v :: .ref (G.1 + c0) :: st) := by
  subst hσ
  exact zu_putI C c0 hz (rfl : zcl[11]? = some (RX11, TX11, 56)) (k := 27) ⟨by decide, by decide⟩ hm rfl (tyX11_ok 27 (by decide)) rfl rfl zf_11_27 d kk
theorem zg_11_28 (C : zC G cc nL own p s m args meth c) (c0 : Nat) (hz : zk c0 = (4, 11)) {idx : Nat} (hm : Cond.fieldLink own idx "EventCountersModel" "sort" "I" ∈ wsL_law) (d : decode cc pc = .ok (.getfield idx, 3)) (kk : zU G nL p l e R s m args below meth c Q σ (pc + 3) lv (.int (σ.1 c0 28) :: st)) : zU G nL p l e R s m args below meth c Q σ pc lv (.ref (G.1 + c0) :: st) := zu_get C c0 hz (rfl : zcl[11]? = some (RX11, TX11, 56)) (k := 28) ⟨by decide, by decide⟩ hm zs_11_28 d kk
theorem zp_11_28 (C : zC G cc nL own p s m args meth c) (c0 : Nat) (hz : zk c0 = (4, 11)) {idx : Nat} {v : Int32} {σ1 : zS} (hm : Cond.fieldLink own idx "EventCountersModel" "sort" "I" ∈ wsL_law) (hσ : σ1 = zsI σ c0 28 v) (d : decode cc pc = .ok (.putfield idx, 3)) (kk : zU G nL p l e R s m args below meth c Q σ1 (pc + 3) lv st) : zU G nL p l e R s m args below meth c Q σ pc lv (.int v :: .ref (G.1 + c0) :: st) := by
  subst hσ
  exact zu_putI C c0 hz (rfl : zcl[11]? = some (RX11, TX11, 56)) (k := 28) ⟨by decide, by decide⟩ hm rfl (tyX11_ok 28 (by decide)) rfl rfl zf_11_28 d kk
theorem zg_11_29 (C : zC G cc nL own p s m args meth c) (c0 : Nat) (hz : zk c0 = (4, 11)) {idx : Nat} (hm : Cond.fieldLink own idx "EventCountersModel" "value" "I" ∈ wsL_law) (d : decode cc pc = .ok (.getfield idx, 3)) (kk : zU G nL p l e R s m args below meth c Q σ (pc + 3) lv (.int (σ.1 c0 29) :: st)) : zU G nL p l e R s m args below meth c Q σ pc lv (.ref (G.1 + c0) :: st) := zu_get C c0 hz (rfl : zcl[11]? = some (RX11, TX11, 56)) (k := 29) ⟨by decide, by decide⟩ hm zs_11_29 d kk
theorem zp_11_29 (C : zC G cc nL own p s m args meth c) (c0 : Nat) (hz : zk c0 = (4, 11)) {idx : Nat} {v : Int32} {σ1 : zS} (hm : Cond.fieldLink own idx "EventCountersModel" "value" "I" ∈ wsL_law) (hσ : σ1 = zsI σ c0 29 v) (d : decode cc pc = .ok (.putfield idx, 3)) (kk : zU G nL p l e R s m args below meth c Q σ1 (pc + 3) lv st) : zU G nL p l e R s m args below meth c Q σ pc lv (.int v :: .ref (G.1 + c0) :: st) := by
  subst hσ
  exact zu_putI C c0 hz (rfl : zcl[11]? = some (RX11, TX11, 56)) (k := 29) ⟨by decide, by decide⟩ hm rfl (tyX11_ok 29 (by decide)) rfl rfl zf_11_29 d kk
theorem zg_11_30 (C : zC G cc nL own p s m args meth c) (c0 : Nat) (hz : zk c0 = (4, 11)) {idx : Nat} (hm : Cond.fieldLink own idx "EventCountersModel" "fault" "I" ∈ wsL_law) (d : decode cc pc = .ok (.getfield idx, 3)) (kk : zU G nL p l e R s m args below meth c Q σ (pc + 3) lv (.int (σ.1 c0 30) :: st)) : zU G nL p l e R s m args below meth c Q σ pc lv (.ref (G.1 + c0) :: st) := zu_get C c0 hz (rfl : zcl[11]? = some (RX11, TX11, 56)) (k := 30) ⟨by decide, by decide⟩ hm zs_11_30 d kk
theorem zp_11_30 (C : zC G cc nL own p s m args meth c) (c0 : Nat) (hz : zk c0 = (4, 11)) {idx : Nat} {v : Int32} {σ1 : zS} (hm : Cond.fieldLink own idx "EventCountersModel" "fault" "I" ∈ wsL_law) (hσ : σ1 = zsI σ c0 30 v) (d : decode cc pc = .ok (.putfield idx, 3)) (kk : zU G nL p l e R s m args below meth c Q σ1 (pc + 3) lv st) : zU G nL p l e R s m args below meth c Q σ pc lv (.int v :: .ref (G.1 + c0) :: st) := by
  subst hσ
  exact zu_putI C c0 hz (rfl : zcl[11]? = some (RX11, TX11, 56)) (k := 30) ⟨by decide, by decide⟩ hm rfl (tyX11_ok 30 (by decide)) rfl rfl zf_11_30 d kk
theorem zg_11_31 (C : zC G cc nL own p s m args meth c) (c0 : Nat) (hz : zk c0 = (4, 11)) {idx : Nat} (hm : Cond.fieldLink own idx "EventCountersModel" "wrongAt" "I" ∈ wsL_law) (d : decode cc pc = .ok (.getfield idx, 3)) (kk : zU G nL p l e R s m args below meth c Q σ (pc + 3) lv (.int (σ.1 c0 31) :: st)) : zU G nL p l e R s m args below meth c Q σ pc lv (.ref (G.1 + c0) :: st) := zu_get C c0 hz (rfl : zcl[11]? = some (RX11, TX11, 56)) (k := 31) ⟨by decide, by decide⟩ hm zs_11_31 d kk
theorem zp_11_31 (C : zC G cc nL own p s m args meth c) (c0 : Nat) (hz : zk c0 = (4, 11)) {idx : Nat} {v : Int32} {σ1 : zS} (hm : Cond.fieldLink own idx "EventCountersModel" "wrongAt" "I" ∈ wsL_law) (hσ : σ1 = zsI σ c0 31 v) (d : decode cc pc = .ok (.putfield idx, 3)) (kk : zU G nL p l e R s m args below meth c Q σ1 (pc + 3) lv st) : zU G nL p l e R s m args below meth c Q σ pc lv (.int v :: .ref (G.1 + c0) :: st) := by
  subst hσ
  exact zu_putI C c0 hz (rfl : zcl[11]? = some (RX11, TX11, 56)) (k := 31) ⟨by decide, by decide⟩ hm rfl (tyX11_ok 31 (by decide)) rfl rfl zf_11_31 d kk
theorem zg_11_32 (C : zC G cc nL own p s m args meth c) (c0 : Nat) (hz : zk c0 = (4, 11)) {idx : Nat} (hm : Cond.fieldLink own idx "EventCountersModel" "left" "[I" ∈ wsL_law) (d : decode cc pc = .ok (.getfield idx, 3)) (kk : zU G nL p l e R s m args below meth c Q σ (pc + 3) lv (.ref (G.1 + 122) :: st)) : zU G nL p l e R s m args below meth c Q σ pc lv (.ref (G.1 + c0) :: st) := zu_get C c0 hz (rfl : zcl[11]? = some (RX11, TX11, 56)) (k := 32) ⟨by decide, by decide⟩ hm zs_11_32 d kk
theorem zg_11_33 (C : zC G cc nL own p s m args meth c) (c0 : Nat) (hz : zk c0 = (4, 11)) {idx : Nat} (hm : Cond.fieldLink own idx "EventCountersModel" "began" "[I" ∈ wsL_law) (d : decode cc pc = .ok (.getfield idx, 3)) (kk : zU G nL p l e R s m args below meth c Q σ (pc + 3) lv (.ref (G.1 + 123) :: st)) : zU G nL p l e R s m args below meth c Q σ pc lv (.ref (G.1 + c0) :: st) := zu_get C c0 hz (rfl : zcl[11]? = some (RX11, TX11, 56)) (k := 33) ⟨by decide, by decide⟩ hm zs_11_33 d kk
theorem zg_11_34 (C : zC G cc nL own p s m args meth c) (c0 : Nat) (hz : zk c0 = (4, 11)) {idx : Nat} (hm : Cond.fieldLink own idx "EventCountersModel" "keptLines" "I" ∈ wsL_law) (d : decode cc pc = .ok (.getfield idx, 3)) (kk : zU G nL p l e R s m args below meth c Q σ (pc + 3) lv (.int (σ.1 c0 34) :: st)) : zU G nL p l e R s m args below meth c Q σ pc lv (.ref (G.1 + c0) :: st) := zu_get C c0 hz (rfl : zcl[11]? = some (RX11, TX11, 56)) (k := 34) ⟨by decide, by decide⟩ hm zs_11_34 d kk
theorem zp_11_34 (C : zC G cc nL own p s m args meth c) (c0 : Nat) (hz : zk c0 = (4, 11)) {idx : Nat} {v : Int32} {σ1 : zS} (hm : Cond.fieldLink own idx "EventCountersModel" "keptLines" "I" ∈ wsL_law) (hσ : σ1 = zsI σ c0 34 v) (d : decode cc pc = .ok (.putfield idx, 3)) (kk : zU G nL p l e R s m args below meth c Q σ1 (pc + 3) lv st) : zU G nL p l e R s m args below meth c Q σ pc lv (.int v :: .ref (G.1 + c0) :: st) := by
  subst hσ
  exact zu_putI C c0 hz (rfl : zcl[11]? = some (RX11, TX11, 56)) (k := 34) ⟨by decide, by decide⟩ hm rfl (tyX11_ok 34 (by decide)) rfl rfl zf_11_34 d kk
theorem zg_11_35 (C : zC G cc nL own p s m args meth c) (c0 : Nat) (hz : zk c0 = (4, 11)) {idx : Nat} (hm : Cond.fieldLink own idx "EventCountersModel" "kept" "[I" ∈ wsL_law) (d : decode cc pc = .ok (.getfield idx, 3)) (kk : zU G nL p l e R s m args below meth c Q σ (pc + 3) lv (.ref (G.1 + 124) :: st)) : zU G nL p l e R s m args below meth c Q σ pc lv (.ref (G.1 + c0) :: st) := zu_get C c0 hz (rfl : zcl[11]? = some (RX11, TX11, 56)) (k := 35) ⟨by decide, by decide⟩ hm zs_11_35 d kk
theorem zg_11_36 (C : zC G cc nL own p s m args meth c) (c0 : Nat) (hz : zk c0 = (4, 11)) {idx : Nat} (hm : Cond.fieldLink own idx "EventCountersModel" "counters" "I" ∈ wsL_law) (d : decode cc pc = .ok (.getfield idx, 3)) (kk : zU G nL p l e R s m args below meth c Q σ (pc + 3) lv (.int (σ.1 c0 36) :: st)) : zU G nL p l e R s m args below meth c Q σ pc lv (.ref (G.1 + c0) :: st) := zu_get C c0 hz (rfl : zcl[11]? = some (RX11, TX11, 56)) (k := 36) ⟨by decide, by decide⟩ hm zs_11_36 d kk
theorem zp_11_36 (C : zC G cc nL own p s m args meth c) (c0 : Nat) (hz : zk c0 = (4, 11)) {idx : Nat} {v : Int32} {σ1 : zS} (hm : Cond.fieldLink own idx "EventCountersModel" "counters" "I" ∈ wsL_law) (hσ : σ1 = zsI σ c0 36 v) (d : decode cc pc = .ok (.putfield idx, 3)) (kk : zU G nL p l e R s m args below meth c Q σ1 (pc + 3) lv st) : zU G nL p l e R s m args below meth c Q σ pc lv (.int v :: .ref (G.1 + c0) :: st) := by
  subst hσ
  exact zu_putI C c0 hz (rfl : zcl[11]? = some (RX11, TX11, 56)) (k := 36) ⟨by decide, by decide⟩ hm rfl (tyX11_ok 36 (by decide)) rfl rfl zf_11_36 d kk
theorem zg_11_37 (C : zC G cc nL own p s m args meth c) (c0 : Nat) (hz : zk c0 = (4, 11)) {idx : Nat} (hm : Cond.fieldLink own idx "EventCountersModel" "masks" "[I" ∈ wsL_law) (d : decode cc pc = .ok (.getfield idx, 3)) (kk : zU G nL p l e R s m args below meth c Q σ (pc + 3) lv (.ref (G.1 + 125) :: st)) : zU G nL p l e R s m args below meth c Q σ pc lv (.ref (G.1 + c0) :: st) := zu_get C c0 hz (rfl : zcl[11]? = some (RX11, TX11, 56)) (k := 37) ⟨by decide, by decide⟩ hm zs_11_37 d kk
theorem zg_11_38 (C : zC G cc nL own p s m args meth c) (c0 : Nat) (hz : zk c0 = (4, 11)) {idx : Nat} (hm : Cond.fieldLink own idx "EventCountersModel" "widths" "[I" ∈ wsL_law) (d : decode cc pc = .ok (.getfield idx, 3)) (kk : zU G nL p l e R s m args below meth c Q σ (pc + 3) lv (.ref (G.1 + 126) :: st)) : zU G nL p l e R s m args below meth c Q σ pc lv (.ref (G.1 + c0) :: st) := zu_get C c0 hz (rfl : zcl[11]? = some (RX11, TX11, 56)) (k := 38) ⟨by decide, by decide⟩ hm zs_11_38 d kk
theorem zg_11_39 (C : zC G cc nL own p s m args meth c) (c0 : Nat) (hz : zk c0 = (4, 11)) {idx : Nat} (hm : Cond.fieldLink own idx "EventCountersModel" "fewest" "[I" ∈ wsL_law) (d : decode cc pc = .ok (.getfield idx, 3)) (kk : zU G nL p l e R s m args below meth c Q σ (pc + 3) lv (.ref (G.1 + 127) :: st)) : zU G nL p l e R s m args below meth c Q σ pc lv (.ref (G.1 + c0) :: st) := zu_get C c0 hz (rfl : zcl[11]? = some (RX11, TX11, 56)) (k := 39) ⟨by decide, by decide⟩ hm zs_11_39 d kk
theorem zg_11_40 (C : zC G cc nL own p s m args meth c) (c0 : Nat) (hz : zk c0 = (4, 11)) {idx : Nat} (hm : Cond.fieldLink own idx "EventCountersModel" "goTogether" "[Z" ∈ wsL_law) (d : decode cc pc = .ok (.getfield idx, 3)) (kk : zU G nL p l e R s m args below meth c Q σ (pc + 3) lv (.ref (G.1 + 128) :: st)) : zU G nL p l e R s m args below meth c Q σ pc lv (.ref (G.1 + c0) :: st) := zu_get C c0 hz (rfl : zcl[11]? = some (RX11, TX11, 56)) (k := 40) ⟨by decide, by decide⟩ hm zs_11_40 d kk
theorem zg_11_41 (C : zC G cc nL own p s m args meth c) (c0 : Nat) (hz : zk c0 = (4, 11)) {idx : Nat} (hm : Cond.fieldLink own idx "EventCountersModel" "roundMany" "I" ∈ wsL_law) (d : decode cc pc = .ok (.getfield idx, 3)) (kk : zU G nL p l e R s m args below meth c Q σ (pc + 3) lv (.int (σ.1 c0 41) :: st)) : zU G nL p l e R s m args below meth c Q σ pc lv (.ref (G.1 + c0) :: st) := zu_get C c0 hz (rfl : zcl[11]? = some (RX11, TX11, 56)) (k := 41) ⟨by decide, by decide⟩ hm zs_11_41 d kk
theorem zp_11_41 (C : zC G cc nL own p s m args meth c) (c0 : Nat) (hz : zk c0 = (4, 11)) {idx : Nat} {v : Int32} {σ1 : zS} (hm : Cond.fieldLink own idx "EventCountersModel" "roundMany" "I" ∈ wsL_law) (hσ : σ1 = zsI σ c0 41 v) (d : decode cc pc = .ok (.putfield idx, 3)) (kk : zU G nL p l e R s m args below meth c Q σ1 (pc + 3) lv st) : zU G nL p l e R s m args below meth c Q σ pc lv (.int v :: .ref (G.1 + c0) :: st) := by
  subst hσ
  exact zu_putI C c0 hz (rfl : zcl[11]? = some (RX11, TX11, 56)) (k := 41) ⟨by decide, by decide⟩ hm rfl (tyX11_ok 41 (by decide)) rfl rfl zf_11_41 d kk
theorem zg_11_42 (C : zC G cc nL own p s m args meth c) (c0 : Nat) (hz : zk c0 = (4, 11)) {idx : Nat} (hm : Cond.fieldLink own idx "EventCountersModel" "rounds" "[I" ∈ wsL_law) (d : decode cc pc = .ok (.getfield idx, 3)) (kk : zU G nL p l e R s m args below meth c Q σ (pc + 3) lv (.ref (G.1 + 129) :: st)) : zU G nL p l e R s m args below meth c Q σ pc lv (.ref (G.1 + c0) :: st) := zu_get C c0 hz (rfl : zcl[11]? = some (RX11, TX11, 56)) (k := 42) ⟨by decide, by decide⟩ hm zs_11_42 d kk
theorem zg_11_43 (C : zC G cc nL own p s m args meth c) (c0 : Nat) (hz : zk c0 = (4, 11)) {idx : Nat} (hm : Cond.fieldLink own idx "EventCountersModel" "counted" "J" ∈ wsL_law) (d : decode cc pc = .ok (.getfield idx, 3)) (kk : zU G nL p l e R s m args below meth c Q σ (pc + 3) lv (.long (σ.2.1 c0 43) :: st)) : zU G nL p l e R s m args below meth c Q σ pc lv (.ref (G.1 + c0) :: st) := zu_get C c0 hz (rfl : zcl[11]? = some (RX11, TX11, 56)) (k := 43) ⟨by decide, by decide⟩ hm zs_11_43 d kk
theorem zp_11_43 (C : zC G cc nL own p s m args meth c) (c0 : Nat) (hz : zk c0 = (4, 11)) {idx : Nat} {v : Int64} {σ1 : zS} (hm : Cond.fieldLink own idx "EventCountersModel" "counted" "J" ∈ wsL_law) (hσ : σ1 = zsL σ c0 43 v) (d : decode cc pc = .ok (.putfield idx, 3)) (kk : zU G nL p l e R s m args below meth c Q σ1 (pc + 3) lv st) : zU G nL p l e R s m args below meth c Q σ pc lv (.long v :: .ref (G.1 + c0) :: st) := by
  subst hσ
  exact zu_putL C c0 hz (rfl : zcl[11]? = some (RX11, TX11, 56)) (k := 43) ⟨by decide, by decide⟩ hm rfl (tyX11_ok 43 (by decide)) zf_11_43 d kk
theorem zg_11_44 (C : zC G cc nL own p s m args meth c) (c0 : Nat) (hz : zk c0 = (4, 11)) {idx : Nat} (hm : Cond.fieldLink own idx "EventCountersModel" "countedTicks" "J" ∈ wsL_law) (d : decode cc pc = .ok (.getfield idx, 3)) (kk : zU G nL p l e R s m args below meth c Q σ (pc + 3) lv (.long (σ.2.1 c0 44) :: st)) : zU G nL p l e R s m args below meth c Q σ pc lv (.ref (G.1 + c0) :: st) := zu_get C c0 hz (rfl : zcl[11]? = some (RX11, TX11, 56)) (k := 44) ⟨by decide, by decide⟩ hm zs_11_44 d kk
theorem zp_11_44 (C : zC G cc nL own p s m args meth c) (c0 : Nat) (hz : zk c0 = (4, 11)) {idx : Nat} {v : Int64} {σ1 : zS} (hm : Cond.fieldLink own idx "EventCountersModel" "countedTicks" "J" ∈ wsL_law) (hσ : σ1 = zsL σ c0 44 v) (d : decode cc pc = .ok (.putfield idx, 3)) (kk : zU G nL p l e R s m args below meth c Q σ1 (pc + 3) lv st) : zU G nL p l e R s m args below meth c Q σ pc lv (.long v :: .ref (G.1 + c0) :: st) := by
  subst hσ
  exact zu_putL C c0 hz (rfl : zcl[11]? = some (RX11, TX11, 56)) (k := 44) ⟨by decide, by decide⟩ hm rfl (tyX11_ok 44 (by decide)) zf_11_44 d kk
theorem zg_11_45 (C : zC G cc nL own p s m args meth c) (c0 : Nat) (hz : zk c0 = (4, 11)) {idx : Nat} (hm : Cond.fieldLink own idx "EventCountersModel" "samples" "I" ∈ wsL_law) (d : decode cc pc = .ok (.getfield idx, 3)) (kk : zU G nL p l e R s m args below meth c Q σ (pc + 3) lv (.int (σ.1 c0 45) :: st)) : zU G nL p l e R s m args below meth c Q σ pc lv (.ref (G.1 + c0) :: st) := zu_get C c0 hz (rfl : zcl[11]? = some (RX11, TX11, 56)) (k := 45) ⟨by decide, by decide⟩ hm zs_11_45 d kk
theorem zp_11_45 (C : zC G cc nL own p s m args meth c) (c0 : Nat) (hz : zk c0 = (4, 11)) {idx : Nat} {v : Int32} {σ1 : zS} (hm : Cond.fieldLink own idx "EventCountersModel" "samples" "I" ∈ wsL_law) (hσ : σ1 = zsI σ c0 45 v) (d : decode cc pc = .ok (.putfield idx, 3)) (kk : zU G nL p l e R s m args below meth c Q σ1 (pc + 3) lv st) : zU G nL p l e R s m args below meth c Q σ pc lv (.int v :: .ref (G.1 + c0) :: st) := by
  subst hσ
  exact zu_putI C c0 hz (rfl : zcl[11]? = some (RX11, TX11, 56)) (k := 45) ⟨by decide, by decide⟩ hm rfl (tyX11_ok 45 (by decide)) rfl rfl zf_11_45 d kk
theorem zg_11_46 (C : zC G cc nL own p s m args meth c) (c0 : Nat) (hz : zk c0 = (4, 11)) {idx : Nat} (hm : Cond.fieldLink own idx "EventCountersModel" "lost" "I" ∈ wsL_law) (d : decode cc pc = .ok (.getfield idx, 3)) (kk : zU G nL p l e R s m args below meth c Q σ (pc + 3) lv (.int (σ.1 c0 46) :: st)) : zU G nL p l e R s m args below meth c Q σ pc lv (.ref (G.1 + c0) :: st) := zu_get C c0 hz (rfl : zcl[11]? = some (RX11, TX11, 56)) (k := 46) ⟨by decide, by decide⟩ hm zs_11_46 d kk
theorem zp_11_46 (C : zC G cc nL own p s m args meth c) (c0 : Nat) (hz : zk c0 = (4, 11)) {idx : Nat} {v : Int32} {σ1 : zS} (hm : Cond.fieldLink own idx "EventCountersModel" "lost" "I" ∈ wsL_law) (hσ : σ1 = zsI σ c0 46 v) (d : decode cc pc = .ok (.putfield idx, 3)) (kk : zU G nL p l e R s m args below meth c Q σ1 (pc + 3) lv st) : zU G nL p l e R s m args below meth c Q σ pc lv (.int v :: .ref (G.1 + c0) :: st) := by
  subst hσ
  exact zu_putI C c0 hz (rfl : zcl[11]? = some (RX11, TX11, 56)) (k := 46) ⟨by decide, by decide⟩ hm rfl (tyX11_ok 46 (by decide)) rfl rfl zf_11_46 d kk
theorem zg_11_47 (C : zC G cc nL own p s m args meth c) (c0 : Nat) (hz : zk c0 = (4, 11)) {idx : Nat} (hm : Cond.fieldLink own idx "EventCountersModel" "shown" "[I" ∈ wsL_law) (d : decode cc pc = .ok (.getfield idx, 3)) (kk : zU G nL p l e R s m args below meth c Q σ (pc + 3) lv (.ref (G.1 + 130) :: st)) : zU G nL p l e R s m args below meth c Q σ pc lv (.ref (G.1 + c0) :: st) := zu_get C c0 hz (rfl : zcl[11]? = some (RX11, TX11, 56)) (k := 47) ⟨by decide, by decide⟩ hm zs_11_47 d kk
theorem zg_11_48 (C : zC G cc nL own p s m args meth c) (c0 : Nat) (hz : zk c0 = (4, 11)) {idx : Nat} (hm : Cond.fieldLink own idx "EventCountersModel" "looks" "I" ∈ wsL_law) (d : decode cc pc = .ok (.getfield idx, 3)) (kk : zU G nL p l e R s m args below meth c Q σ (pc + 3) lv (.int (σ.1 c0 48) :: st)) : zU G nL p l e R s m args below meth c Q σ pc lv (.ref (G.1 + c0) :: st) := zu_get C c0 hz (rfl : zcl[11]? = some (RX11, TX11, 56)) (k := 48) ⟨by decide, by decide⟩ hm zs_11_48 d kk
theorem zp_11_48 (C : zC G cc nL own p s m args meth c) (c0 : Nat) (hz : zk c0 = (4, 11)) {idx : Nat} {v : Int32} {σ1 : zS} (hm : Cond.fieldLink own idx "EventCountersModel" "looks" "I" ∈ wsL_law) (hσ : σ1 = zsI σ c0 48 v) (d : decode cc pc = .ok (.putfield idx, 3)) (kk : zU G nL p l e R s m args below meth c Q σ1 (pc + 3) lv st) : zU G nL p l e R s m args below meth c Q σ pc lv (.int v :: .ref (G.1 + c0) :: st) := by
  subst hσ
  exact zu_putI C c0 hz (rfl : zcl[11]? = some (RX11, TX11, 56)) (k := 48) ⟨by decide, by decide⟩ hm rfl (tyX11_ok 48 (by decide)) rfl rfl zf_11_48 d kk
theorem zg_11_49 (C : zC G cc nL own p s m args meth c) (c0 : Nat) (hz : zk c0 = (4, 11)) {idx : Nat} (hm : Cond.fieldLink own idx "EventCountersModel" "runs" "I" ∈ wsL_law) (d : decode cc pc = .ok (.getfield idx, 3)) (kk : zU G nL p l e R s m args below meth c Q σ (pc + 3) lv (.int (σ.1 c0 49) :: st)) : zU G nL p l e R s m args below meth c Q σ pc lv (.ref (G.1 + c0) :: st) := zu_get C c0 hz (rfl : zcl[11]? = some (RX11, TX11, 56)) (k := 49) ⟨by decide, by decide⟩ hm zs_11_49 d kk
theorem zp_11_49 (C : zC G cc nL own p s m args meth c) (c0 : Nat) (hz : zk c0 = (4, 11)) {idx : Nat} {v : Int32} {σ1 : zS} (hm : Cond.fieldLink own idx "EventCountersModel" "runs" "I" ∈ wsL_law) (hσ : σ1 = zsI σ c0 49 v) (d : decode cc pc = .ok (.putfield idx, 3)) (kk : zU G nL p l e R s m args below meth c Q σ1 (pc + 3) lv st) : zU G nL p l e R s m args below meth c Q σ pc lv (.int v :: .ref (G.1 + c0) :: st) := by
  subst hσ
  exact zu_putI C c0 hz (rfl : zcl[11]? = some (RX11, TX11, 56)) (k := 49) ⟨by decide, by decide⟩ hm rfl (tyX11_ok 49 (by decide)) rfl rfl zf_11_49 d kk
theorem zg_11_50 (C : zC G cc nL own p s m args meth c) (c0 : Nat) (hz : zk c0 = (4, 11)) {idx : Nat} (hm : Cond.fieldLink own idx "EventCountersModel" "runCounter" "[I" ∈ wsL_law) (d : decode cc pc = .ok (.getfield idx, 3)) (kk : zU G nL p l e R s m args below meth c Q σ (pc + 3) lv (.ref (G.1 + 131) :: st)) : zU G nL p l e R s m args below meth c Q σ pc lv (.ref (G.1 + c0) :: st) := zu_get C c0 hz (rfl : zcl[11]? = some (RX11, TX11, 56)) (k := 50) ⟨by decide, by decide⟩ hm zs_11_50 d kk
theorem zg_11_51 (C : zC G cc nL own p s m args meth c) (c0 : Nat) (hz : zk c0 = (4, 11)) {idx : Nat} (hm : Cond.fieldLink own idx "EventCountersModel" "runEvent" "[I" ∈ wsL_law) (d : decode cc pc = .ok (.getfield idx, 3)) (kk : zU G nL p l e R s m args below meth c Q σ (pc + 3) lv (.ref (G.1 + 132) :: st)) : zU G nL p l e R s m args below meth c Q σ pc lv (.ref (G.1 + c0) :: st) := zu_get C c0 hz (rfl : zcl[11]? = some (RX11, TX11, 56)) (k := 51) ⟨by decide, by decide⟩ hm zs_11_51 d kk
theorem zg_11_52 (C : zC G cc nL own p s m args meth c) (c0 : Nat) (hz : zk c0 = (4, 11)) {idx : Nat} (hm : Cond.fieldLink own idx "EventCountersModel" "runShown" "[I" ∈ wsL_law) (d : decode cc pc = .ok (.getfield idx, 3)) (kk : zU G nL p l e R s m args below meth c Q σ (pc + 3) lv (.ref (G.1 + 133) :: st)) : zU G nL p l e R s m args below meth c Q σ pc lv (.ref (G.1 + c0) :: st) := zu_get C c0 hz (rfl : zcl[11]? = some (RX11, TX11, 56)) (k := 52) ⟨by decide, by decide⟩ hm zs_11_52 d kk
theorem zg_11_53 (C : zC G cc nL own p s m args meth c) (c0 : Nat) (hz : zk c0 = (4, 11)) {idx : Nat} (hm : Cond.fieldLink own idx "EventCountersModel" "lanes" "[I" ∈ wsL_law) (d : decode cc pc = .ok (.getfield idx, 3)) (kk : zU G nL p l e R s m args below meth c Q σ (pc + 3) lv (.ref (G.1 + 134) :: st)) : zU G nL p l e R s m args below meth c Q σ pc lv (.ref (G.1 + c0) :: st) := zu_get C c0 hz (rfl : zcl[11]? = some (RX11, TX11, 56)) (k := 53) ⟨by decide, by decide⟩ hm zs_11_53 d kk
theorem zg_11_54 (C : zC G cc nL own p s m args meth c) (c0 : Nat) (hz : zk c0 = (4, 11)) {idx : Nat} (hm : Cond.fieldLink own idx "EventCountersModel" "sizes" "[I" ∈ wsL_law) (d : decode cc pc = .ok (.getfield idx, 3)) (kk : zU G nL p l e R s m args below meth c Q σ (pc + 3) lv (.ref (G.1 + 135) :: st)) : zU G nL p l e R s m args below meth c Q σ pc lv (.ref (G.1 + c0) :: st) := zu_get C c0 hz (rfl : zcl[11]? = some (RX11, TX11, 56)) (k := 54) ⟨by decide, by decide⟩ hm zs_11_54 d kk
theorem zg_11_55 (C : zC G cc nL own p s m args meth c) (c0 : Nat) (hz : zk c0 = (4, 11)) {idx : Nat} (hm : Cond.fieldLink own idx "EventCountersModel" "cells" "[I" ∈ wsL_law) (d : decode cc pc = .ok (.getfield idx, 3)) (kk : zU G nL p l e R s m args below meth c Q σ (pc + 3) lv (.ref (G.1 + 136) :: st)) : zU G nL p l e R s m args below meth c Q σ pc lv (.ref (G.1 + c0) :: st) := zu_get C c0 hz (rfl : zcl[11]? = some (RX11, TX11, 56)) (k := 55) ⟨by decide, by decide⟩ hm zs_11_55 d kk
theorem zv_iast (C : zC G cc nL own p s m args meth c) {N : Nat} {i x : Int32} {σ1 : zS} (c0 : Nat) (hz : zk c0 = (0, N)) (hi : zi i N = true) (hσ : σ1 = zsI σ c0 i.toNatClampNeg x) (d : decode cc pc = .ok (.iastore, 1)) (kk : zU G nL p l e R s m args below meth c Q σ1 (pc + 1) lv st) : zU G nL p l e R s m args below meth c Q σ pc lv (.int x :: .int i :: .ref (G.1 + c0) :: st) := by
  subst hσ
  exact zu_iast C c0 hz hi d kk
theorem zv_bast (C : zC G cc nL own p s m args meth c) {N : Nat} {i x : Int32} {σ1 : zS} (c0 : Nat) (hz : zk c0 = (1, N)) (hi : zi i N = true) (hσ : σ1 = zsI σ c0 i.toNatClampNeg (vp_nar .byte x)) (d : decode cc pc = .ok (.bastore, 1)) (kk : zU G nL p l e R s m args below meth c Q σ1 (pc + 1) lv st) : zU G nL p l e R s m args below meth c Q σ pc lv (.int x :: .int i :: .ref (G.1 + c0) :: st) := by
  subst hσ
  exact zu_bast C c0 hz hi d kk
theorem zv_zast (C : zC G cc nL own p s m args meth c) {N : Nat} {i x : Int32} {σ1 : zS} (c0 : Nat) (hz : zk c0 = (2, N)) (hi : zi i N = true) (hσ : σ1 = zsI σ c0 i.toNatClampNeg (vp_nar .boolean x)) (d : decode cc pc = .ok (.bastore, 1)) (kk : zU G nL p l e R s m args below meth c Q σ1 (pc + 1) lv st) : zU G nL p l e R s m args below meth c Q σ pc lv (.int x :: .int i :: .ref (G.1 + c0) :: st) := by
  subst hσ
  exact zu_zast C c0 hz hi d kk
theorem zr_topi {n cells slots : Nat} {f : Nat → va_E} {v x : Int32} (h : v = x) (kk : zW G nL p l e R s m args below meth c Q cells slots n f pc lv (.int v :: st)) : zW G nL p l e R s m args below meth c Q cells slots n f pc lv (.int x :: st) := h ▸ kk
theorem zr_topl {n cells slots : Nat} {f : Nat → va_E} {v x : Int64} (h : v = x) (kk : zW G nL p l e R s m args below meth c Q cells slots n f pc lv (.long v :: st)) : zW G nL p l e R s m args below meth c Q cells slots n f pc lv (.long x :: st) := h ▸ kk
theorem zr_topr {n cells slots : Nat} {f : Nat → va_E} {v x : Nat} (h : v = x) (kk : zW G nL p l e R s m args below meth c Q cells slots n f pc lv (.ref (G.1 + v) :: st)) : zW G nL p l e R s m args below meth c Q cells slots n f pc lv (.ref (G.1 + x) :: st) := h ▸ kk
theorem zr_steq {n cells slots : Nat} {f : Nat → va_E} (st1 : List Value) (h : st1 = st) (kk : zW G nL p l e R s m args below meth c Q cells slots n f pc lv st1) : zW G nL p l e R s m args below meth c Q cells slots n f pc lv st := h ▸ kk
theorem zinc {x v : Int32} {k : Int} (h : Int32.ofInt k = v) : x + v = x + Int32.ofInt k := by rw [h]
def zbl (v : Int32) : Bool := v == 0 || v == 1
theorem zbl_n {v : Int32} (h : zbl v = true) : narrow .boolean (.int v) = .int v := by
  unfold zbl at h
  rw [Bool.or_eq_true, beq_iff_eq, beq_iff_eq] at h
  rcases h with rfl | rfl <;> rfl
theorem zr_lsw {n cells slots : Nat} {f : Nat → va_E} (C : zC G cc nL own p s m args meth c) {dflt : Int} {ps : Array (Int × Int)} {len : Nat} {x : Int32} {off : Int} (tgt : Nat) (d : decode cc pc = .ok (.lookupswitch dflt ps, len)) (hp : (ps.toList.zip (ps.toList.drop 1)).all (fun (a, next) => a.1 < next.1) = true) (ho : Op.lookupswitch.offset ps.toList dflt x.toInt = off) (ht : (pc : Int) + off = (tgt : Int)) (kk : zW G nL p l e R s m args below meth c Q cells slots n f tgt lv st) : zW G nL p l e R s m args below meth c Q cells slots n f pc lv (.int x :: st) :=
  fun H locs ls h hl => lv_lookup C.1.1 C.1.2.1 d hp ho ht (kk H locs ls h hl)
theorem zr_mabs_long {n cells slots : Nat} {f : Nat → va_E} (C : zC G cc nL own p s m args meth c) {x : Int64} {idx : Nat} (hm : Cond.methodLink own idx Lib.MathLoose.abs_long.x ∈ wsL_law) (h1 : Cond.static Lib.MathLoose.abs_long.x ∈ wsL_law) (h2 : Cond.initialized "java/lang/Math" ∈ wsL_law) (h3 : Cond.code Lib.MathLoose.abs_long.x Lib.MathLoose.abs_long.code 2 (some .long) ∈ wsL_law) (hfr : 1 ≤ R.frames) (hlo : (st.map fun v => v.category).sum + 13 ≤ R.locals) (hcs : cells ≤ R.cells ∧ slots ≤ R.slots) (d : decode cc pc = .ok (.invokestatic idx, 3))
    (kk : zW G nL p l e R s m args below meth c Q cells slots n f (pc + 3) lv (.long (if 0 < x then x else -x) :: st)) : zW G nL p l e R s m args below meth c Q cells slots n f pc lv (.long x :: st) :=
  fun H locs ls h hl => va_mabs_long C.1.1 C.1.2.1 (C.1.2.2.1.trans hl.1.symm) C.1.2.2.2.1 (C.1.2.2.2.2 _ hm) (C.1.2.2.2.2 _ h1) (C.1.2.2.2.2 _ h2) (C.1.2.2.2.2 _ h3) hfr hlo hcs.1 hcs.2 d (kk H locs ls h hl)
end ZT
abbrev zMs_max := zm_48_16
abbrev zMc_max := zm_48_17
abbrev zMs_min := zm_33_7
abbrev zMc_min := zm_33_8
abbrev zMs_abs := zm_28_22
abbrev zMc_abs := zm_28_23
abbrev zMs_abs_long := zm_23_14
abbrev zMc_abs_long := zm_23_16
abbrev zMi := zm_23_15
theorem zne_X10_9 : Cond.methodLinkNest RX10 9 yX8_init RX10 ∈ zNest := List.mem_of_getElem? (i := 0) rfl
theorem zne_X10_18 : Cond.methodLinkNest RX10 18 yX3_init RX10 ∈ zNest := List.mem_of_getElem? (i := 1) rfl
theorem zne_X10_37 : Cond.methodLinkNest RX10 37 yX1_init RX10 ∈ zNest := List.mem_of_getElem? (i := 2) rfl
theorem zne_X10_44 : Cond.methodLinkNest RX10 44 yX0_init RX10 ∈ zNest := List.mem_of_getElem? (i := 3) rfl
theorem zne_X10_51 : Cond.methodLinkNest RX10 51 yX9_init RX10 ∈ zNest := List.mem_of_getElem? (i := 4) rfl
theorem zne_X10_58 : Cond.methodLinkNest RX10 58 yX6_init RX10 ∈ zNest := List.mem_of_getElem? (i := 5) rfl
theorem zne_X10_65 : Cond.methodLinkNest RX10 65 yX2_init RX10 ∈ zNest := List.mem_of_getElem? (i := 6) rfl
theorem zne_X10_72 : Cond.methodLinkNest RX10 72 yX5_init RX10 ∈ zNest := List.mem_of_getElem? (i := 7) rfl
theorem zne_X10_79 : Cond.methodLinkNest RX10 79 yX7_init RX10 ∈ zNest := List.mem_of_getElem? (i := 8) rfl
theorem zne_X4_108 : Cond.methodLinkNest RX4 108 yX10_isEvent RX10 ∈ zNest := List.mem_of_getElem? (i := 9) rfl
theorem zne_X4_112 : Cond.methodLinkNest RX4 112 yX10_isOneOf RX10 ∈ zNest := List.mem_of_getElem? (i := 10) rfl
theorem zne_X10_224 : Cond.methodLinkNest RX10 224 yX0_canPlace RX10 ∈ zNest := List.mem_of_getElem? (i := 11) rfl
theorem zne_X0_40 : Cond.methodLinkNest RX0 40 yX10_isOneOf RX10 ∈ zNest := List.mem_of_getElem? (i := 12) rfl
theorem zne_X5_52 : Cond.methodLinkNest RX5 52 yX10_isOneOf RX10 ∈ zNest := List.mem_of_getElem? (i := 13) rfl
