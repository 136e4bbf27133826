/-! ===== heap rows, calls, entry and returns ===== -/
theorem zin {ci N : Nat} {Cn : String} {T : u_T} (h : zcl[ci]? = some (Cn, T, N)) : ∀ w ∈ u_ws Cn T N, w ∈ wsL_law := by
  match ci, h with
  | 0, h => cases h; exact inlX0
  | 1, h => cases h; exact inlX1
  | 2, h => cases h; exact inlX2
  | 3, h => cases h; exact inlX3
  | 4, h => cases h; exact inlX4
  | 5, h => cases h; exact inlX5
  | 6, h => cases h; exact inlX6
  | 7, h => cases h; exact inlX7
  | 8, h => cases h; exact inlX8
  | 9, h => cases h; exact inlX9
  | 10, h => cases h; exact inlX10
  | 11, h => cases h; exact inlX11
  | k + 12, h => simp [zcl] at h
theorem znm {ci N : Nat} {Cn : String} {T : u_T} (h : zcl[ci]? = some (Cn, T, N)) : ∀ a, a < N → ∀ b, b < N → a ≠ b → (T a).2.1 ≠ (T b).2.1 := by
  match ci, h with
  | 0, h => cases h; exact nmX0
  | 1, h => cases h; exact nmX1
  | 2, h => cases h; exact nmX2
  | 3, h => cases h; exact nmX3
  | 4, h => cases h; exact nmX4
  | 5, h => cases h; exact nmX5
  | 6, h => cases h; exact nmX6
  | 7, h => cases h; exact nmX7
  | 8, h => cases h; exact nmX8
  | 9, h => cases h; exact nmX9
  | 10, h => cases h; exact nmX10
  | 11, h => cases h; exact nmX11
  | k + 12, h => simp [zcl] at h
theorem zpf {ci N : Nat} {Cn : String} {T : u_T} (h : zcl[ci]? = some (Cn, T, N)) : ∃ ty : Nat → FieldType, ∀ k, k < N → parseFieldDescriptor (T k).2.2.1 = some (ty k) := by
  match ci, h with
  | 0, h => cases h; exact ⟨tyX0, tyX0_ok⟩
  | 1, h => cases h; exact ⟨tyX1, tyX1_ok⟩
  | 2, h => cases h; exact ⟨tyX2, tyX2_ok⟩
  | 3, h => cases h; exact ⟨tyX3, tyX3_ok⟩
  | 4, h => cases h; exact ⟨tyX4, tyX4_ok⟩
  | 5, h => cases h; exact ⟨tyX5, tyX5_ok⟩
  | 6, h => cases h; exact ⟨tyX6, tyX6_ok⟩
  | 7, h => cases h; exact ⟨tyX7, tyX7_ok⟩
  | 8, h => cases h; exact ⟨tyX8, tyX8_ok⟩
  | 9, h => cases h; exact ⟨tyX9, tyX9_ok⟩
  | 10, h => cases h; exact ⟨tyX10, tyX10_ok⟩
  | 11, h => cases h; exact ⟨tyX11, tyX11_ok⟩
  | k + 12, h => simp [zcl] at h
def zi (i : Int32) (n : Nat) : Bool := decide (¬ (i < 0 ∨ n ≤ i.toNatClampNeg))
theorem zi_in {i : Int32} {n : Nat} (h : zi i n = true) : vp_in i n := of_decide_eq_true (p := ¬ (i < 0 ∨ n ≤ i.toNatClampNeg)) h
section ZH
variable {G : zG} {cc : ByteArray} {nL : Nat} {own : String} {p : Program} {l : Launch} {e : Env} {R : Room} {s : State} {m : MethodId} {args : Array Value} {below : List Frame} {meth : Method} {c : Code} {cells slots : Nat} {Q : State → Prop}
variable {n : Nat} {f f' : Nat → va_E} {pc : Nat} {lv : List (Nat × Value)} {st : List Value}
theorem zr_getf (C : zC G cc nL own p s m args meth c) {ci k idx N : Nat} {Cn : String} {T : u_T} {fs : List Value} {v : Value} (c0 : Nat) (hc : c0 < n) (hf : f c0 = .inr (ci, fs)) (hcl : zcl[ci]? = some (Cn, T, N)) (hk : k < N) (hm : Cond.fieldLink own idx (T k).1 (T k).2.1 (T k).2.2.1 ∈ wsL_law) (hv : fs[k]? = some v) (d : decode cc pc = .ok (.getfield idx, 3))
    (kk : zW G nL p l e R s m args below meth c Q cells slots n f (pc + 3) lv (v :: st)) : zW G nL p l e R s m args below meth c Q cells slots n f pc lv (.ref (G.1 + c0) :: st) :=
  fun H locs ls h hl => va_get C.1.1 C.1.2.1 C.1.2.2.2.2 (zin hcl) C.1.2.2.2.1 C.2.1 h.1 c0 (by rw [zwl_get hc, hf]) hcl k hk (C.1.2.2.2.2 _ hm) (fun _ hx => hx) hv d (kk H locs ls h hl)
theorem zr_putf (C : zC G cc nL own p s m args meth c) {ci k idx N : Nat} {Cn : String} {T : u_T} {fs : List Value} {v : Value} {ty : FieldType} (c0 : Nat) (hc : c0 < n) (hf : f c0 = .inr (ci, fs)) (hcl : zcl[ci]? = some (Cn, T, N)) (hk : k < N) (hm : Cond.fieldLink own idx (T k).1 (T k).2.1 (T k).2.2.1 ∈ wsL_law)
    (hfin : (T k).2.2.2 = false ∨ ((T k).2.2.2 = true ∧ meth.name = "<init>" ∧ (T k).1 = own)) (hd : parseFieldDescriptor (T k).2.2.1 = some ty) (hn : narrow ty v = v) (hft : fits ty v = true) (hlf : k < fs.length) (d : decode cc pc = .ok (.putfield idx, 3)) (hf1 : f' c0 = .inr (ci, fs.set k v)) (hf2 : ∀ j, j ≠ c0 → f' j = f j)
    (kk : zW G nL p l e R s m args below meth c Q cells slots n f' (pc + 3) lv st) : zW G nL p l e R s m args below meth c Q cells slots n f pc lv (v :: .ref (G.1 + c0) :: st) := by
  intro H locs ls h hl
  obtain ⟨hP, hz, hS⟩ := h
  have he : (zwl G.1 n f)[c0]? = some (G.1 + c0, .inr (ci, fs)) := by rw [zwl_get hc, hf]
  obtain ⟨ty0, hty⟩ := zpf hcl
  have hap := va_apart (own := own) C.1.2.2.2.2 (zin hcl) ty0 hty (znm hcl) C.2.1 hcl
  obtain ⟨r, h1, cell, q1, q2, q3, q4⟩ := hP c0 _ he
  have hr : r = (Cn, T, N) := Option.some.inj (h1.symm.trans hcl)
  subst hr
  obtain ⟨hSl, hfc, kC, hkC, hkind⟩ := C.2.1.1 ci _ hcl
  obtain ⟨cf, kf, fi, fd, hi, hsl⟩ := hSl k hk
  have hlay := C.1.2.2.2.2 _ (zin hcl _ (u_in_lay hk))
  have hst := (u_facts hfc hkC (u_lays C.1.2.2.2.2 (zin hcl) hk) hi).1
  have hlt : fd.slot < cell.slots.size := by rw [hsl]; exact k2_hasslot (q4 k hk)
  have go : ∀ (H' : Heap), H'[G.1 + c0]? = some (cell.setSlot fd.slot v) → H'.size = H.size → (∀ q, q ≠ G.1 + c0 → H'[q]? = H[q]?) → W p l e R s m args below meth c H' (locs ++ [⟨G.1 + c0, fd.slot⟩]) cells slots Q (F0 m (pc + 3) ls st) := by
    intro H' e1 e2 e3
    rw [hsl] at e1 ⊢
    refine kk H' _ ls ⟨?_, e2.trans hz, hS.put e2 e3 (Nat.le_add_right _ _)⟩ hl
    rw [← zwl_set (f := f) hc hf1 hf2]
    exact hP.set (zwl_D G n f) he ⟨_, hcl, t_OB.to (V := updV (vp_V fs) k v) ⟨_, e1, q2, q3, t_set q4 hap hk v⟩ (fun j _ => vp_updV_set hlf v j)⟩ e3
  rcases hfin with hfin | ⟨hfin, hin, hdecl⟩
  · unfold u_lay at hlay
    rw [if_neg (by rw [hfin]; decide)] at hlay
    have h6 := u_store hfc hkC hkind hlay hi hd hn hft
    exact W.putK C.1.1 C.1.2.1 (f := fd) ⟨C.1.2.2.2.1, C.1.2.2.2.2 _ hm, ⟨_, _, _, hi⟩, hst⟩ (by rw [q2]; exact h6) q1 q3 hlt rfl rfl d go
  · have h7 := u_fits hfc hkC hkind (u_lays C.1.2.2.2.2 (zin hcl) hk) hi hd hn hft
    have hcf : m.cls = cf := by
      unfold u_lay at hlay
      rw [if_pos hfin] at hlay
      obtain ⟨_, _, c', _, _, _, -, -, hf', -, -, -, hown2, -⟩ := Cond.laysFinal_spec hlay
      have e1 : c' = cf := by have := hi.symm.trans hf'; simp at this; exact this.1.symm
      rw [hdecl] at hown2
      rw [← e1]; exact Option.some.inj (C.1.2.2.2.1.symm.trans hown2)
    exact W.putFinK C.1.1 C.1.2.1 C.1.2.2.2.1 (C.1.2.2.2.2 _ hm) hi hst hcf hin (by rw [q2]; exact h7) q1 q3 hlt rfl rfl d go

theorem zr_iald (C : zC G cc nL own p s m args meth c) {N : Nat} {g : Nat → Int32} {i : Int32} (c0 : Nat) (hc : c0 < n) (hf : f c0 = .inl (G.2.2.1, N, .inl g)) (hi : zi i N = true) (d : decode cc pc = .ok (.iaload, 1))
    (kk : zW G nL p l e R s m args below meth c Q cells slots n f (pc + 1) lv (.int (g i.toNatClampNeg) :: st)) : zW G nL p l e R s m args below meth c Q cells slots n f pc lv (.int i :: .ref (G.1 + c0) :: st) :=
  fun H locs ls h hl => va_iald C.1.1 C.1.2.1 C.2.1 h.1 c0 0 (by rw [zwl_get hc, hf]) rfl (zi_in hi) d (kk H locs ls h hl)
theorem zr_bald (C : zC G cc nL own p s m args meth c) {N : Nat} {g : Nat → Int32} {i : Int32} (c0 : Nat) (hc : c0 < n) (hf : f c0 = .inl (G.2.2.2.1, N, .inl g)) (hi : zi i N = true) (d : decode cc pc = .ok (.baload, 1))
    (kk : zW G nL p l e R s m args below meth c Q cells slots n f (pc + 1) lv (.int (g i.toNatClampNeg) :: st)) : zW G nL p l e R s m args below meth c Q cells slots n f pc lv (.int i :: .ref (G.1 + c0) :: st) :=
  fun H locs ls h hl => va_bald C.1.1 C.1.2.1 C.2.1 h.1 c0 1 (by rw [zwl_get hc, hf]) rfl (zi_in hi) d (kk H locs ls h hl)
theorem zr_zald (C : zC G cc nL own p s m args meth c) {N : Nat} {g : Nat → Int32} {i : Int32} (c0 : Nat) (hc : c0 < n) (hf : f c0 = .inl (G.2.2.2.2.1, N, .inl g)) (hi : zi i N = true) (d : decode cc pc = .ok (.baload, 1))
    (kk : zW G nL p l e R s m args below meth c Q cells slots n f (pc + 1) lv (.int (g i.toNatClampNeg) :: st)) : zW G nL p l e R s m args below meth c Q cells slots n f pc lv (.int i :: .ref (G.1 + c0) :: st) :=
  fun H locs ls h hl => va_zald C.1.1 C.1.2.1 C.2.1 h.1 c0 2 (by rw [zwl_get hc, hf]) rfl (zi_in hi) d (kk H locs ls h hl)
theorem zr_iast (C : zC G cc nL own p s m args meth c) {N : Nat} {g : Nat → Int32} {i x : Int32} (c0 : Nat) (hc : c0 < n) (hf : f c0 = .inl (G.2.2.1, N, .inl g)) (hi : zi i N = true) (d : decode cc pc = .ok (.iastore, 1)) (hf1 : f' c0 = .inl (G.2.2.1, N, .inl (upd g i.toNatClampNeg x))) (hf2 : ∀ j, j ≠ c0 → f' j = f j)
    (kk : zW G nL p l e R s m args below meth c Q cells slots n f' (pc + 1) lv st) : zW G nL p l e R s m args below meth c Q cells slots n f pc lv (.int x :: .int i :: .ref (G.1 + c0) :: st) := by
  intro H locs ls h hl
  obtain ⟨hP, hz, hS⟩ := h
  have he : (zwl G.1 n f)[c0]? = some (G.1 + c0, .inl (G.2.2.1, N, .inl g)) := by rw [zwl_get hc, hf]
  refine W.iast C.1.1 C.1.2.1 (hP c0 _ he) ((C.2.1.2 0 (G.2.2.1, .int) rfl).1 N (fun j => .int (g j))) (fun q => by cases q) (by show ¬ (i < 0 ∨ (arrV _ _ _).slots.size ≤ _); rw [arrV_size]; exact zi_in hi) rfl rfl d fun H1 ee z oq => ?_
  refine kk H1 _ ls ⟨?_, z.trans hz, hS.put z oq (Nat.le_add_right _ _)⟩ hl
  rw [← zwl_set (f := f) hc hf1 hf2]
  refine hP.set (zwl_D G n f) he ?_ oq
  show H1[G.1 + c0]? = some (vp_cell _ _)
  rw [ee]
  rw [vp_cell_i, vp_cell_i, arrV_store]
  congr 2
  funext q
  by_cases hq : q = i.toNatClampNeg
  · subst hq
    simp [updV, upd, vp_nar]
    try rfl
  · simp [updV, upd, hq]
theorem zr_bast (C : zC G cc nL own p s m args meth c) {N : Nat} {g : Nat → Int32} {i x : Int32} (c0 : Nat) (hc : c0 < n) (hf : f c0 = .inl (G.2.2.2.1, N, .inl g)) (hi : zi i N = true) (d : decode cc pc = .ok (.bastore, 1)) (hf1 : f' c0 = .inl (G.2.2.2.1, N, .inl (upd g i.toNatClampNeg (vp_nar .byte x)))) (hf2 : ∀ j, j ≠ c0 → f' j = f j)
    (kk : zW G nL p l e R s m args below meth c Q cells slots n f' (pc + 1) lv st) : zW G nL p l e R s m args below meth c Q cells slots n f pc lv (.int x :: .int i :: .ref (G.1 + c0) :: st) := by
  intro H locs ls h hl
  obtain ⟨hP, hz, hS⟩ := h
  have he : (zwl G.1 n f)[c0]? = some (G.1 + c0, .inl (G.2.2.2.1, N, .inl g)) := by rw [zwl_get hc, hf]
  refine W.bast C.1.1 C.1.2.1 (hP c0 _ he) ((C.2.1.2 1 (G.2.2.2.1, .byte) rfl).1 N (fun j => .int (g j))) (fun q => by cases q) (by show ¬ (i < 0 ∨ (arrV _ _ _).slots.size ≤ _); rw [arrV_size]; exact zi_in hi) rfl rfl d fun H1 ee z oq => ?_
  refine kk H1 _ ls ⟨?_, z.trans hz, hS.put z oq (Nat.le_add_right _ _)⟩ hl
  rw [← zwl_set (f := f) hc hf1 hf2]
  refine hP.set (zwl_D G n f) he ?_ oq
  show H1[G.1 + c0]? = some (vp_cell _ _)
  rw [ee]
  rw [vp_cell_i, vp_cell_i, arrV_store]
  congr 2
  funext q
  by_cases hq : q = i.toNatClampNeg
  · subst hq
    simp [updV, upd, vp_nar]
    try rfl
  · simp [updV, upd, hq]
theorem zr_zast (C : zC G cc nL own p s m args meth c) {N : Nat} {g : Nat → Int32} {i x : Int32} (c0 : Nat) (hc : c0 < n) (hf : f c0 = .inl (G.2.2.2.2.1, N, .inl g)) (hi : zi i N = true) (d : decode cc pc = .ok (.bastore, 1)) (hf1 : f' c0 = .inl (G.2.2.2.2.1, N, .inl (upd g i.toNatClampNeg (vp_nar .boolean x)))) (hf2 : ∀ j, j ≠ c0 → f' j = f j)
    (kk : zW G nL p l e R s m args below meth c Q cells slots n f' (pc + 1) lv st) : zW G nL p l e R s m args below meth c Q cells slots n f pc lv (.int x :: .int i :: .ref (G.1 + c0) :: st) := by
  intro H locs ls h hl
  obtain ⟨hP, hz, hS⟩ := h
  have he : (zwl G.1 n f)[c0]? = some (G.1 + c0, .inl (G.2.2.2.2.1, N, .inl g)) := by rw [zwl_get hc, hf]
  refine W.zast C.1.1 C.1.2.1 (hP c0 _ he) ((C.2.1.2 2 (G.2.2.2.2.1, .boolean) rfl).1 N (fun j => .int (g j))) (fun q => by cases q) (by show ¬ (i < 0 ∨ (arrV _ _ _).slots.size ≤ _); rw [arrV_size]; exact zi_in hi) rfl rfl d fun H1 ee z oq => ?_
  refine kk H1 _ ls ⟨?_, z.trans hz, hS.put z oq (Nat.le_add_right _ _)⟩ hl
  rw [← zwl_set (f := f) hc hf1 hf2]
  refine hP.set (zwl_D G n f) he ?_ oq
  show H1[G.1 + c0]? = some (vp_cell _ _)
  rw [ee]
  rw [vp_cell_i, vp_cell_i, arrV_store]
  congr 2
  funext q
  by_cases hq : q = i.toNatClampNeg
  · subst hq
    simp [updV, upd, vp_nar]
    try rfl
  · simp [updV, upd, hq]
theorem zr_aald (C : zC G cc nL own p s m args meth c) {N : Nat} {g : Nat → Option Nat} {i : Int32} {v : Nat} (c0 : Nat) (hc : c0 < n) (hf : f c0 = .inl (G.2.2.2.2.2.1, N, .inr (.inr (.inr (.inr g))))) (hi : zi i N = true) (hv : g i.toNatClampNeg = some v) (d : decode cc pc = .ok (.aaload, 1))
    (kk : zW G nL p l e R s m args below meth c Q cells slots n f (pc + 1) lv (.ref v :: st)) : zW G nL p l e R s m args below meth c Q cells slots n f pc lv (.int i :: .ref (G.1 + c0) :: st) := by
  intro H locs ls h hl
  have he : (zwl G.1 n f)[c0]? = some (G.1 + c0, .inl (G.2.2.2.2.2.1, N, .inr (.inr (.inr (.inr g))))) := by rw [zwl_get hc, hf]
  have hlt : i.toNatClampNeg < N := Nat.not_le.mp fun q => zi_in hi (Or.inr q)
  refine W.aald (v := .ref v) (ty := .array .int) C.1.1 C.1.2.1 (h.1 c0 _ he) ((C.2.1.2 3 (G.2.2.2.2.2.1, .array .int) rfl).1 N (fun j => va_rf (g j))) rfl (fun q => by cases q) (by show ¬ (i < 0 ∨ (arrV _ _ _).slots.size ≤ _); rw [arrV_size]; exact zi_in hi) ?_ rfl rfl d (kk H locs ls h hl)
  show (arrV _ _ _).slots[_]? = _
  rw [arrV_read _ _ hlt, hv]
  rfl
theorem zr_alen (C : zC G cc nL own p s m args meth c) {N : Nat} {g : Nat → Int32} {v : Int32} (c0 : Nat) (hc : c0 < n) (hf : f c0 = .inl (G.2.2.1, N, .inl g)) (hv : Int32.ofNat N = v) (d : decode cc pc = .ok (.arraylength, 1))
    (kk : zW G nL p l e R s m args below meth c Q cells slots n f (pc + 1) lv (.int v :: st)) : zW G nL p l e R s m args below meth c Q cells slots n f pc lv (.ref (G.1 + c0) :: st) :=
  fun H locs ls h hl => va_alen C.1.1 C.1.2.1 C.2.1 h.1 c0 0 (by rw [zwl_get hc, hf]) rfl hv d (kk H locs ls h hl)
/-- what a call needs of the tables, of the callee alone -/
def ziV (y : MethodName) (Cn : String) (b : ByteArray) (nLy : Nat) (ret : Option FieldType) (na : Nat) : Prop := Cond.instanceMethod y ∈ wsL_law ∧ Cond.selects Cn y y ∈ wsL_law ∧ Cond.initialized y.cls ∈ wsL_law ∧ Cond.code y b nLy ret ∈ wsL_law ∧
  (y.cls ≠ "java/lang/invoke/MethodHandle" ∧ y.cls ≠ "java/lang/invoke/VarHandle" ∧ (parseMethodDescriptor y.desc).map (fun d => d.parameters.length) = some na)
def ziS (y : MethodName) (b : ByteArray) (nLy : Nat) (ret : Option FieldType) (na : Nat) : Prop := Cond.static y ∈ wsL_law ∧ Cond.initialized y.cls ∈ wsL_law ∧ Cond.code y b nLy ret ∈ wsL_law ∧
  (y.cls ≠ "java/lang/invoke/MethodHandle" ∧ y.cls ≠ "java/lang/invoke/VarHandle" ∧ (parseMethodDescriptor y.desc).map (fun d => d.parameters.length) = some na)
theorem zgc {y : MethodName} {b : ByteArray} {nLy : Nat} {ret : Option FieldType} (h : Cond.code y b nLy ret ∈ wsL_law) : GoodIn wsL_law (Cond.code y b nLy ret :: wsL_law) := by
  intro w hw
  rcases List.mem_cons.mp hw with rfl | hw
  · exact zgood _ h
  · exact zgood _ hw
abbrev zWs (y : MethodName) (b : ByteArray) (nLy : Nat) (ret : Option FieldType) : List Cond := Cond.code y b nLy ret :: wsL_law
/-- contracts: int, long, void; from these cells to those -/
def zMI (G : zG) (l : Launch) (y : MethodName) (b : ByteArray) (nLy : Nat) (ret : Option FieldType) (rm : Room) (av : List Value) (n : Nat) (f : Nat → va_E) (r : Int32) (n' : Nat) (f' : Nat → va_E) : Prop :=
  Met l y (zWs y b nLy ret) rm (va_Pc av (zok G n f)) (va_Qi (fun x (_ : Unit) => x = r) (fun _ t => zok G n' f' t) (zA G)) rm.cells rm.slots (zA G)
def zML (G : zG) (l : Launch) (y : MethodName) (b : ByteArray) (nLy : Nat) (ret : Option FieldType) (rm : Room) (av : List Value) (n : Nat) (f : Nat → va_E) (r : Int64) (n' : Nat) (f' : Nat → va_E) : Prop :=
  Met l y (zWs y b nLy ret) rm (va_Pc av (zok G n f)) (va_Ql (fun x (_ : Unit) => x = r) (fun _ t => zok G n' f' t) (zA G)) rm.cells rm.slots (zA G)
def zMV (G : zG) (l : Launch) (y : MethodName) (b : ByteArray) (nLy : Nat) (ret : Option FieldType) (rm : Room) (av : List Value) (n : Nat) (f : Nat → va_E) (n' : Nat) (f' : Nat → va_E) : Prop :=
  Met l y (zWs y b nLy ret) rm (va_Pc av (zok G n f)) (va_Qv (fun (_ : Unit) => True) (fun _ t => zok G n' f' t) (zA G)) rm.cells rm.slots (zA G)
abbrev zrm (fr lo : Nat) : Room := { frames := fr, cells := 0, slots := 0, locals := lo }
theorem zHA {q : Nat} (h : zA G q) : zA G q := h
section CALL
variable {y : MethodName} {b : ByteArray} {nLy na idx ci N : Nat} {ret : Option FieldType} {rm : Room} {Cn : String} {T : u_T} {fs : List Value} {n' : Nat}
theorem zcB (C : zC G cc nL own p s m args meth c) (hc4 : Cond.code y b nLy ret ∈ wsL_law) (hini : Cond.initialized y.cls ∈ wsL_law) (hd : y.cls ≠ "java/lang/invoke/MethodHandle" ∧ y.cls ≠ "java/lang/invoke/VarHandle" ∧ (parseMethodDescriptor y.desc).map (fun d => d.parameters.length) = some na) (hm : Cond.methodLink own idx y ∈ wsL_law)
    (hR : rm.frames + 1 ≤ R.frames ∧ 8 + (nLy + 11) + rm.locals ≤ R.locals) : CallB R s args own idx y b nLy ret (zWs y b nLy ret) rm rm.cells rm.slots na :=
  callB_of na C.1.2.2.2.2 (zgc hc4) rfl rfl rfl (C.1.2.2.2.2 _ hini) (C.1.2.2.2.2 _ hm) hd hR
theorem zprV (C : zC G cc nL own p s m args meth c) {av : List Value} {H : Heap} {locs : List Loc} (c0 : Nat) (hc : c0 < n) (hf : f c0 = .inr (ci, fs)) (hcl : zcl[ci]? = some (Cn, T, N)) (h : zH G n f s H locs) : PreV s H Cn (G.1 + c0) (va_Pc (.ref (G.1 + c0) :: av) (zok G n f)) av :=
  ⟨zok.blind, va_recv (q := (Cn, T, N)) C.2.1 h.1 hcl (q0 := c0) (by rw [zwl_get hc, hf]), fun U hU hW => ⟨rfl, zok_of C h hU hW⟩⟩
theorem zprS (C : zC G cc nL own p s m args meth c) {av : List Value} {H : Heap} {locs : List Loc} (h : zH G n f s H locs) : PreS s H (va_Pc av (zok G n f)) av :=
  ⟨zok.blind, fun U hU hW => ⟨rfl, zok_of C h hU hW⟩⟩
theorem zpl {y : MethodName} {na : Nat} (h : (parseMethodDescriptor y.desc).map (fun d => d.parameters.length) = some na) {sig : _} (hs : parseMethodDescriptor y.desc = some sig) : na = sig.parameters.length := by
  rw [hs] at h
  exact (Option.some.inj h).symm
theorem zr_callVI (C : zC G cc nL own p s m args meth c) {r : Int32} {As st0 : List Value} (c0 : Nat) (hc : c0 < n) (hf : f c0 = .inr (ci, fs)) (hcl : zcl[ci]? = some (Cn, T, N)) (hM : zMI G l y b nLy ret rm (.ref (G.1 + c0) :: As) n f r n' f') (i : ziV y Cn b nLy ret na) (hm : Cond.methodLink own idx y ∈ wsL_law) (hn : As.length = na) (hst : st0 = As.reverse ++ .ref (G.1 + c0) :: st) (hcat : (st.map fun v => v.category).sum ≤ 8) (hR : rm.frames + 1 ≤ R.frames ∧ 8 + (nLy + 11) + rm.locals ≤ R.locals) (hf3 : cells + rm.cells ≤ R.cells ∧ slots + rm.slots ≤ R.slots) (d : decode cc pc = .ok (.invokevirtual idx, 3))
    (kk : zW G nL p l e R s m args below meth c Q (cells + rm.cells) (slots + rm.slots) n' f' (pc + 3) lv (.int r :: st)) : zW G nL p l e R s m args below meth c Q cells slots n f pc lv st0 := by
  intro H locs ls h hl
  refine va_calli (va_runV (As := As) (rest := st) C.1 hM ⟨zcB C i.2.2.2.1 i.2.2.1 i.2.2.2.2 hm hR, C.1.2.2.2.2 _ i.1, C.1.2.2.2.2 _ i.2.1⟩ (zprV C c0 hc hf hcl h) rfl hn hl.1 hst (lv_room hcat) d hf3) h.2.2 (fun q _ h => h) (fun q h => h) (fun rr u t H1 locs1 ht hvm hw hB hz1 hk1 hS => ?_)
  subst hw
  exact kk H1 locs1 ls ⟨by rw [← ht]; exact hB.1, by rw [← ht]; exact hB.2.1, hS⟩ hl
theorem zr_callnVI (C : zC G cc nL own p s m args meth c) {r : Int32} {As st0 : List Value} {host : String} (c0 : Nat) (hc : c0 < n) (hf : f c0 = .inr (ci, fs)) (hcl : zcl[ci]? = some (Cn, T, N)) (hM : zMI G l y b nLy ret rm (.ref (G.1 + c0) :: As) n f r n' f') (i : ziV y Cn b nLy ret na) (hm : Cond.methodLinkNest own idx y host ∈ zNest) (hn : As.length = na) (hst : st0 = As.reverse ++ .ref (G.1 + c0) :: st) (hcat : (st.map fun v => v.category).sum ≤ 8) (hR : rm.frames + 1 ≤ R.frames ∧ 8 + (nLy + 11) + rm.locals ≤ R.locals) (hf3 : cells + rm.cells ≤ R.cells ∧ slots + rm.slots ≤ R.slots) (d : decode cc pc = .ok (.invokevirtual idx, 3))
    (kk : zW G nL p l e R s m args below meth c Q (cells + rm.cells) (slots + rm.slots) n' f' (pc + 3) lv (.int r :: st)) : zW G nL p l e R s m args below meth c Q cells slots n f pc lv st0 := by
  intro H locs ls h hl
  refine va_calli (va_runVN (As := As) (rest := st) C.1 hM ⟨⟨⟨rfl, rfl, hR.1, hR.2, pay_in C.1.2.2.2.2 (zgc i.2.2.2.1), List.mem_cons_self⟩, C.1.2.2.2.2 _ i.2.2.2.1, C.1.2.2.2.2 _ i.2.2.1, ⟨i.2.2.2.2.1, i.2.2.2.2.2.1⟩, fun sig hh => zpl i.2.2.2.2.2.2 hh, va_Nw.use rfl (C.2.2.1.1 _ hm)⟩, C.1.2.2.2.2 _ i.1, C.1.2.2.2.2 _ i.2.1⟩ (zprV C c0 hc hf hcl h) rfl hn hl.1 hst (lv_room hcat) d hf3) h.2.2 (fun q _ h => h) (fun q h => h) (fun rr u t H1 locs1 ht hvm hw hB hz1 hk1 hS => ?_)
  subst hw
  exact kk H1 locs1 ls ⟨by rw [← ht]; exact hB.1, by rw [← ht]; exact hB.2.1, hS⟩ hl
theorem zr_callSI (C : zC G cc nL own p s m args meth c) {r : Int32} {As st0 : List Value} (hM : zMI G l y b nLy ret rm As n f r n' f') (i : ziS y b nLy ret na) (hm : Cond.methodLink own idx y ∈ wsL_law) (hn : As.length = na) (hst : st0 = As.reverse ++ st) (hcat : (st.map fun v => v.category).sum ≤ 8) (hR : rm.frames + 1 ≤ R.frames ∧ 8 + (nLy + 11) + rm.locals ≤ R.locals) (hf3 : cells + rm.cells ≤ R.cells ∧ slots + rm.slots ≤ R.slots) (d : decode cc pc = .ok (.invokestatic idx, 3))
    (kk : zW G nL p l e R s m args below meth c Q (cells + rm.cells) (slots + rm.slots) n' f' (pc + 3) lv (.int r :: st)) : zW G nL p l e R s m args below meth c Q cells slots n f pc lv st0 := by
  intro H locs ls h hl
  refine va_calli (va_runS (As := As) (rest := st) C.1 hM ⟨zcB C i.2.2.1 i.2.1 i.2.2.2 hm hR, C.1.2.2.2.2 _ i.1⟩ (zprS C h) rfl hn hl.1 hst (lv_room hcat) d hf3) h.2.2 (fun q _ h => h) (fun q h => h) (fun rr u t H1 locs1 ht hvm hw hB hz1 hk1 hS => ?_)
  subst hw
  exact kk H1 locs1 ls ⟨by rw [← ht]; exact hB.1, by rw [← ht]; exact hB.2.1, hS⟩ hl
theorem zr_callnSI (C : zC G cc nL own p s m args meth c) {r : Int32} {As st0 : List Value} {host : String} (hM : zMI G l y b nLy ret rm As n f r n' f') (i : ziS y b nLy ret na) (hm : Cond.methodLinkNest own idx y host ∈ zNest) (hn : As.length = na) (hst : st0 = As.reverse ++ st) (hcat : (st.map fun v => v.category).sum ≤ 8) (hR : rm.frames + 1 ≤ R.frames ∧ 8 + (nLy + 11) + rm.locals ≤ R.locals) (hf3 : cells + rm.cells ≤ R.cells ∧ slots + rm.slots ≤ R.slots) (d : decode cc pc = .ok (.invokestatic idx, 3))
    (kk : zW G nL p l e R s m args below meth c Q (cells + rm.cells) (slots + rm.slots) n' f' (pc + 3) lv (.int r :: st)) : zW G nL p l e R s m args below meth c Q cells slots n f pc lv st0 := by
  intro H locs ls h hl
  refine va_calli (va_runSN (As := As) (rest := st) C.1 hM ⟨⟨⟨rfl, rfl, hR.1, hR.2, pay_in C.1.2.2.2.2 (zgc i.2.2.1), List.mem_cons_self⟩, C.1.2.2.2.2 _ i.2.2.1, C.1.2.2.2.2 _ i.2.1, ⟨i.2.2.2.1, i.2.2.2.2.1⟩, fun sig hh => zpl i.2.2.2.2.2 hh, va_Nw.use rfl (C.2.2.1.1 _ hm)⟩, C.1.2.2.2.2 _ i.1, trivial⟩ (zprS C h) rfl hn hl.1 hst (lv_room hcat) d hf3) h.2.2 (fun q _ h => h) (fun q h => h) (fun rr u t H1 locs1 ht hvm hw hB hz1 hk1 hS => ?_)
  subst hw
  exact kk H1 locs1 ls ⟨by rw [← ht]; exact hB.1, by rw [← ht]; exact hB.2.1, hS⟩ hl
theorem zr_callVL (C : zC G cc nL own p s m args meth c) {r : Int64} {As st0 : List Value} (c0 : Nat) (hc : c0 < n) (hf : f c0 = .inr (ci, fs)) (hcl : zcl[ci]? = some (Cn, T, N)) (hM : zML G l y b nLy ret rm (.ref (G.1 + c0) :: As) n f r n' f') (i : ziV y Cn b nLy ret na) (hm : Cond.methodLink own idx y ∈ wsL_law) (hn : As.length = na) (hst : st0 = As.reverse ++ .ref (G.1 + c0) :: st) (hcat : (st.map fun v => v.category).sum ≤ 8) (hR : rm.frames + 1 ≤ R.frames ∧ 8 + (nLy + 11) + rm.locals ≤ R.locals) (hf3 : cells + rm.cells ≤ R.cells ∧ slots + rm.slots ≤ R.slots) (d : decode cc pc = .ok (.invokevirtual idx, 3))
    (kk : zW G nL p l e R s m args below meth c Q (cells + rm.cells) (slots + rm.slots) n' f' (pc + 3) lv (.long r :: st)) : zW G nL p l e R s m args below meth c Q cells slots n f pc lv st0 := by
  intro H locs ls h hl
  refine va_calll (va_runV (As := As) (rest := st) C.1 hM ⟨zcB C i.2.2.2.1 i.2.2.1 i.2.2.2.2 hm hR, C.1.2.2.2.2 _ i.1, C.1.2.2.2.2 _ i.2.1⟩ (zprV C c0 hc hf hcl h) rfl hn hl.1 hst (lv_room hcat) d hf3) h.2.2 (fun q _ h => h) (fun q h => h) (fun rr u t H1 locs1 ht hvm hw hB hz1 hk1 hS => ?_)
  subst hw
  exact kk H1 locs1 ls ⟨by rw [← ht]; exact hB.1, by rw [← ht]; exact hB.2.1, hS⟩ hl
theorem zr_callnVL (C : zC G cc nL own p s m args meth c) {r : Int64} {As st0 : List Value} {host : String} (c0 : Nat) (hc : c0 < n) (hf : f c0 = .inr (ci, fs)) (hcl : zcl[ci]? = some (Cn, T, N)) (hM : zML G l y b nLy ret rm (.ref (G.1 + c0) :: As) n f r n' f') (i : ziV y Cn b nLy ret na) (hm : Cond.methodLinkNest own idx y host ∈ zNest) (hn : As.length = na) (hst : st0 = As.reverse ++ .ref (G.1 + c0) :: st) (hcat : (st.map fun v => v.category).sum ≤ 8) (hR : rm.frames + 1 ≤ R.frames ∧ 8 + (nLy + 11) + rm.locals ≤ R.locals) (hf3 : cells + rm.cells ≤ R.cells ∧ slots + rm.slots ≤ R.slots) (d : decode cc pc = .ok (.invokevirtual idx, 3))
    (kk : zW G nL p l e R s m args below meth c Q (cells + rm.cells) (slots + rm.slots) n' f' (pc + 3) lv (.long r :: st)) : zW G nL p l e R s m args below meth c Q cells slots n f pc lv st0 := by
  intro H locs ls h hl
  refine va_calll (va_runVN (As := As) (rest := st) C.1 hM ⟨⟨⟨rfl, rfl, hR.1, hR.2, pay_in C.1.2.2.2.2 (zgc i.2.2.2.1), List.mem_cons_self⟩, C.1.2.2.2.2 _ i.2.2.2.1, C.1.2.2.2.2 _ i.2.2.1, ⟨i.2.2.2.2.1, i.2.2.2.2.2.1⟩, fun sig hh => zpl i.2.2.2.2.2.2 hh, va_Nw.use rfl (C.2.2.1.1 _ hm)⟩, C.1.2.2.2.2 _ i.1, C.1.2.2.2.2 _ i.2.1⟩ (zprV C c0 hc hf hcl h) rfl hn hl.1 hst (lv_room hcat) d hf3) h.2.2 (fun q _ h => h) (fun q h => h) (fun rr u t H1 locs1 ht hvm hw hB hz1 hk1 hS => ?_)
  subst hw
  exact kk H1 locs1 ls ⟨by rw [← ht]; exact hB.1, by rw [← ht]; exact hB.2.1, hS⟩ hl
theorem zr_callSL (C : zC G cc nL own p s m args meth c) {r : Int64} {As st0 : List Value} (hM : zML G l y b nLy ret rm As n f r n' f') (i : ziS y b nLy ret na) (hm : Cond.methodLink own idx y ∈ wsL_law) (hn : As.length = na) (hst : st0 = As.reverse ++ st) (hcat : (st.map fun v => v.category).sum ≤ 8) (hR : rm.frames + 1 ≤ R.frames ∧ 8 + (nLy + 11) + rm.locals ≤ R.locals) (hf3 : cells + rm.cells ≤ R.cells ∧ slots + rm.slots ≤ R.slots) (d : decode cc pc = .ok (.invokestatic idx, 3))
    (kk : zW G nL p l e R s m args below meth c Q (cells + rm.cells) (slots + rm.slots) n' f' (pc + 3) lv (.long r :: st)) : zW G nL p l e R s m args below meth c Q cells slots n f pc lv st0 := by
  intro H locs ls h hl
  refine va_calll (va_runS (As := As) (rest := st) C.1 hM ⟨zcB C i.2.2.1 i.2.1 i.2.2.2 hm hR, C.1.2.2.2.2 _ i.1⟩ (zprS C h) rfl hn hl.1 hst (lv_room hcat) d hf3) h.2.2 (fun q _ h => h) (fun q h => h) (fun rr u t H1 locs1 ht hvm hw hB hz1 hk1 hS => ?_)
  subst hw
  exact kk H1 locs1 ls ⟨by rw [← ht]; exact hB.1, by rw [← ht]; exact hB.2.1, hS⟩ hl
theorem zr_callnSL (C : zC G cc nL own p s m args meth c) {r : Int64} {As st0 : List Value} {host : String} (hM : zML G l y b nLy ret rm As n f r n' f') (i : ziS y b nLy ret na) (hm : Cond.methodLinkNest own idx y host ∈ zNest) (hn : As.length = na) (hst : st0 = As.reverse ++ st) (hcat : (st.map fun v => v.category).sum ≤ 8) (hR : rm.frames + 1 ≤ R.frames ∧ 8 + (nLy + 11) + rm.locals ≤ R.locals) (hf3 : cells + rm.cells ≤ R.cells ∧ slots + rm.slots ≤ R.slots) (d : decode cc pc = .ok (.invokestatic idx, 3))
    (kk : zW G nL p l e R s m args below meth c Q (cells + rm.cells) (slots + rm.slots) n' f' (pc + 3) lv (.long r :: st)) : zW G nL p l e R s m args below meth c Q cells slots n f pc lv st0 := by
  intro H locs ls h hl
  refine va_calll (va_runSN (As := As) (rest := st) C.1 hM ⟨⟨⟨rfl, rfl, hR.1, hR.2, pay_in C.1.2.2.2.2 (zgc i.2.2.1), List.mem_cons_self⟩, C.1.2.2.2.2 _ i.2.2.1, C.1.2.2.2.2 _ i.2.1, ⟨i.2.2.2.1, i.2.2.2.2.1⟩, fun sig hh => zpl i.2.2.2.2.2 hh, va_Nw.use rfl (C.2.2.1.1 _ hm)⟩, C.1.2.2.2.2 _ i.1, trivial⟩ (zprS C h) rfl hn hl.1 hst (lv_room hcat) d hf3) h.2.2 (fun q _ h => h) (fun q h => h) (fun rr u t H1 locs1 ht hvm hw hB hz1 hk1 hS => ?_)
  subst hw
  exact kk H1 locs1 ls ⟨by rw [← ht]; exact hB.1, by rw [← ht]; exact hB.2.1, hS⟩ hl
theorem zr_callVV (C : zC G cc nL own p s m args meth c) {As st0 : List Value} (c0 : Nat) (hc : c0 < n) (hf : f c0 = .inr (ci, fs)) (hcl : zcl[ci]? = some (Cn, T, N)) (hM : zMV G l y b nLy ret rm (.ref (G.1 + c0) :: As) n f n' f') (i : ziV y Cn b nLy ret na) (hm : Cond.methodLink own idx y ∈ wsL_law) (hn : As.length = na) (hst : st0 = As.reverse ++ .ref (G.1 + c0) :: st) (hcat : (st.map fun v => v.category).sum ≤ 8) (hR : rm.frames + 1 ≤ R.frames ∧ 8 + (nLy + 11) + rm.locals ≤ R.locals) (hf3 : cells + rm.cells ≤ R.cells ∧ slots + rm.slots ≤ R.slots) (d : decode cc pc = .ok (.invokevirtual idx, 3))
    (kk : zW G nL p l e R s m args below meth c Q (cells + rm.cells) (slots + rm.slots) n' f' (pc + 3) lv (st)) : zW G nL p l e R s m args below meth c Q cells slots n f pc lv st0 := by
  intro H locs ls h hl
  refine va_callv (va_runV (As := As) (rest := st) C.1 hM ⟨zcB C i.2.2.2.1 i.2.2.1 i.2.2.2.2 hm hR, C.1.2.2.2.2 _ i.1, C.1.2.2.2.2 _ i.2.1⟩ (zprV C c0 hc hf hcl h) rfl hn hl.1 hst (lv_room hcat) d hf3) h.2.2 (fun q _ h => h) (fun q h => h) (fun u t H1 locs1 ht hvm hw hB hz1 hk1 hS => ?_)
  exact kk H1 locs1 ls ⟨by rw [← ht]; exact hB.1, by rw [← ht]; exact hB.2.1, hS⟩ hl
theorem zr_callnVV (C : zC G cc nL own p s m args meth c) {As st0 : List Value} {host : String} (c0 : Nat) (hc : c0 < n) (hf : f c0 = .inr (ci, fs)) (hcl : zcl[ci]? = some (Cn, T, N)) (hM : zMV G l y b nLy ret rm (.ref (G.1 + c0) :: As) n f n' f') (i : ziV y Cn b nLy ret na) (hm : Cond.methodLinkNest own idx y host ∈ zNest) (hn : As.length = na) (hst : st0 = As.reverse ++ .ref (G.1 + c0) :: st) (hcat : (st.map fun v => v.category).sum ≤ 8) (hR : rm.frames + 1 ≤ R.frames ∧ 8 + (nLy + 11) + rm.locals ≤ R.locals) (hf3 : cells + rm.cells ≤ R.cells ∧ slots + rm.slots ≤ R.slots) (d : decode cc pc = .ok (.invokevirtual idx, 3))
    (kk : zW G nL p l e R s m args below meth c Q (cells + rm.cells) (slots + rm.slots) n' f' (pc + 3) lv (st)) : zW G nL p l e R s m args below meth c Q cells slots n f pc lv st0 := by
  intro H locs ls h hl
  refine va_callv (va_runVN (As := As) (rest := st) C.1 hM ⟨⟨⟨rfl, rfl, hR.1, hR.2, pay_in C.1.2.2.2.2 (zgc i.2.2.2.1), List.mem_cons_self⟩, C.1.2.2.2.2 _ i.2.2.2.1, C.1.2.2.2.2 _ i.2.2.1, ⟨i.2.2.2.2.1, i.2.2.2.2.2.1⟩, fun sig hh => zpl i.2.2.2.2.2.2 hh, va_Nw.use rfl (C.2.2.1.1 _ hm)⟩, C.1.2.2.2.2 _ i.1, C.1.2.2.2.2 _ i.2.1⟩ (zprV C c0 hc hf hcl h) rfl hn hl.1 hst (lv_room hcat) d hf3) h.2.2 (fun q _ h => h) (fun q h => h) (fun u t H1 locs1 ht hvm hw hB hz1 hk1 hS => ?_)
  exact kk H1 locs1 ls ⟨by rw [← ht]; exact hB.1, by rw [← ht]; exact hB.2.1, hS⟩ hl
theorem zr_callSV (C : zC G cc nL own p s m args meth c) {As st0 : List Value} (hM : zMV G l y b nLy ret rm As n f n' f') (i : ziS y b nLy ret na) (hm : Cond.methodLink own idx y ∈ wsL_law) (hn : As.length = na) (hst : st0 = As.reverse ++ st) (hcat : (st.map fun v => v.category).sum ≤ 8) (hR : rm.frames + 1 ≤ R.frames ∧ 8 + (nLy + 11) + rm.locals ≤ R.locals) (hf3 : cells + rm.cells ≤ R.cells ∧ slots + rm.slots ≤ R.slots) (d : decode cc pc = .ok (.invokestatic idx, 3))
    (kk : zW G nL p l e R s m args below meth c Q (cells + rm.cells) (slots + rm.slots) n' f' (pc + 3) lv (st)) : zW G nL p l e R s m args below meth c Q cells slots n f pc lv st0 := by
  intro H locs ls h hl
  refine va_callv (va_runS (As := As) (rest := st) C.1 hM ⟨zcB C i.2.2.1 i.2.1 i.2.2.2 hm hR, C.1.2.2.2.2 _ i.1⟩ (zprS C h) rfl hn hl.1 hst (lv_room hcat) d hf3) h.2.2 (fun q _ h => h) (fun q h => h) (fun u t H1 locs1 ht hvm hw hB hz1 hk1 hS => ?_)
  exact kk H1 locs1 ls ⟨by rw [← ht]; exact hB.1, by rw [← ht]; exact hB.2.1, hS⟩ hl
theorem zr_callnSV (C : zC G cc nL own p s m args meth c) {As st0 : List Value} {host : String} (hM : zMV G l y b nLy ret rm As n f n' f') (i : ziS y b nLy ret na) (hm : Cond.methodLinkNest own idx y host ∈ zNest) (hn : As.length = na) (hst : st0 = As.reverse ++ st) (hcat : (st.map fun v => v.category).sum ≤ 8) (hR : rm.frames + 1 ≤ R.frames ∧ 8 + (nLy + 11) + rm.locals ≤ R.locals) (hf3 : cells + rm.cells ≤ R.cells ∧ slots + rm.slots ≤ R.slots) (d : decode cc pc = .ok (.invokestatic idx, 3))
    (kk : zW G nL p l e R s m args below meth c Q (cells + rm.cells) (slots + rm.slots) n' f' (pc + 3) lv (st)) : zW G nL p l e R s m args below meth c Q cells slots n f pc lv st0 := by
  intro H locs ls h hl
  refine va_callv (va_runSN (As := As) (rest := st) C.1 hM ⟨⟨⟨rfl, rfl, hR.1, hR.2, pay_in C.1.2.2.2.2 (zgc i.2.2.1), List.mem_cons_self⟩, C.1.2.2.2.2 _ i.2.2.1, C.1.2.2.2.2 _ i.2.1, ⟨i.2.2.2.1, i.2.2.2.2.1⟩, fun sig hh => zpl i.2.2.2.2.2 hh, va_Nw.use rfl (C.2.2.1.1 _ hm)⟩, C.1.2.2.2.2 _ i.1, trivial⟩ (zprS C h) rfl hn hl.1 hst (lv_room hcat) d hf3) h.2.2 (fun q _ h => h) (fun q h => h) (fun u t H1 locs1 ht hvm hw hB hz1 hk1 hS => ?_)
  exact kk H1 locs1 ls ⟨by rw [← ht]; exact hB.1, by rw [← ht]; exact hB.2.1, hS⟩ hl

end CALL
theorem zr_mmax (C : zC G cc nL own p s m args meth c) {x y : Int32} {idx : Nat} (hm : Cond.methodLink own idx Lib.Math.max.name ∈ wsL_law) (h1 : Cond.static Lib.Math.max.name ∈ wsL_law) (h2 : Cond.initialized "java/lang/Math" ∈ wsL_law) (h3 : Cond.code Lib.Math.max.name Lib.Math.max.code 2 (some .int) ∈ wsL_law) (hfr : 1 ≤ R.frames) (hlo : (st.map fun v => v.category).sum + 13 ≤ R.locals) (hcs : cells ≤ R.cells ∧ slots ≤ R.slots) (d : decode cc pc = .ok (.invokestatic idx, 3))
    (kk : zW G nL p l e R s m args below meth c Q cells slots n f (pc + 3) lv (.int (if x < y then y else x) :: st)) : zW G nL p l e R s m args below meth c Q cells slots n f pc lv (.int y :: .int x :: st) :=
  fun H locs ls h hl => va_mmax C.1.1 C.1.2.1 (C.1.2.2.1.trans hl.1.symm) C.1.2.2.2.1 (C.1.2.2.2.2 _ hm) (C.1.2.2.2.2 _ h1) (C.1.2.2.2.2 _ h2) (C.1.2.2.2.2 _ h3) hfr hlo hcs.1 hcs.2 d (kk H locs ls h hl)
theorem zr_mmin (C : zC G cc nL own p s m args meth c) {x y : Int32} {idx : Nat} (hm : Cond.methodLink own idx Lib.Math.min.name ∈ wsL_law) (h1 : Cond.static Lib.Math.min.name ∈ wsL_law) (h2 : Cond.initialized "java/lang/Math" ∈ wsL_law) (h3 : Cond.code Lib.Math.min.name Lib.Math.min.code 2 (some .int) ∈ wsL_law) (hfr : 1 ≤ R.frames) (hlo : (st.map fun v => v.category).sum + 13 ≤ R.locals) (hcs : cells ≤ R.cells ∧ slots ≤ R.slots) (d : decode cc pc = .ok (.invokestatic idx, 3))
    (kk : zW G nL p l e R s m args below meth c Q cells slots n f (pc + 3) lv (.int (if y < x then y else x) :: st)) : zW G nL p l e R s m args below meth c Q cells slots n f pc lv (.int y :: .int x :: st) :=
  fun H locs ls h hl => va_mmin C.1.1 C.1.2.1 (C.1.2.2.1.trans hl.1.symm) C.1.2.2.2.1 (C.1.2.2.2.2 _ hm) (C.1.2.2.2.2 _ h1) (C.1.2.2.2.2 _ h2) (C.1.2.2.2.2 _ h3) hfr hlo hcs.1 hcs.2 d (kk H locs ls h hl)
theorem zr_mabs (C : zC G cc nL own p s m args meth c) {x : Int32} {idx : Nat} (hm : Cond.methodLink own idx Lib.Math.abs.name ∈ wsL_law) (h1 : Cond.static Lib.Math.abs.name ∈ wsL_law) (h2 : Cond.initialized "java/lang/Math" ∈ wsL_law) (h3 : Cond.code Lib.Math.abs.name Lib.Math.abs.code 1 (some .int) ∈ wsL_law) (hfr : 1 ≤ R.frames) (hlo : (st.map fun v => v.category).sum + 13 ≤ R.locals) (hcs : cells ≤ R.cells ∧ slots ≤ R.slots) (d : decode cc pc = .ok (.invokestatic idx, 3))
    (kk : zW G nL p l e R s m args below meth c Q cells slots n f (pc + 3) lv (.int (if 0 ≤ x then x else 0 - x) :: st)) : zW G nL p l e R s m args below meth c Q cells slots n f pc lv (.int x :: st) :=
  fun H locs ls h hl => va_mabs C.1.1 C.1.2.1 (C.1.2.2.1.trans hl.1.symm) C.1.2.2.2.1 (C.1.2.2.2.2 _ hm) (C.1.2.2.2.2 _ h1) (C.1.2.2.2.2 _ h2) (C.1.2.2.2.2 _ h3) hfr hlo hcs.1 hcs.2 d (kk H locs ls h hl)
theorem zentI {y : MethodName} {b : ByteArray} {nLy : Nat} {ret : Option FieldType} {rm : Room} {av : List Value} {r : Int32} {n' : Nat} (hy : plainName y.cls = true) (hlen : (lg_sl av).length ≤ nLy)
    (body : ∀ (p : Program) (e : Env) (s : State) (m : MethodId) (args : Array Value) (below : List Frame) (meth : Method) (c : Code), zC G b nLy y.cls p s m args meth c → meth.sig.returnType = ret →
      zW G nLy p l e rm s m args below meth c (MQ below (va_Qi (fun x (_ : Unit) => x = r) (fun _ t => zok G n' f' t) (zA G)) args s rm.cells rm.slots (zA G)) 0 0 n f 0 (lv_args 0 av) []) : zMI G l y b nLy ret rm av n f r n' f' := by
  refine Met.ofW (cc := b) (maxL := nLy) (ret := ret) hy rfl ?_
  intro p e s m args below meth c s₁ B hml hP
  obtain ⟨rfl, ok⟩ := hP
  have hts : ∀ w ∈ wsL_law, w.before av.toArray s = true := fun w hw => atoms_spec (ws := zWs y b nLy ret) B.pre w (List.mem_cons_of_mem _ hw)
  have C : zC G b nLy y.cls p s m av.toArray meth c := ⟨⟨B.exec, B.bytes, hml, findClass_of_methodNamed B.named, hts⟩, ok.2.2.1, ok.2.2.2.1, ok.2.2.2.2, B.notSynchronized, by rw [ok.2.1]; exact Nat.le_add_right _ _⟩
  have hl := lv_entry av (n := nLy) hlen
  rw [lg_entry_eq]
  exact body p e s m av.toArray below meth c C B.returns s.heap [] _ ⟨ok.1, ok.2.1, va_S.rf⟩ hl
theorem zentL {y : MethodName} {b : ByteArray} {nLy : Nat} {ret : Option FieldType} {rm : Room} {av : List Value} {r : Int64} {n' : Nat} (hy : plainName y.cls = true) (hlen : (lg_sl av).length ≤ nLy)
    (body : ∀ (p : Program) (e : Env) (s : State) (m : MethodId) (args : Array Value) (below : List Frame) (meth : Method) (c : Code), zC G b nLy y.cls p s m args meth c → meth.sig.returnType = ret →
      zW G nLy p l e rm s m args below meth c (MQ below (va_Ql (fun x (_ : Unit) => x = r) (fun _ t => zok G n' f' t) (zA G)) args s rm.cells rm.slots (zA G)) 0 0 n f 0 (lv_args 0 av) []) : zML G l y b nLy ret rm av n f r n' f' := by
  refine Met.ofW (cc := b) (maxL := nLy) (ret := ret) hy rfl ?_
  intro p e s m args below meth c s₁ B hml hP
  obtain ⟨rfl, ok⟩ := hP
  have hts : ∀ w ∈ wsL_law, w.before av.toArray s = true := fun w hw => atoms_spec (ws := zWs y b nLy ret) B.pre w (List.mem_cons_of_mem _ hw)
  have C : zC G b nLy y.cls p s m av.toArray meth c := ⟨⟨B.exec, B.bytes, hml, findClass_of_methodNamed B.named, hts⟩, ok.2.2.1, ok.2.2.2.1, ok.2.2.2.2, B.notSynchronized, by rw [ok.2.1]; exact Nat.le_add_right _ _⟩
  have hl := lv_entry av (n := nLy) hlen
  rw [lg_entry_eq]
  exact body p e s m av.toArray below meth c C B.returns s.heap [] _ ⟨ok.1, ok.2.1, va_S.rf⟩ hl
theorem zentV {y : MethodName} {b : ByteArray} {nLy : Nat} {ret : Option FieldType} {rm : Room} {av : List Value} {n' : Nat} (hy : plainName y.cls = true) (hlen : (lg_sl av).length ≤ nLy)
    (body : ∀ (p : Program) (e : Env) (s : State) (m : MethodId) (args : Array Value) (below : List Frame) (meth : Method) (c : Code), zC G b nLy y.cls p s m args meth c → meth.sig.returnType = ret →
      zW G nLy p l e rm s m args below meth c (MQ below (va_Qv (fun (_ : Unit) => True) (fun _ t => zok G n' f' t) (zA G)) args s rm.cells rm.slots (zA G)) 0 0 n f 0 (lv_args 0 av) []) : zMV G l y b nLy ret rm av n f n' f' := by
  refine Met.ofW (cc := b) (maxL := nLy) (ret := ret) hy rfl ?_
  intro p e s m args below meth c s₁ B hml hP
  obtain ⟨rfl, ok⟩ := hP
  have hts : ∀ w ∈ wsL_law, w.before av.toArray s = true := fun w hw => atoms_spec (ws := zWs y b nLy ret) B.pre w (List.mem_cons_of_mem _ hw)
  have C : zC G b nLy y.cls p s m av.toArray meth c := ⟨⟨B.exec, B.bytes, hml, findClass_of_methodNamed B.named, hts⟩, ok.2.2.1, ok.2.2.2.1, ok.2.2.2.2, B.notSynchronized, by rw [ok.2.1]; exact Nat.le_add_right _ _⟩
  have hl := lv_entry av (n := nLy) hlen
  rw [lg_entry_eq]
  exact body p e s m av.toArray below meth c C B.returns s.heap [] _ ⟨ok.1, ok.2.1, va_S.rf⟩ hl
theorem zr_iret (C : zC G cc nL own p s m args meth c) (hr : meth.sig.returnType = some .int) {v r : Int32} {n' : Nat} (hv : v = r) (hn : n = n') (hf : f = f') (d : decode cc pc = .ok (.ireturn, 1)) : zW G nL p l e R s m args below meth c (MQ below (va_Qi (fun x (_ : Unit) => x = r) (fun _ t => zok G n' f' t) (zA G)) args s cells slots (zA G)) cells slots n f pc lv [.int v] := by
  subst hv; subst hn; subst hf
  intro H locs ls h hl
  exact W.iret C.1.1 C.1.2.1 hr (fun t ht hW => ⟨⟨v, (), rfl, rfl, zok_of C h ht hW⟩, h.2.2.F ht⟩) h.2.2.2.2 d C.2.2.2.2.1
theorem zr_lret (C : zC G cc nL own p s m args meth c) (hr : meth.sig.returnType = some .long) {v r : Int64} {n' : Nat} (hv : v = r) (hn : n = n') (hf : f = f') (d : decode cc pc = .ok (.lreturn, 1)) : zW G nL p l e R s m args below meth c (MQ below (va_Ql (fun x (_ : Unit) => x = r) (fun _ t => zok G n' f' t) (zA G)) args s cells slots (zA G)) cells slots n f pc lv [.long v] := by
  subst hv; subst hn; subst hf
  intro H locs ls h hl
  exact W.lret C.1.1 C.1.2.1 hr (fun t ht hW => ⟨⟨v, (), rfl, rfl, zok_of C h ht hW⟩, h.2.2.F ht⟩) h.2.2.2.2 d C.2.2.2.2.1
theorem zr_zret (C : zC G cc nL own p s m args meth c) {ty : FieldType} (hr : meth.sig.returnType = some ty) {v r : Int32} {n' : Nat} (hv : v = r) (hnr : narrow ty (.int v) = .int v) (hn : n = n') (hf : f = f') (d : decode cc pc = .ok (.ireturn, 1)) : zW G nL p l e R s m args below meth c (MQ below (va_Qi (fun x (_ : Unit) => x = r) (fun _ t => zok G n' f' t) (zA G)) args s cells slots (zA G)) cells slots n f pc lv [.int v] := by
  subst hv; subst hn; subst hf
  intro H locs ls h hl
  exact W.zret C.1.1 C.1.2.1 hr hnr (fun t ht hW => ⟨⟨v, (), rfl, rfl, zok_of C h ht hW⟩, h.2.2.F ht⟩) h.2.2.2.2 d C.2.2.2.2.1
theorem zr_vret (C : zC G cc nL own p s m args meth c) (hr : meth.sig.returnType = none) {n' : Nat} (hn : n = n') (hf : f = f') (d : decode cc pc = .ok (.return_, 1)) : zW G nL p l e R s m args below meth c (MQ below (va_Qv (fun (_ : Unit) => True) (fun _ t => zok G n' f' t) (zA G)) args s cells slots (zA G)) cells slots n f pc lv [] := by
  subst hn; subst hf
  intro H locs ls h hl
  exact W.vret C.1.1 C.1.2.1 hr (fun t ht hW => ⟨⟨(), rfl, trivial, zok_of C h ht hW⟩, h.2.2.F ht⟩) h.2.2.2.2 d C.2.2.2.2.1

end ZH
