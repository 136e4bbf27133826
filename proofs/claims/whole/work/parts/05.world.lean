/-! ===== the world: all cells of class and reference, at addresses behind one base; what a state of them is ===== -/
abbrev zG : Type := Nat × va_G × ClassId × ClassId × ClassId × ClassId × (Nat → Nat) × (Nat → Nat)
abbrev zS : Type := (Nat → Nat → Int32) × (Nat → Nat → Int64) × (Nat → Nat → Nat)
def zcl : List vw_C := [(RX0, TX0, 7), (RX1, TX1, 1), (RX2, TX2, 4), (RX3, TX3, 19), (RX4, TX4, 8), (RX5, TX5, 6), (RX6, TX6, 3), (RX7, TX7, 3), (RX8, TX8, 2), (RX9, TX9, 2), (RX10, TX10, 12), (RX11, TX11, 56)]
def ztf : List (Nat → FieldType) := [tyX0, tyX1, tyX2, tyX3, tyX4, tyX5, tyX6, tyX7, tyX8, tyX9, tyX10, tyX11]
def zty (G : zG) : List (ClassId × FieldType) := [(G.2.2.1, .int), (G.2.2.2.1, .byte), (G.2.2.2.2.1, .boolean), (G.2.2.2.2.2.1, .array .int)]
def zA (G : zG) : Nat → Prop := fun q => G.1 ≤ q
def zwl (B n : Nat) (f : Nat → va_E) : va_W := (List.range n).map (fun i => (B + i, f i))
theorem zwl_get {B n c : Nat} {f : Nat → va_E} (h : c < n) : (zwl B n f)[c]? = some (B + c, f c) := by
  unfold zwl
  rw [List.getElem?_map, List.getElem?_range h]
  rfl
theorem zwl_lt {B n c : Nat} {f : Nat → va_E} {q : Nat × va_E} (h : (zwl B n f)[c]? = some q) : c < n ∧ q = (B + c, f c) := by
  have h1 : c < n := by
    rcases Nat.lt_or_ge c n with h1 | h1
    · exact h1
    · rw [List.getElem?_eq_none (by unfold zwl; simpa using h1)] at h
      cases h
  rw [zwl_get h1] at h
  exact ⟨h1, (Option.some.inj h).symm⟩
theorem zwl_set {B n c : Nat} {f f' : Nat → va_E} {e : va_E} (h : c < n) (he : f' c = e) (ho : ∀ j, j ≠ c → f' j = f j) : (zwl B n f).set c (B + c, e) = zwl B n f' := by
  apply List.ext_getElem?
  intro k
  by_cases hk : k < n
  · by_cases hkc : k = c
    · subst hkc
      rw [List.getElem?_set_self (by unfold zwl; simpa using hk), zwl_get hk, he]
    · rw [List.getElem?_set_ne (Ne.symm hkc), zwl_get hk, zwl_get hk, ho k hkc]
  · rw [List.getElem?_eq_none (by rw [List.length_set]; unfold zwl; simpa using hk), List.getElem?_eq_none (by unfold zwl; simpa using hk)]
theorem zwl_D (G : zG) (n : Nat) (f : Nat → va_E) : va_D (zA G) (zwl G.1 n f) := by
  refine ⟨fun i j p q h1 h2 hpq => ?_, fun k q h => ?_⟩
  · obtain ⟨a1, rfl⟩ := zwl_lt h1
    obtain ⟨a2, rfl⟩ := zwl_lt h2
    exact Nat.add_left_cancel hpq
  · obtain ⟨a1, rfl⟩ := zwl_lt h
    exact Nat.le_add_right _ _
def zNest : List Cond := [.methodLinkNest RX10 9 yX8_init RX10, .methodLinkNest RX10 18 yX3_init RX10, .methodLinkNest RX10 37 yX1_init RX10, .methodLinkNest RX10 44 yX0_init RX10, .methodLinkNest RX10 51 yX9_init RX10, .methodLinkNest RX10 58 yX6_init RX10, .methodLinkNest RX10 65 yX2_init RX10, .methodLinkNest RX10 72 yX5_init RX10, .methodLinkNest RX10 79 yX7_init RX10, .methodLinkNest RX4 108 yX10_isEvent RX10, .methodLinkNest RX4 112 yX10_isOneOf RX10, .methodLinkNest RX10 224 yX0_canPlace RX10, .methodLinkNest RX0 40 yX10_isOneOf RX10, .methodLinkNest RX5 52 yX10_isOneOf RX10]
theorem zNest_ok : ∀ w ∈ zNest, ∃ a i x h, w = Cond.methodLinkNest a i x h := by
  intro w hw
  simp only [zNest, List.mem_cons, List.not_mem_nil, or_false] at hw
  rcases hw with rfl | rfl | rfl | rfl | rfl | rfl | rfl | rfl | rfl | rfl | rfl | rfl | rfl | rfl <;> exact ⟨_, _, _, _, rfl⟩
def zStr (G : zG) (U : State) (H : Heap) : Prop := vk_S 3 [4, 4, 3] [[108, 105, 110, 101], [108, 111, 111, 112], [101, 110, 100]] G.2.2.2.2.2.2.1 G.2.2.2.2.2.2.2 (zA G) U H ∧
  (vk_R RX4 48 "line" (G.2.2.2.2.2.2.1 0) U ∧ vk_R RX4 57 "loop" (G.2.2.2.2.2.2.1 1) U ∧ vk_R RX4 62 "end" (G.2.2.2.2.2.2.1 2) U) ∧
  va_Z "java/lang/String" "COMPACT_STRINGS" "Z" (.int 1) (zA G) U H ∧ va_Zq "jdk/internal/util/Preconditions" "SIOOBE_FORMATTER" "Ljava/util/function/BiFunction;" (zA G) U H
theorem zStr.moved {G : zG} {s U : State} {H H1 : Heap} (hW : s.WarmedH U.vm) (h : zStr G s H) (hq : ∀ a : Nat, a < H.size → ¬ zA G a → H1[a]? = H[a]?) : zStr G U H1 :=
  ⟨(h.1.moved hW.alike).kept hq, ⟨h.2.1.1.warm hW, h.2.1.2.1.warm hW, h.2.1.2.2.warm hW⟩, (h.2.2.1.moved hW.alike).kept hq, (h.2.2.2.moved hW.alike).kept hq⟩
theorem zStr.same {G : zG} {u U : State} {H : Heap} (hv : U.vm = u.vm) (h : zStr G u H) : zStr G U H := by
  have ha : u.vm.Alike U.vm := by rw [hv]; exact Vm.Alike.refl _
  exact ⟨h.1.moved ha, ⟨h.2.1.1.same hv, h.2.1.2.1.same hv, h.2.1.2.2.same hv⟩, h.2.2.1.moved ha, h.2.2.2.moved ha⟩
def zAO (U : State) : Prop := (Cond.arrayOver (.array .int)).before #[] U = true
theorem zAO.moved {s U : State} (hA : s.vm.Alike U.vm) (h : zAO s) : zAO U := by
  have h1 : (Cond.arrayOver (.array .int)).before #[] (s.setVm U.vm) = true := by rw [Cond.arrayOver_setVmC hA]; exact h
  exact h1
def zNs (U : State) : Prop := (∀ w ∈ zNest, va_Nw w U) ∧ zAO U
theorem zNs.warm {s U : State} (hW : s.WarmedH U.vm) (h : zNs s) : zNs U := by
  refine ⟨?_, h.2.moved hW.alike⟩
  intro w hw
  obtain ⟨a, i, x, hh, rfl⟩ := zNest_ok w hw
  exact va_Nw.warmM hW (h.1 _ hw)
theorem zNs.same {u U : State} (hv : u.vm = U.vm) (h : zNs u) : zNs U := by
  refine ⟨?_, h.2.moved (by rw [hv]; exact Vm.Alike.refl _)⟩
  intro w hw
  have h1 := h.1 w hw
  obtain ⟨a, i, x, hh, rfl⟩ := zNest_ok w hw
  exact va_Nw.same rfl hv h1
/-- the heap holds n cells behind the base, with these contents; the machine's tables are as they were -/
def zok (G : zG) (n : Nat) (f : Nat → va_E) (U : State) : Prop := va_P G.2.1 zcl (zwl G.1 n f) U.heap ∧ U.heap.size = G.1 + n ∧ va_K G.2.1 zcl (zty G) U ∧ zNs U ∧ zStr G U U.heap
theorem zok.blind {G : zG} {n : Nat} {f : Nat → va_E} {av : List Value} : FrameBlind (va_Pc av (zok G n f)) := fun a U g mk q =>
  ⟨q.1, q.2.1, q.2.2.1, va_K.moved (u := U) (U := U.calling g mk a) (Vm.Alike.refl U.vm) q.2.2.2.1, zNs.same (u := U) (U := U.calling g mk a) rfl q.2.2.2.2.1, zStr.same (u := U) (U := U.calling g mk a) rfl q.2.2.2.2.2⟩
def zC (G : zG) (cc : ByteArray) (nL : Nat) (own : String) (p : Program) (s : State) (m : MethodId) (args : Array Value) (meth : Method) (c : Code) : Prop :=
  CallFix p m c cc nL s args wsL_law own ∧ va_K G.2.1 zcl (zty G) s ∧ zNs s ∧ zStr G s s.heap ∧ meth.locks = false ∧ G.1 ≤ s.heap.size
def zH (G : zG) (n : Nat) (f : Nat → va_E) (s : State) (H : Heap) (locs : List Loc) : Prop := va_P G.2.1 zcl (zwl G.1 n f) H ∧ H.size = G.1 + n ∧ va_S (zA G) s.heap H locs
theorem zok_of {G : zG} {cc : ByteArray} {nL : Nat} {own : String} {p : Program} {s : State} {m : MethodId} {args : Array Value} {meth : Method} {c : Code} {n : Nat} {f : Nat → va_E} {H : Heap} {locs : List Loc} {U : State} (C : zC G cc nL own p s m args meth c) (h : zH G n f s H locs) (hU : U.heap = H) (hW : s.WarmedH U.vm) : zok G n f U := by
  obtain ⟨h1, h2, h3⟩ := h
  refine ⟨by rw [hU]; exact h1, by rw [hU]; exact h2, va_K.moved hW.alike C.2.1, C.2.2.1.warm hW, ?_⟩
  rw [hU]
  exact C.2.2.2.1.moved hW h3.2.1
section ZW
variable {G : zG} {cc : ByteArray} {nL : Nat} {own : String} {p : Program} {l : Launch} {e : Env} {R : Room} {s : State} {m : MethodId} {args : Array Value} {below : List Frame} {meth : Method} {c : Code} {cells slots : Nat} {Q : State → Prop}
/-- the machine stands at pc, with these locals and this stack, over these cells, and comes to Q -/
def zW (G : zG) (nL : Nat) (p : Program) (l : Launch) (e : Env) (R : Room) (s : State) (m : MethodId) (args : Array Value) (below : List Frame) (meth : Method) (c : Code) (Q : State → Prop) (cells slots n : Nat) (f : Nat → va_E) (pc : Nat) (lv : List (Nat × Value)) (st : List Value) : Prop :=
  ∀ (H : Heap) (locs : List Loc) (ls : Array Slot), zH G n f s H locs → lv_has ls nL lv → W p l e R s m args below meth c H locs cells slots Q (F0 m pc ls st)
variable {n : Nat} {f : Nat → va_E} {pc : Nat} {lv : List (Nat × Value)} {st : List Value}
theorem zr_iconst (C : zC G cc nL own p s m args meth c) {k : Int} {v : Int32} (d : decode cc pc = .ok (.iconst k, 1)) (hv : Int32.ofInt k = v) (kk : zW G nL p l e R s m args below meth c Q cells slots n f (pc + 1) lv (.int v :: st)) : zW G nL p l e R s m args below meth c Q cells slots n f pc lv st :=
  fun H locs ls h hl => lv_iconst C.1.1 C.1.2.1 d hv (kk H locs ls h hl)
theorem zr_bipush (C : zC G cc nL own p s m args meth c) {k : Int} {v : Int32} (d : decode cc pc = .ok (.bipush k, 2)) (hv : (Int8.ofInt k).toInt32 = v) (kk : zW G nL p l e R s m args below meth c Q cells slots n f (pc + 2) lv (.int v :: st)) : zW G nL p l e R s m args below meth c Q cells slots n f pc lv st :=
  fun H locs ls h hl => lv_bipush C.1.1 C.1.2.1 d hv (kk H locs ls h hl)
theorem zr_sipush (C : zC G cc nL own p s m args meth c) {k : Int} {v : Int32} (d : decode cc pc = .ok (.sipush k, 3)) (hv : (Int16.ofInt k).toInt32 = v) (kk : zW G nL p l e R s m args below meth c Q cells slots n f (pc + 3) lv (.int v :: st)) : zW G nL p l e R s m args below meth c Q cells slots n f pc lv st :=
  fun H locs ls h hl => lv_sipush C.1.1 C.1.2.1 d hv (kk H locs ls h hl)
theorem zr_lconst (C : zC G cc nL own p s m args meth c) {k : Fin 2} {v : Int64} (d : decode cc pc = .ok (.lconst k, 1)) (hv : Int64.ofNat (k : Nat) = v) (kk : zW G nL p l e R s m args below meth c Q cells slots n f (pc + 1) lv (.long v :: st)) : zW G nL p l e R s m args below meth c Q cells slots n f pc lv st :=
  fun H locs ls h hl => lv_lconst C.1.1 C.1.2.1 d hv (kk H locs ls h hl)
theorem zr_ldc (C : zC G cc nL own p s m args meth c) {k : Nat} {v : Int32} (d : decode cc pc = .ok (.ldc k, 2)) (hm : Cond.constant own k v ∈ wsL_law) (kk : zW G nL p l e R s m args below meth c Q cells slots n f (pc + 2) lv (.int v :: st)) : zW G nL p l e R s m args below meth c Q cells slots n f pc lv st :=
  fun H locs ls h hl => lv_ldc C.1.1 C.1.2.1 C.1.2.2.2.1 (C.1.2.2.2.2 _ hm) d (kk H locs ls h hl)
theorem zr_ldcw (C : zC G cc nL own p s m args meth c) {k : Nat} {v : Int32} (d : decode cc pc = .ok (.ldc_w k, 3)) (hm : Cond.constant own k v ∈ wsL_law) (kk : zW G nL p l e R s m args below meth c Q cells slots n f (pc + 3) lv (.int v :: st)) : zW G nL p l e R s m args below meth c Q cells slots n f pc lv st :=
  fun H locs ls h hl => lv_ldcw C.1.1 C.1.2.1 C.1.2.2.2.1 (C.1.2.2.2.2 _ hm) d (kk H locs ls h hl)
theorem zr_ldc2 (C : zC G cc nL own p s m args meth c) {k : Nat} {v : Int64} (d : decode cc pc = .ok (.ldc2_w k, 3)) (hm : Cond.constantLong own k v ∈ wsL_law) (kk : zW G nL p l e R s m args below meth c Q cells slots n f (pc + 3) lv (.long v :: st)) : zW G nL p l e R s m args below meth c Q cells slots n f pc lv st :=
  fun H locs ls h hl => lv_ldc2 C.1.1 C.1.2.1 C.1.2.2.2.1 (C.1.2.2.2.2 _ hm) d (kk H locs ls h hl)
theorem zr_iload_n (C : zC G cc nL own p s m args meth c) {k : Fin 4} {x : Int32} (j : Nat) (d : decode cc pc = .ok (.iload_n k, 1)) (hl0 : lv[j]? = some ((k : Nat), .int x)) (kk : zW G nL p l e R s m args below meth c Q cells slots n f (pc + 1) lv (.int x :: st)) : zW G nL p l e R s m args below meth c Q cells slots n f pc lv st :=
  fun H locs ls h hl => lv_iload_n C.1.1 C.1.2.1 d rfl (lv_at hl j hl0) (kk H locs ls h hl)
theorem zr_iload (C : zC G cc nL own p s m args meth c) {k : Nat} {x : Int32} (j : Nat) (d : decode cc pc = .ok (.iload k, 2)) (hl0 : lv[j]? = some (k, .int x)) (kk : zW G nL p l e R s m args below meth c Q cells slots n f (pc + 2) lv (.int x :: st)) : zW G nL p l e R s m args below meth c Q cells slots n f pc lv st :=
  fun H locs ls h hl => lv_iload C.1.1 C.1.2.1 d (lv_at hl j hl0) (kk H locs ls h hl)
theorem zr_lload_n (C : zC G cc nL own p s m args meth c) {k : Fin 4} {x : Int64} (j : Nat) (d : decode cc pc = .ok (.lload_n k, 1)) (hl0 : lv[j]? = some ((k : Nat), .long x)) (kk : zW G nL p l e R s m args below meth c Q cells slots n f (pc + 1) lv (.long x :: st)) : zW G nL p l e R s m args below meth c Q cells slots n f pc lv st :=
  fun H locs ls h hl => lv_lload_n C.1.1 C.1.2.1 d rfl (lv_at hl j hl0) (kk H locs ls h hl)
theorem zr_lload (C : zC G cc nL own p s m args meth c) {k : Nat} {x : Int64} (j : Nat) (d : decode cc pc = .ok (.lload k, 2)) (hl0 : lv[j]? = some (k, .long x)) (kk : zW G nL p l e R s m args below meth c Q cells slots n f (pc + 2) lv (.long x :: st)) : zW G nL p l e R s m args below meth c Q cells slots n f pc lv st :=
  fun H locs ls h hl => lv_lload C.1.1 C.1.2.1 d (lv_at hl j hl0) (kk H locs ls h hl)
theorem zr_aload_n (C : zC G cc nL own p s m args meth c) {k : Fin 4} {x : Nat} (j : Nat) (d : decode cc pc = .ok (.aload_n k, 1)) (hl0 : lv[j]? = some ((k : Nat), .ref x)) (kk : zW G nL p l e R s m args below meth c Q cells slots n f (pc + 1) lv (.ref x :: st)) : zW G nL p l e R s m args below meth c Q cells slots n f pc lv st :=
  fun H locs ls h hl => lv_aload_n C.1.1 C.1.2.1 d rfl (lv_at hl j hl0) (kk H locs ls h hl)
theorem zr_aload (C : zC G cc nL own p s m args meth c) {k : Nat} {x : Nat} (j : Nat) (d : decode cc pc = .ok (.aload k, 2)) (hl0 : lv[j]? = some (k, .ref x)) (kk : zW G nL p l e R s m args below meth c Q cells slots n f (pc + 2) lv (.ref x :: st)) : zW G nL p l e R s m args below meth c Q cells slots n f pc lv st :=
  fun H locs ls h hl => lv_aload C.1.1 C.1.2.1 d (lv_at hl j hl0) (kk H locs ls h hl)
/-- storing: the new list of locals is what the old one is but for place i -/
theorem zr_istore_n (C : zC G cc nL own p s m args meth c) {k : Fin 4} {x : Int32} (lv' : List (Nat × Value)) (d : decode cc pc = .ok (.istore_n k, 1)) (hn : (k : Nat) < nL) (hl0 : ((k : Nat), Value.int x) :: lv.filter (fun q => !(q.1 == (k : Nat)) && !(q.1 + 1 == (k : Nat) && q.2.category == 2)) = lv') (kk : zW G nL p l e R s m args below meth c Q cells slots n f (pc + 1) lv' st) : zW G nL p l e R s m args below meth c Q cells slots n f pc lv (.int x :: st) :=
  fun H locs ls h hl => lv_istore_n C.1.1 C.1.2.1 d rfl hl hn hl0 (fun ls' hl' => kk H locs ls' h hl')
theorem zr_istore (C : zC G cc nL own p s m args meth c) {k : Nat} {x : Int32} (lv' : List (Nat × Value)) (d : decode cc pc = .ok (.istore k, 2)) (hn : k < nL) (hl0 : (k, Value.int x) :: lv.filter (fun q => !(q.1 == k) && !(q.1 + 1 == k && q.2.category == 2)) = lv') (kk : zW G nL p l e R s m args below meth c Q cells slots n f (pc + 2) lv' st) : zW G nL p l e R s m args below meth c Q cells slots n f pc lv (.int x :: st) :=
  fun H locs ls h hl => lv_istore C.1.1 C.1.2.1 d hl hn hl0 (fun ls' hl' => kk H locs ls' h hl')
theorem zr_lstore_n (C : zC G cc nL own p s m args meth c) {k : Fin 4} {x : Int64} (lv' : List (Nat × Value)) (d : decode cc pc = .ok (.lstore_n k, 1)) (hn : (k : Nat) + 1 < nL) (hl0 : ((k : Nat), Value.long x) :: lv.filter (fun q => !(q.1 == (k : Nat)) && (!(q.1 == (k : Nat) + 1) && !(q.1 + 1 == (k : Nat) && q.2.category == 2))) = lv') (kk : zW G nL p l e R s m args below meth c Q cells slots n f (pc + 1) lv' st) : zW G nL p l e R s m args below meth c Q cells slots n f pc lv (.long x :: st) :=
  fun H locs ls h hl => lv_lstore_n C.1.1 C.1.2.1 d rfl hl hn hl0 (fun ls' hl' => kk H locs ls' h hl')
theorem zr_lstore (C : zC G cc nL own p s m args meth c) {k : Nat} {x : Int64} (lv' : List (Nat × Value)) (d : decode cc pc = .ok (.lstore k, 2)) (hn : k + 1 < nL) (hl0 : (k, Value.long x) :: lv.filter (fun q => !(q.1 == k) && (!(q.1 == k + 1) && !(q.1 + 1 == k && q.2.category == 2))) = lv') (kk : zW G nL p l e R s m args below meth c Q cells slots n f (pc + 2) lv' st) : zW G nL p l e R s m args below meth c Q cells slots n f pc lv (.long x :: st) :=
  fun H locs ls h hl => lv_lstore C.1.1 C.1.2.1 d hl hn hl0 (fun ls' hl' => kk H locs ls' h hl')
theorem zr_astore_n (C : zC G cc nL own p s m args meth c) {k : Fin 4} {x : Nat} (lv' : List (Nat × Value)) (d : decode cc pc = .ok (.astore_n k, 1)) (hn : (k : Nat) < nL) (hl0 : ((k : Nat), Value.ref x) :: lv.filter (fun q => !(q.1 == (k : Nat)) && !(q.1 + 1 == (k : Nat) && q.2.category == 2)) = lv') (kk : zW G nL p l e R s m args below meth c Q cells slots n f (pc + 1) lv' st) : zW G nL p l e R s m args below meth c Q cells slots n f pc lv (.ref x :: st) :=
  fun H locs ls h hl => lv_astore_n C.1.1 C.1.2.1 d rfl hl hn hl0 (fun ls' hl' => kk H locs ls' h hl')
theorem zr_iinc (C : zC G cc nL own p s m args meth c) {i : Nat} {k : Int} {x : Int32} (v : Int32) (j : Nat) (lv' : List (Nat × Value)) (d : decode cc pc = .ok (.iinc i k, 3)) (hk : lv[j]? = some (i, .int x)) (hv : v = x + Int32.ofInt k) (hn : i < nL) (hl0 : (i, Value.int v) :: lv.filter (fun q => !(q.1 == i) && !(q.1 + 1 == i && q.2.category == 2)) = lv') (kk : zW G nL p l e R s m args below meth c Q cells slots n f (pc + 3) lv' st) : zW G nL p l e R s m args below meth c Q cells slots n f pc lv st :=
  fun H locs ls h hl => lv_iinc C.1.1 C.1.2.1 d hl hk hv.symm hn hl0 (fun ls' hl' => kk H locs ls' h hl')
/-- fewer locals, in another order, by their places -/
theorem zr_sub (ks : List Nat) (lv' : List (Nat × Value)) (h0 : lv_pick lv ks = lv') (kk : zW G nL p l e R s m args below meth c Q cells slots n f pc lv' st) : zW G nL p l e R s m args below meth c Q cells slots n f pc lv st :=
  fun H locs ls h hl => kk H locs ls h (lv_sub hl ks h0)
theorem zr_iadd (C : zC G cc nL own p s m args meth c) {x y : Int32} (d : decode cc pc = .ok (.iadd, 1)) (kk : zW G nL p l e R s m args below meth c Q cells slots n f (pc + 1) lv (.int (x + y) :: st)) : zW G nL p l e R s m args below meth c Q cells slots n f pc lv (.int y :: .int x :: st) :=
  fun H locs ls h hl => lv_iadd C.1.1 C.1.2.1 d (kk H locs ls h hl)
theorem zr_isub (C : zC G cc nL own p s m args meth c) {x y : Int32} (d : decode cc pc = .ok (.isub, 1)) (kk : zW G nL p l e R s m args below meth c Q cells slots n f (pc + 1) lv (.int (x - y) :: st)) : zW G nL p l e R s m args below meth c Q cells slots n f pc lv (.int y :: .int x :: st) :=
  fun H locs ls h hl => lv_isub C.1.1 C.1.2.1 d (kk H locs ls h hl)
theorem zr_imul (C : zC G cc nL own p s m args meth c) {x y : Int32} (d : decode cc pc = .ok (.imul, 1)) (kk : zW G nL p l e R s m args below meth c Q cells slots n f (pc + 1) lv (.int (x * y) :: st)) : zW G nL p l e R s m args below meth c Q cells slots n f pc lv (.int y :: .int x :: st) :=
  fun H locs ls h hl => lv_imul C.1.1 C.1.2.1 d (kk H locs ls h hl)
theorem zr_iand (C : zC G cc nL own p s m args meth c) {x y : Int32} (d : decode cc pc = .ok (.iand, 1)) (kk : zW G nL p l e R s m args below meth c Q cells slots n f (pc + 1) lv (.int (x &&& y) :: st)) : zW G nL p l e R s m args below meth c Q cells slots n f pc lv (.int y :: .int x :: st) :=
  fun H locs ls h hl => lv_iand C.1.1 C.1.2.1 d (kk H locs ls h hl)
theorem zr_ior (C : zC G cc nL own p s m args meth c) {x y : Int32} (d : decode cc pc = .ok (.ior, 1)) (kk : zW G nL p l e R s m args below meth c Q cells slots n f (pc + 1) lv (.int (x ||| y) :: st)) : zW G nL p l e R s m args below meth c Q cells slots n f pc lv (.int y :: .int x :: st) :=
  fun H locs ls h hl => lv_ior C.1.1 C.1.2.1 d (kk H locs ls h hl)
theorem zr_ixor (C : zC G cc nL own p s m args meth c) {x y : Int32} (d : decode cc pc = .ok (.ixor, 1)) (kk : zW G nL p l e R s m args below meth c Q cells slots n f (pc + 1) lv (.int (x ^^^ y) :: st)) : zW G nL p l e R s m args below meth c Q cells slots n f pc lv (.int y :: .int x :: st) :=
  fun H locs ls h hl => lv_ixor C.1.1 C.1.2.1 d (kk H locs ls h hl)
theorem zr_ishl (C : zC G cc nL own p s m args meth c) {x y : Int32} (d : decode cc pc = .ok (.ishl, 1)) (kk : zW G nL p l e R s m args below meth c Q cells slots n f (pc + 1) lv (.int (x <<< (y &&& 31)) :: st)) : zW G nL p l e R s m args below meth c Q cells slots n f pc lv (.int y :: .int x :: st) :=
  fun H locs ls h hl => lv_ishl C.1.1 C.1.2.1 d (kk H locs ls h hl)
theorem zr_ishr (C : zC G cc nL own p s m args meth c) {x y : Int32} (d : decode cc pc = .ok (.ishr, 1)) (kk : zW G nL p l e R s m args below meth c Q cells slots n f (pc + 1) lv (.int (x >>> (y &&& 31)) :: st)) : zW G nL p l e R s m args below meth c Q cells slots n f pc lv (.int y :: .int x :: st) :=
  fun H locs ls h hl => lv_ishr C.1.1 C.1.2.1 d (kk H locs ls h hl)
theorem zr_ladd (C : zC G cc nL own p s m args meth c) {x y : Int64} (d : decode cc pc = .ok (.ladd, 1)) (kk : zW G nL p l e R s m args below meth c Q cells slots n f (pc + 1) lv (.long (x + y) :: st)) : zW G nL p l e R s m args below meth c Q cells slots n f pc lv (.long y :: .long x :: st) :=
  fun H locs ls h hl => lv_ladd C.1.1 C.1.2.1 d (kk H locs ls h hl)
theorem zr_lsub (C : zC G cc nL own p s m args meth c) {x y : Int64} (d : decode cc pc = .ok (.lsub, 1)) (kk : zW G nL p l e R s m args below meth c Q cells slots n f (pc + 1) lv (.long (x - y) :: st)) : zW G nL p l e R s m args below meth c Q cells slots n f pc lv (.long y :: .long x :: st) :=
  fun H locs ls h hl => lv_lsub C.1.1 C.1.2.1 d (kk H locs ls h hl)
theorem zr_lmul (C : zC G cc nL own p s m args meth c) {x y : Int64} (d : decode cc pc = .ok (.lmul, 1)) (kk : zW G nL p l e R s m args below meth c Q cells slots n f (pc + 1) lv (.long (x * y) :: st)) : zW G nL p l e R s m args below meth c Q cells slots n f pc lv (.long y :: .long x :: st) :=
  fun H locs ls h hl => lv_lmul C.1.1 C.1.2.1 d (kk H locs ls h hl)
theorem zr_land (C : zC G cc nL own p s m args meth c) {x y : Int64} (d : decode cc pc = .ok (.land, 1)) (kk : zW G nL p l e R s m args below meth c Q cells slots n f (pc + 1) lv (.long (x &&& y) :: st)) : zW G nL p l e R s m args below meth c Q cells slots n f pc lv (.long y :: .long x :: st) :=
  fun H locs ls h hl => lv_land C.1.1 C.1.2.1 d (kk H locs ls h hl)
theorem zr_lor (C : zC G cc nL own p s m args meth c) {x y : Int64} (d : decode cc pc = .ok (.lor, 1)) (kk : zW G nL p l e R s m args below meth c Q cells slots n f (pc + 1) lv (.long (x ||| y) :: st)) : zW G nL p l e R s m args below meth c Q cells slots n f pc lv (.long y :: .long x :: st) :=
  fun H locs ls h hl => lv_lor C.1.1 C.1.2.1 d (kk H locs ls h hl)
theorem zr_lxor (C : zC G cc nL own p s m args meth c) {x y : Int64} (d : decode cc pc = .ok (.lxor, 1)) (kk : zW G nL p l e R s m args below meth c Q cells slots n f (pc + 1) lv (.long (x ^^^ y) :: st)) : zW G nL p l e R s m args below meth c Q cells slots n f pc lv (.long y :: .long x :: st) :=
  fun H locs ls h hl => lv_lxor C.1.1 C.1.2.1 d (kk H locs ls h hl)
theorem zr_idiv (C : zC G cc nL own p s m args meth c) {x y : Int32} (d : decode cc pc = .ok (.idiv, 1)) (hne : ¬ y = 0) (kk : zW G nL p l e R s m args below meth c Q cells slots n f (pc + 1) lv (.int (x / y) :: st)) : zW G nL p l e R s m args below meth c Q cells slots n f pc lv (.int y :: .int x :: st) :=
  fun H locs ls h hl => lv_idiv C.1.1 C.1.2.1 d hne (kk H locs ls h hl)
theorem zr_irem (C : zC G cc nL own p s m args meth c) {x y : Int32} (d : decode cc pc = .ok (.irem, 1)) (hne : ¬ y = 0) (kk : zW G nL p l e R s m args below meth c Q cells slots n f (pc + 1) lv (.int (x - x / y * y) :: st)) : zW G nL p l e R s m args below meth c Q cells slots n f pc lv (.int y :: .int x :: st) :=
  fun H locs ls h hl => lv_irem C.1.1 C.1.2.1 d hne (kk H locs ls h hl)
theorem zr_ldiv (C : zC G cc nL own p s m args meth c) {x y : Int64} (d : decode cc pc = .ok (.ldiv, 1)) (hne : ¬ y = 0) (kk : zW G nL p l e R s m args below meth c Q cells slots n f (pc + 1) lv (.long (x / y) :: st)) : zW G nL p l e R s m args below meth c Q cells slots n f pc lv (.long y :: .long x :: st) :=
  fun H locs ls h hl => lv_ldiv C.1.1 C.1.2.1 d hne (kk H locs ls h hl)
theorem zr_lrem (C : zC G cc nL own p s m args meth c) {x y : Int64} (d : decode cc pc = .ok (.lrem, 1)) (hne : ¬ y = 0) (kk : zW G nL p l e R s m args below meth c Q cells slots n f (pc + 1) lv (.long (x - x / y * y) :: st)) : zW G nL p l e R s m args below meth c Q cells slots n f pc lv (.long y :: .long x :: st) :=
  fun H locs ls h hl => lv_lrem C.1.1 C.1.2.1 d hne (kk H locs ls h hl)
theorem zr_ineg (C : zC G cc nL own p s m args meth c) {x : Int32} (d : decode cc pc = .ok (.ineg, 1)) (kk : zW G nL p l e R s m args below meth c Q cells slots n f (pc + 1) lv (.int (-x) :: st)) : zW G nL p l e R s m args below meth c Q cells slots n f pc lv (.int x :: st) :=
  fun H locs ls h hl => lv_ineg C.1.1 C.1.2.1 d (kk H locs ls h hl)
theorem zr_lneg (C : zC G cc nL own p s m args meth c) {x : Int64} (d : decode cc pc = .ok (.lneg, 1)) (kk : zW G nL p l e R s m args below meth c Q cells slots n f (pc + 1) lv (.long (-x) :: st)) : zW G nL p l e R s m args below meth c Q cells slots n f pc lv (.long x :: st) :=
  fun H locs ls h hl => lv_lneg C.1.1 C.1.2.1 d (kk H locs ls h hl)
theorem zr_i2l (C : zC G cc nL own p s m args meth c) {x : Int32} (d : decode cc pc = .ok (.i2l, 1)) (kk : zW G nL p l e R s m args below meth c Q cells slots n f (pc + 1) lv (.long x.toInt64 :: st)) : zW G nL p l e R s m args below meth c Q cells slots n f pc lv (.int x :: st) :=
  fun H locs ls h hl => lv_i2l C.1.1 C.1.2.1 d rfl (kk H locs ls h hl)
theorem zr_l2i (C : zC G cc nL own p s m args meth c) {x : Int64} (d : decode cc pc = .ok (.l2i, 1)) (kk : zW G nL p l e R s m args below meth c Q cells slots n f (pc + 1) lv (.int x.toInt32 :: st)) : zW G nL p l e R s m args below meth c Q cells slots n f pc lv (.long x :: st) :=
  fun H locs ls h hl => lv_l2i C.1.1 C.1.2.1 d rfl (kk H locs ls h hl)
theorem zr_i2b (C : zC G cc nL own p s m args meth c) {x : Int32} (d : decode cc pc = .ok (.i2b, 1)) (kk : zW G nL p l e R s m args below meth c Q cells slots n f (pc + 1) lv (.int x.toInt8.toInt32 :: st)) : zW G nL p l e R s m args below meth c Q cells slots n f pc lv (.int x :: st) :=
  fun H locs ls h hl => lv_i2b C.1.1 C.1.2.1 d rfl (kk H locs ls h hl)
theorem zr_i2s (C : zC G cc nL own p s m args meth c) {x : Int32} (d : decode cc pc = .ok (.i2s, 1)) (kk : zW G nL p l e R s m args below meth c Q cells slots n f (pc + 1) lv (.int x.toInt16.toInt32 :: st)) : zW G nL p l e R s m args below meth c Q cells slots n f pc lv (.int x :: st) :=
  fun H locs ls h hl => lv_i2s C.1.1 C.1.2.1 d rfl (kk H locs ls h hl)
theorem zr_i2c (C : zC G cc nL own p s m args meth c) {x : Int32} (d : decode cc pc = .ok (.i2c, 1)) (kk : zW G nL p l e R s m args below meth c Q cells slots n f (pc + 1) lv (.int (x.toUInt32 % 65536).toInt32 :: st)) : zW G nL p l e R s m args below meth c Q cells slots n f pc lv (.int x :: st) :=
  fun H locs ls h hl => lv_i2c C.1.1 C.1.2.1 d rfl (kk H locs ls h hl)
theorem zr_iushr (C : zC G cc nL own p s m args meth c) {x y : Int32} (d : decode cc pc = .ok (.iushr, 1)) (kk : zW G nL p l e R s m args below meth c Q cells slots n f (pc + 1) lv (.int (x.toUInt32 >>> (y.toUInt32 &&& Int32.toUInt32 31)).toInt32 :: st)) : zW G nL p l e R s m args below meth c Q cells slots n f pc lv (.int y :: .int x :: st) :=
  fun H locs ls h hl => lv_iushr C.1.1 C.1.2.1 d rfl (kk H locs ls h hl)
theorem zr_lshl (C : zC G cc nL own p s m args meth c) {x : Int64} {y : Int32} (d : decode cc pc = .ok (.lshl, 1)) (kk : zW G nL p l e R s m args below meth c Q cells slots n f (pc + 1) lv (.long (x <<< (y.toInt64 &&& 63)) :: st)) : zW G nL p l e R s m args below meth c Q cells slots n f pc lv (.int y :: .long x :: st) :=
  fun H locs ls h hl => lv_lshl C.1.1 C.1.2.1 d rfl (kk H locs ls h hl)
theorem zr_lshr (C : zC G cc nL own p s m args meth c) {x : Int64} {y : Int32} (d : decode cc pc = .ok (.lshr, 1)) (kk : zW G nL p l e R s m args below meth c Q cells slots n f (pc + 1) lv (.long (x >>> (y.toInt64 &&& 63)) :: st)) : zW G nL p l e R s m args below meth c Q cells slots n f pc lv (.int y :: .long x :: st) :=
  fun H locs ls h hl => lv_lshr C.1.1 C.1.2.1 d rfl (kk H locs ls h hl)
theorem zr_lcmp (C : zC G cc nL own p s m args meth c) {x y : Int64} (d : decode cc pc = .ok (.lcmp, 1)) (kk : zW G nL p l e R s m args below meth c Q cells slots n f (pc + 1) lv (.int (lg_cmp x y) :: st)) : zW G nL p l e R s m args below meth c Q cells slots n f pc lv (.long y :: .long x :: st) :=
  fun H locs ls h hl => W.lcmp C.1.1 C.1.2.1 d (kk H locs ls h hl)
theorem zr_goto (C : zC G cc nL own p s m args meth c) {off : Int} (tgt : Nat) (d : decode cc pc = .ok (.goto off, 3)) (ht : (pc : Int) + off = (tgt : Int)) (kk : zW G nL p l e R s m args below meth c Q cells slots n f tgt lv st) : zW G nL p l e R s m args below meth c Q cells slots n f pc lv st :=
  fun H locs ls h hl => lv_goto C.1.1 C.1.2.1 d ht (kk H locs ls h hl)
theorem zr_dup (C : zC G cc nL own p s m args meth c) {v : Value} (d : decode cc pc = .ok (.dup, 1)) (hv : v.category = 1) (kk : zW G nL p l e R s m args below meth c Q cells slots n f (pc + 1) lv (v :: v :: st)) : zW G nL p l e R s m args below meth c Q cells slots n f pc lv (v :: st) :=
  fun H locs ls h hl => lv_dup C.1.1 C.1.2.1 d hv (kk H locs ls h hl)
theorem zr_pop (C : zC G cc nL own p s m args meth c) {v : Value} (d : decode cc pc = .ok (.pop, 1)) (hv : v.category = 1) (kk : zW G nL p l e R s m args below meth c Q cells slots n f (pc + 1) lv st) : zW G nL p l e R s m args below meth c Q cells slots n f pc lv (v :: st) :=
  fun H locs ls h hl => lv_pop C.1.1 C.1.2.1 d hv (kk H locs ls h hl)
theorem zr_dup2 (C : zC G cc nL own p s m args meth c) {v w : Value} (d : decode cc pc = .ok (.dup2, 1)) (hv : v.category = 1) (hw : w.category = 1) (kk : zW G nL p l e R s m args below meth c Q cells slots n f (pc + 1) lv (v :: w :: v :: w :: st)) : zW G nL p l e R s m args below meth c Q cells slots n f pc lv (v :: w :: st) :=
  fun H locs ls h hl => lv_dup2_11 C.1.1 C.1.2.1 d hv hw (kk H locs ls h hl)
theorem zr_if_eq (C : zC G cc nL own p s m args meth c) {x : Int32} {off : Int} (tgt : Nat) (d : decode cc pc = .ok (.ifCond .eq off, 3)) (ht : (pc : Int) + off = (tgt : Int)) (kt : x = 0 → zW G nL p l e R s m args below meth c Q cells slots n f tgt lv st) (kf : ¬ x = 0 → zW G nL p l e R s m args below meth c Q cells slots n f (pc + 3) lv st) : zW G nL p l e R s m args below meth c Q cells slots n f pc lv (.int x :: st) :=
  fun H locs ls h hl => lv_if_eq C.1.1 C.1.2.1 d ht (fun q => kt q H locs ls h hl) (fun q => kf q H locs ls h hl)
theorem zr_icmp_eq (C : zC G cc nL own p s m args meth c) {x y : Int32} {off : Int} (tgt : Nat) (d : decode cc pc = .ok (.if_icmp .eq off, 3)) (ht : (pc : Int) + off = (tgt : Int)) (kt : x = y → zW G nL p l e R s m args below meth c Q cells slots n f tgt lv st) (kf : ¬ x = y → zW G nL p l e R s m args below meth c Q cells slots n f (pc + 3) lv st) : zW G nL p l e R s m args below meth c Q cells slots n f pc lv (.int y :: .int x :: st) :=
  fun H locs ls h hl => lv_icmp_eq C.1.1 C.1.2.1 d ht (fun q => kt q H locs ls h hl) (fun q => kf q H locs ls h hl)
theorem zr_if_ne (C : zC G cc nL own p s m args meth c) {x : Int32} {off : Int} (tgt : Nat) (d : decode cc pc = .ok (.ifCond .ne off, 3)) (ht : (pc : Int) + off = (tgt : Int)) (kt : ¬ x = 0 → zW G nL p l e R s m args below meth c Q cells slots n f tgt lv st) (kf : x = 0 → zW G nL p l e R s m args below meth c Q cells slots n f (pc + 3) lv st) : zW G nL p l e R s m args below meth c Q cells slots n f pc lv (.int x :: st) :=
  fun H locs ls h hl => lv_if_ne C.1.1 C.1.2.1 d ht (fun q => kt q H locs ls h hl) (fun q => kf q H locs ls h hl)
theorem zr_icmp_ne (C : zC G cc nL own p s m args meth c) {x y : Int32} {off : Int} (tgt : Nat) (d : decode cc pc = .ok (.if_icmp .ne off, 3)) (ht : (pc : Int) + off = (tgt : Int)) (kt : ¬ x = y → zW G nL p l e R s m args below meth c Q cells slots n f tgt lv st) (kf : x = y → zW G nL p l e R s m args below meth c Q cells slots n f (pc + 3) lv st) : zW G nL p l e R s m args below meth c Q cells slots n f pc lv (.int y :: .int x :: st) :=
  fun H locs ls h hl => lv_icmp_ne C.1.1 C.1.2.1 d ht (fun q => kt q H locs ls h hl) (fun q => kf q H locs ls h hl)
theorem zr_if_lt (C : zC G cc nL own p s m args meth c) {x : Int32} {off : Int} (tgt : Nat) (d : decode cc pc = .ok (.ifCond .lt off, 3)) (ht : (pc : Int) + off = (tgt : Int)) (kt : x < 0 → zW G nL p l e R s m args below meth c Q cells slots n f tgt lv st) (kf : ¬ x < 0 → zW G nL p l e R s m args below meth c Q cells slots n f (pc + 3) lv st) : zW G nL p l e R s m args below meth c Q cells slots n f pc lv (.int x :: st) :=
  fun H locs ls h hl => lv_if_lt C.1.1 C.1.2.1 d ht (fun q => kt q H locs ls h hl) (fun q => kf q H locs ls h hl)
theorem zr_icmp_lt (C : zC G cc nL own p s m args meth c) {x y : Int32} {off : Int} (tgt : Nat) (d : decode cc pc = .ok (.if_icmp .lt off, 3)) (ht : (pc : Int) + off = (tgt : Int)) (kt : x < y → zW G nL p l e R s m args below meth c Q cells slots n f tgt lv st) (kf : ¬ x < y → zW G nL p l e R s m args below meth c Q cells slots n f (pc + 3) lv st) : zW G nL p l e R s m args below meth c Q cells slots n f pc lv (.int y :: .int x :: st) :=
  fun H locs ls h hl => lv_icmp_lt C.1.1 C.1.2.1 d ht (fun q => kt q H locs ls h hl) (fun q => kf q H locs ls h hl)
theorem zr_if_ge (C : zC G cc nL own p s m args meth c) {x : Int32} {off : Int} (tgt : Nat) (d : decode cc pc = .ok (.ifCond .ge off, 3)) (ht : (pc : Int) + off = (tgt : Int)) (kt : 0 ≤ x → zW G nL p l e R s m args below meth c Q cells slots n f tgt lv st) (kf : ¬ 0 ≤ x → zW G nL p l e R s m args below meth c Q cells slots n f (pc + 3) lv st) : zW G nL p l e R s m args below meth c Q cells slots n f pc lv (.int x :: st) :=
  fun H locs ls h hl => lv_if_ge C.1.1 C.1.2.1 d ht (fun q => kt q H locs ls h hl) (fun q => kf q H locs ls h hl)
theorem zr_icmp_ge (C : zC G cc nL own p s m args meth c) {x y : Int32} {off : Int} (tgt : Nat) (d : decode cc pc = .ok (.if_icmp .ge off, 3)) (ht : (pc : Int) + off = (tgt : Int)) (kt : y ≤ x → zW G nL p l e R s m args below meth c Q cells slots n f tgt lv st) (kf : ¬ y ≤ x → zW G nL p l e R s m args below meth c Q cells slots n f (pc + 3) lv st) : zW G nL p l e R s m args below meth c Q cells slots n f pc lv (.int y :: .int x :: st) :=
  fun H locs ls h hl => lv_icmp_ge C.1.1 C.1.2.1 d ht (fun q => kt q H locs ls h hl) (fun q => kf q H locs ls h hl)
theorem zr_if_gt (C : zC G cc nL own p s m args meth c) {x : Int32} {off : Int} (tgt : Nat) (d : decode cc pc = .ok (.ifCond .gt off, 3)) (ht : (pc : Int) + off = (tgt : Int)) (kt : 0 < x → zW G nL p l e R s m args below meth c Q cells slots n f tgt lv st) (kf : ¬ 0 < x → zW G nL p l e R s m args below meth c Q cells slots n f (pc + 3) lv st) : zW G nL p l e R s m args below meth c Q cells slots n f pc lv (.int x :: st) :=
  fun H locs ls h hl => lv_if_gt C.1.1 C.1.2.1 d ht (fun q => kt q H locs ls h hl) (fun q => kf q H locs ls h hl)
theorem zr_icmp_gt (C : zC G cc nL own p s m args meth c) {x y : Int32} {off : Int} (tgt : Nat) (d : decode cc pc = .ok (.if_icmp .gt off, 3)) (ht : (pc : Int) + off = (tgt : Int)) (kt : y < x → zW G nL p l e R s m args below meth c Q cells slots n f tgt lv st) (kf : ¬ y < x → zW G nL p l e R s m args below meth c Q cells slots n f (pc + 3) lv st) : zW G nL p l e R s m args below meth c Q cells slots n f pc lv (.int y :: .int x :: st) :=
  fun H locs ls h hl => lv_icmp_gt C.1.1 C.1.2.1 d ht (fun q => kt q H locs ls h hl) (fun q => kf q H locs ls h hl)
theorem zr_if_le (C : zC G cc nL own p s m args meth c) {x : Int32} {off : Int} (tgt : Nat) (d : decode cc pc = .ok (.ifCond .le off, 3)) (ht : (pc : Int) + off = (tgt : Int)) (kt : x ≤ 0 → zW G nL p l e R s m args below meth c Q cells slots n f tgt lv st) (kf : ¬ x ≤ 0 → zW G nL p l e R s m args below meth c Q cells slots n f (pc + 3) lv st) : zW G nL p l e R s m args below meth c Q cells slots n f pc lv (.int x :: st) :=
  fun H locs ls h hl => lv_if_le C.1.1 C.1.2.1 d ht (fun q => kt q H locs ls h hl) (fun q => kf q H locs ls h hl)
theorem zr_icmp_le (C : zC G cc nL own p s m args meth c) {x y : Int32} {off : Int} (tgt : Nat) (d : decode cc pc = .ok (.if_icmp .le off, 3)) (ht : (pc : Int) + off = (tgt : Int)) (kt : x ≤ y → zW G nL p l e R s m args below meth c Q cells slots n f tgt lv st) (kf : ¬ x ≤ y → zW G nL p l e R s m args below meth c Q cells slots n f (pc + 3) lv st) : zW G nL p l e R s m args below meth c Q cells slots n f pc lv (.int y :: .int x :: st) :=
  fun H locs ls h hl => lv_icmp_le C.1.1 C.1.2.1 d ht (fun q => kt q H locs ls h hl) (fun q => kf q H locs ls h hl)
theorem zr_tin (C : zC G cc nL own p s m args meth c) {dflt lo hi : Int} {offs : Array Int} {len : Nat} {x : Int32} {off : Int} (tgt : Nat) (d : decode cc pc = .ok (.tableswitch dflt lo hi offs, len)) (h1 : ¬ x.toInt < lo) (h2 : ¬ hi < x.toInt) (ho : offs[(x.toInt - lo).toNat]? = some off) (ht : (pc : Int) + off = (tgt : Int)) (kk : zW G nL p l e R s m args below meth c Q cells slots n f tgt lv st) : zW G nL p l e R s m args below meth c Q cells slots n f pc lv (.int x :: st) :=
  fun H locs ls h hl => lv_tableIn C.1.1 C.1.2.1 d h1 h2 ho ht (kk H locs ls h hl)
theorem zr_tout (C : zC G cc nL own p s m args meth c) {dflt lo hi : Int} {offs : Array Int} {len : Nat} {x : Int32} (tgt : Nat) (d : decode cc pc = .ok (.tableswitch dflt lo hi offs, len)) (h1 : x.toInt < lo ∨ hi < x.toInt) (ht : (pc : Int) + dflt = (tgt : Int)) (kk : zW G nL p l e R s m args below meth c Q cells slots n f tgt lv st) : zW G nL p l e R s m args below meth c Q cells slots n f pc lv (.int x :: st) :=
  fun H locs ls h hl => lv_tableOut C.1.1 C.1.2.1 d h1 ht (kk H locs ls h hl)
end ZW
