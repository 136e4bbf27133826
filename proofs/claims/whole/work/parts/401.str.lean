theorem dJ0_length_8abf5_0 : decode cJ0_length_8abf5 0 = .ok (.aload_n 0, 1) := by decide +kernel
theorem dJ0_length_8abf5_1 : decode cJ0_length_8abf5 1 = .ok (.getfield 9, 3) := by decide +kernel
theorem dJ0_length_8abf5_4 : decode cJ0_length_8abf5 4 = .ok (.arraylength, 1) := by decide +kernel
theorem dJ0_length_8abf5_5 : decode cJ0_length_8abf5 5 = .ok (.aload_n 0, 1) := by decide +kernel
theorem dJ0_length_8abf5_6 : decode cJ0_length_8abf5 6 = .ok (.invokevirtual 335, 3) := by decide +kernel
theorem dJ0_length_8abf5_9 : decode cJ0_length_8abf5 9 = .ok (.ishr, 1) := by decide +kernel
theorem dJ0_length_8abf5_10 : decode cJ0_length_8abf5 10 = .ok (.ireturn, 1) := by decide +kernel
theorem dJ0_coder_7d493_0 : decode cJ0_coder_7d493 0 = .ok (.getstatic 38, 3) := by decide +kernel
theorem dJ0_coder_7d493_3 : decode cJ0_coder_7d493 3 = .ok (.ifCond .eq 10, 3) := by decide +kernel
theorem dJ0_coder_7d493_6 : decode cJ0_coder_7d493 6 = .ok (.aload_n 0, 1) := by decide +kernel
theorem dJ0_coder_7d493_7 : decode cJ0_coder_7d493 7 = .ok (.getfield 15, 3) := by decide +kernel
theorem dJ0_coder_7d493_10 : decode cJ0_coder_7d493 10 = .ok (.goto 4, 3) := by decide +kernel
theorem dJ0_coder_7d493_13 : decode cJ0_coder_7d493 13 = .ok (.iconst 1, 1) := by decide +kernel
theorem dJ0_coder_7d493_14 : decode cJ0_coder_7d493 14 = .ok (.ireturn, 1) := by decide +kernel
theorem dJ0_charAt_5068e_0 : decode cJ0_charAt_5068e 0 = .ok (.aload_n 0, 1) := by decide +kernel
theorem dJ0_charAt_5068e_1 : decode cJ0_charAt_5068e 1 = .ok (.invokevirtual 492, 3) := by decide +kernel
theorem dJ0_charAt_5068e_4 : decode cJ0_charAt_5068e 4 = .ok (.ifCond .eq 12, 3) := by decide +kernel
theorem dJ0_charAt_5068e_7 : decode cJ0_charAt_5068e 7 = .ok (.aload_n 0, 1) := by decide +kernel
theorem dJ0_charAt_5068e_8 : decode cJ0_charAt_5068e 8 = .ok (.getfield 9, 3) := by decide +kernel
theorem dJ0_charAt_5068e_11 : decode cJ0_charAt_5068e 11 = .ok (.iload_n 1, 1) := by decide +kernel
theorem dJ0_charAt_5068e_12 : decode cJ0_charAt_5068e 12 = .ok (.invokestatic 495, 3) := by decide +kernel
theorem dJ0_charAt_5068e_15 : decode cJ0_charAt_5068e 15 = .ok (.ireturn, 1) := by decide +kernel
theorem dJ0_charAt_5068e_16 : decode cJ0_charAt_5068e 16 = .ok (.aload_n 0, 1) := by decide +kernel
theorem dJ0_charAt_5068e_17 : decode cJ0_charAt_5068e 17 = .ok (.getfield 9, 3) := by decide +kernel
theorem dJ0_charAt_5068e_20 : decode cJ0_charAt_5068e 20 = .ok (.iload_n 1, 1) := by decide +kernel
theorem dJ0_charAt_5068e_21 : decode cJ0_charAt_5068e 21 = .ok (.invokestatic 498, 3) := by decide +kernel
theorem dJ0_charAt_5068e_24 : decode cJ0_charAt_5068e 24 = .ok (.ireturn, 1) := by decide +kernel
theorem dJ0_isLatin1_aae02_0 : decode cJ0_isLatin1_aae02 0 = .ok (.getstatic 38, 3) := by decide +kernel
theorem dJ0_isLatin1_aae02_3 : decode cJ0_isLatin1_aae02 3 = .ok (.ifCond .eq 14, 3) := by decide +kernel
theorem dJ0_isLatin1_aae02_6 : decode cJ0_isLatin1_aae02 6 = .ok (.aload_n 0, 1) := by decide +kernel
theorem dJ0_isLatin1_aae02_7 : decode cJ0_isLatin1_aae02 7 = .ok (.getfield 15, 3) := by decide +kernel
theorem dJ0_isLatin1_aae02_10 : decode cJ0_isLatin1_aae02 10 = .ok (.ifCond .ne 7, 3) := by decide +kernel
theorem dJ0_isLatin1_aae02_13 : decode cJ0_isLatin1_aae02 13 = .ok (.iconst 1, 1) := by decide +kernel
theorem dJ0_isLatin1_aae02_14 : decode cJ0_isLatin1_aae02 14 = .ok (.goto 4, 3) := by decide +kernel
theorem dJ0_isLatin1_aae02_17 : decode cJ0_isLatin1_aae02 17 = .ok (.iconst 0, 1) := by decide +kernel
theorem dJ0_isLatin1_aae02_18 : decode cJ0_isLatin1_aae02 18 = .ok (.ireturn, 1) := by decide +kernel
theorem dJ1_charAt_3b067_0 : decode cJ1_charAt_3b067 0 = .ok (.iload_n 1, 1) := by decide +kernel
theorem dJ1_charAt_3b067_1 : decode cJ1_charAt_3b067 1 = .ok (.aload_n 0, 1) := by decide +kernel
theorem dJ1_charAt_3b067_2 : decode cJ1_charAt_3b067 2 = .ok (.arraylength, 1) := by decide +kernel
theorem dJ1_charAt_3b067_3 : decode cJ1_charAt_3b067 3 = .ok (.invokestatic 9, 3) := by decide +kernel
theorem dJ1_charAt_3b067_6 : decode cJ1_charAt_3b067 6 = .ok (.aload_n 0, 1) := by decide +kernel
theorem dJ1_charAt_3b067_7 : decode cJ1_charAt_3b067 7 = .ok (.iload_n 1, 1) := by decide +kernel
theorem dJ1_charAt_3b067_8 : decode cJ1_charAt_3b067 8 = .ok (.baload, 1) := by decide +kernel
theorem dJ1_charAt_3b067_9 : decode cJ1_charAt_3b067 9 = .ok (.sipush 255, 3) := by decide +kernel
theorem dJ1_charAt_3b067_12 : decode cJ1_charAt_3b067 12 = .ok (.iand, 1) := by decide +kernel
theorem dJ1_charAt_3b067_13 : decode cJ1_charAt_3b067 13 = .ok (.i2c, 1) := by decide +kernel
theorem dJ1_charAt_3b067_14 : decode cJ1_charAt_3b067 14 = .ok (.ireturn, 1) := by decide +kernel
theorem dJ0_checkIndex_df160_0 : decode cJ0_checkIndex_df160 0 = .ok (.iload_n 0, 1) := by decide +kernel
theorem dJ0_checkIndex_df160_1 : decode cJ0_checkIndex_df160 1 = .ok (.iload_n 1, 1) := by decide +kernel
theorem dJ0_checkIndex_df160_2 : decode cJ0_checkIndex_df160 2 = .ok (.getstatic 1053, 3) := by decide +kernel
theorem dJ0_checkIndex_df160_5 : decode cJ0_checkIndex_df160 5 = .ok (.invokestatic 1059, 3) := by decide +kernel
theorem dJ0_checkIndex_df160_8 : decode cJ0_checkIndex_df160 8 = .ok (.pop, 1) := by decide +kernel
theorem dJ0_checkIndex_df160_9 : decode cJ0_checkIndex_df160 9 = .ok (.return_, 1) := by decide +kernel
theorem dJ3_checkIndex_8e157_0 : decode cJ3_checkIndex_8e157 0 = .ok (.iload_n 0, 1) := by decide +kernel
theorem dJ3_checkIndex_8e157_1 : decode cJ3_checkIndex_8e157 1 = .ok (.ifCond .lt 8, 3) := by decide +kernel
theorem dJ3_checkIndex_8e157_4 : decode cJ3_checkIndex_8e157 4 = .ok (.iload_n 0, 1) := by decide +kernel
theorem dJ3_checkIndex_8e157_5 : decode cJ3_checkIndex_8e157 5 = .ok (.iload_n 1, 1) := by decide +kernel
theorem dJ3_checkIndex_8e157_6 : decode cJ3_checkIndex_8e157 6 = .ok (.if_icmp .lt 10, 3) := by decide +kernel
theorem dJ3_checkIndex_8e157_9 : decode cJ3_checkIndex_8e157 9 = .ok (.aload_n 2, 1) := by decide +kernel
theorem dJ3_checkIndex_8e157_10 : decode cJ3_checkIndex_8e157 10 = .ok (.iload_n 0, 1) := by decide +kernel
theorem dJ3_checkIndex_8e157_11 : decode cJ3_checkIndex_8e157 11 = .ok (.iload_n 1, 1) := by decide +kernel
theorem dJ3_checkIndex_8e157_12 : decode cJ3_checkIndex_8e157 12 = .ok (.invokestatic 95, 3) := by decide +kernel
theorem dJ3_checkIndex_8e157_15 : decode cJ3_checkIndex_8e157 15 = .ok (.athrow, 1) := by decide +kernel
theorem dJ3_checkIndex_8e157_16 : decode cJ3_checkIndex_8e157 16 = .ok (.iload_n 0, 1) := by decide +kernel
theorem dJ3_checkIndex_8e157_17 : decode cJ3_checkIndex_8e157 17 = .ok (.ireturn, 1) := by decide +kernel
theorem zin_J0_length_8abf5 : ziV yJ0_length_8abf5 RJ0 cJ0_length_8abf5 1 (some .int) 0 := ⟨zm_11_23, zm_12_0, zm_12_1, zm_12_2, by decide +kernel⟩
theorem zin_J0_coder_7d493 : ziV yJ0_coder_7d493 RJ0 cJ0_coder_7d493 1 (some .byte) 0 := ⟨zm_12_5, zm_12_6, zm_12_1, zm_12_7, by decide +kernel⟩
theorem zin_J0_charAt_5068e : ziV yJ0_charAt_5068e RJ0 cJ0_charAt_5068e 2 (some .char) 1 := ⟨zm_12_11, zm_12_12, zm_12_1, zm_12_13, by decide +kernel⟩
theorem zin_J0_isLatin1_aae02 : ziV yJ0_isLatin1_aae02 RJ0 cJ0_isLatin1_aae02 1 (some .boolean) 0 := ⟨zm_12_15, zm_12_16, zm_12_1, zm_12_17, by decide +kernel⟩
theorem zin_J1_charAt_3b067 : ziS yJ1_charAt_3b067 cJ1_charAt_3b067 2 (some .char) 2 := ⟨zm_12_19, zm_12_20, zm_12_21, by decide +kernel⟩
theorem zin_J0_checkIndex_df160 : ziS yJ0_checkIndex_df160 cJ0_checkIndex_df160 2 none 2 := ⟨zm_12_23, zm_12_1, zm_13_0, by decide +kernel⟩
theorem zin_J3_checkIndex_8e157 : ziS yJ3_checkIndex_8e157 cJ3_checkIndex_8e157 3 (some .int) 3 := ⟨zm_13_3, zm_13_4, zm_13_5, by decide +kernel⟩
section ZSTR
variable {G : zG} {cc : ByteArray} {nL : Nat} {own : String} {p : Program} {l : Launch} {e : Env} {R : Room} {s : State} {m : MethodId} {args : Array Value} {below : List Frame} {meth : Method} {c : Code} {cells slots : Nat} {Q : State → Prop} {n : Nat} {f : Nat → va_E} {pc : Nat} {lv : List (Nat × Value)} {st : List Value}
theorem zr_ldcs0 (C : zC G cc nL RX4 p s m args meth c) (d : decode cc pc = .ok (.ldc 48, 2)) (kk : zW G nL p l e R s m args below meth c Q cells slots n f (pc + 2) lv (.ref (G.2.2.2.2.2.2.1 0) :: st)) : zW G nL p l e R s m args below meth c Q cells slots n f pc lv st :=
  fun H locs ls h hl => va_ldcS C.1.1 C.1.2.1 C.1.2.2.2.1 C.2.2.2.1.2.1.1 d (kk H locs ls h hl)
theorem zr_ldcs1 (C : zC G cc nL RX4 p s m args meth c) (d : decode cc pc = .ok (.ldc 57, 2)) (kk : zW G nL p l e R s m args below meth c Q cells slots n f (pc + 2) lv (.ref (G.2.2.2.2.2.2.1 1) :: st)) : zW G nL p l e R s m args below meth c Q cells slots n f pc lv st :=
  fun H locs ls h hl => va_ldcS C.1.1 C.1.2.1 C.1.2.2.2.1 C.2.2.2.1.2.1.2.1 d (kk H locs ls h hl)
theorem zr_ldcs2 (C : zC G cc nL RX4 p s m args meth c) (d : decode cc pc = .ok (.ldc 62, 2)) (kk : zW G nL p l e R s m args below meth c Q cells slots n f (pc + 2) lv (.ref (G.2.2.2.2.2.2.1 2) :: st)) : zW G nL p l e R s m args below meth c Q cells slots n f pc lv st :=
  fun H locs ls h hl => va_ldcS C.1.1 C.1.2.1 C.1.2.2.2.1 C.2.2.2.1.2.1.2.2 d (kk H locs ls h hl)
theorem zs_getv (C : zC G cc nL own p s m args meth c) {idx : Nat} (k : Nat) (hk : k < 3) (hm : Cond.fieldLink own idx "java/lang/String" "value" "[B" ∈ wsL_law) (d : decode cc pc = .ok (.getfield idx, 3)) (kk : zW G nL p l e R s m args below meth c Q cells slots n f (pc + 3) lv (.ref (G.2.2.2.2.2.2.2 k) :: st)) : zW G nL p l e R s m args below meth c Q cells slots n f pc lv (.ref (G.2.2.2.2.2.2.1 k) :: st) :=
  fun H locs ls h hl => vk_getf C.1.1 C.1.2.1 (C.2.2.2.1.1.1 k hk).2.2.1 h.2.2 C.1.2.2.2.1 (C.1.2.2.2.2 _ hm) (fun _ hx => hx) d (kk H locs ls h hl)
theorem zs_getc (C : zC G cc nL own p s m args meth c) {idx : Nat} (k : Nat) (hk : k < 3) (hm : Cond.fieldLink own idx "java/lang/String" "coder" "B" ∈ wsL_law) (d : decode cc pc = .ok (.getfield idx, 3)) (kk : zW G nL p l e R s m args below meth c Q cells slots n f (pc + 3) lv (.int 0 :: st)) : zW G nL p l e R s m args below meth c Q cells slots n f pc lv (.ref (G.2.2.2.2.2.2.1 k) :: st) :=
  fun H locs ls h hl => vk_getf C.1.1 C.1.2.1 (C.2.2.2.1.1.1 k hk).2.1 h.2.2 C.1.2.2.2.1 (C.1.2.2.2.2 _ hm) (fun _ hx => hx) d (kk H locs ls h hl)
theorem zs_gets (C : zC G cc nL own p s m args meth c) {idx : Nat} (hm : Cond.fieldLink own idx "java/lang/String" "COMPACT_STRINGS" "Z" ∈ wsL_law) (d : decode cc pc = .ok (.getstatic idx, 3)) (kk : zW G nL p l e R s m args below meth c Q cells slots n f (pc + 3) lv (.int 1 :: st)) : zW G nL p l e R s m args below meth c Q cells slots n f pc lv st :=
  fun H locs ls h hl => va_gets C.1.1 C.1.2.1 C.2.2.2.1.2.2.1 h.2.2 C.1.2.2.2.1 (C.1.2.2.2.2 _ hm) (fun _ hx => hx) d (kk H locs ls h hl)
theorem zs_getq (C : zC G cc nL own p s m args meth c) {idx : Nat} (hm : Cond.fieldLink own idx "jdk/internal/util/Preconditions" "SIOOBE_FORMATTER" "Ljava/util/function/BiFunction;" ∈ wsL_law) (d : decode cc pc = .ok (.getstatic idx, 3)) (kk : ∀ v : Value, (v = .null ∨ ∃ t, v = .ref t) → zW G nL p l e R s m args below meth c Q cells slots n f (pc + 3) lv (v :: st)) : zW G nL p l e R s m args below meth c Q cells slots n f pc lv st := by
  intro H locs ls h hl
  rcases C.2.2.2.1.2.2.2 with hz | ⟨t, hz⟩
  · exact va_gets C.1.1 C.1.2.1 hz h.2.2 C.1.2.2.2.1 (C.1.2.2.2.2 _ hm) (fun _ hx => hx) d (kk _ (Or.inl rfl) H locs ls h hl)
  · exact va_gets C.1.1 C.1.2.1 hz h.2.2 C.1.2.2.2.1 (C.1.2.2.2.2 _ hm) (fun _ hx => hx) d (kk _ (Or.inr ⟨t, rfl⟩) H locs ls h hl)
theorem zs_alen (C : zC G cc nL own p s m args meth c) (k : Nat) (hk : k < 3) (d : decode cc pc = .ok (.arraylength, 1)) (kk : zW G nL p l e R s m args below meth c Q cells slots n f (pc + 1) lv (.int (zwlen k) :: st)) : zW G nL p l e R s m args below meth c Q cells slots n f pc lv (.ref (G.2.2.2.2.2.2.2 k) :: st) :=
  fun H locs ls h hl => va_tlen C.1.1 C.1.2.1 (C.2.2.2.1.1.1 k hk).2.2.2 h.2.2 rfl d (kk H locs ls h hl)
theorem zs_bald (C : zC G cc nL own p s m args meth c) (k : Nat) (hk : k < 3) {i : Int32} (hi : zi i (zwn k) = true) (d : decode cc pc = .ok (.baload, 1)) (kk : zW G nL p l e R s m args below meth c Q cells slots n f (pc + 1) lv (.int (zwc k i.toNatClampNeg) :: st)) : zW G nL p l e R s m args below meth c Q cells slots n f pc lv (.int i :: .ref (G.2.2.2.2.2.2.2 k) :: st) :=
  fun H locs ls h hl => va_tb C.1.1 C.1.2.1 (C.2.2.2.1.1.1 k hk).2.2.2 h.2.2 (zi_in hi) rfl d (kk H locs ls h hl)
/-- a call on a String constant -/
theorem zs_call (C : zC G cc nL own p s m args meth c) {y : MethodName} {b : ByteArray} {nLy na idx : Nat} {ret : Option FieldType} {rm : Room} {r : Int32} {As st0 : List Value} {n' : Nat} {f' : Nat → va_E} (k : Nat) (hk : k < 3) (hM : zMI G l y b nLy ret rm (.ref (G.2.2.2.2.2.2.1 k) :: As) n f r n' f') (i : ziV y RJ0 b nLy ret na) (hm : Cond.methodLink own idx y ∈ wsL_law) (hn : As.length = na) (hst : st0 = As.reverse ++ .ref (G.2.2.2.2.2.2.1 k) :: st) (hcat : (st.map fun v => v.category).sum ≤ 8) (hR : rm.frames + 1 ≤ R.frames ∧ 8 + (nLy + 11) + rm.locals ≤ R.locals) (hf3 : cells + rm.cells ≤ R.cells ∧ slots + rm.slots ≤ R.slots) (d : decode cc pc = .ok (.invokevirtual idx, 3))
    (kk : zW G nL p l e R s m args below meth c Q (cells + rm.cells) (slots + rm.slots) n' f' (pc + 3) lv (.int r :: st)) : zW G nL p l e R s m args below meth c Q cells slots n f pc lv st0 := by
  intro H locs ls h hl
  refine va_calli (va_runV (As := As) (rest := st) C.1 hM ⟨zcB C i.2.2.2.1 i.2.2.1 i.2.2.2.2 hm hR, C.1.2.2.2.2 _ i.1, C.1.2.2.2.2 _ i.2.1⟩ ⟨zok.blind, vk_recv C.2.2.2.1.1 hk h.2.2, fun U hU hW => ⟨rfl, zok_of C h hU hW⟩⟩ rfl hn hl.1 hst (lv_room hcat) d hf3) h.2.2 (fun q _ h => h) (fun q h => h) (fun rr u t H1 locs1 ht hvm hw hB hz1 hk1 hS => ?_)
  subst hw
  exact kk H1 locs1 ls ⟨by rw [← ht]; exact hB.1, by rw [← ht]; exact hB.2.1, hS⟩ hl
end ZSTR
theorem M_coder (G : zG) (l : Launch) {k : Nat} (hk : k < 3) {n : Nat} {f : Nat → va_E} : zMI G l yJ0_coder_7d493 cJ0_coder_7d493 1 (some .byte) (zrm 0 0) [.ref (G.2.2.2.2.2.2.1 k)] n f 0 n f := by
  refine zentI (by decide +kernel) (Nat.le_of_ble_eq_true rfl) ?_
  intro p e s m args below meth c C hret
  refine zr_sub [0] [(0, .ref (G.2.2.2.2.2.2.1 k))] rfl ?_
  refine zs_gets C zm_12_8 dJ0_coder_7d493_0 ?_
  refine zr_if_eq C 13 dJ0_coder_7d493_3 (by decide) (fun h => absurd h (by decide)) (fun _ => ?_)
  refine zr_aload_n C 0 dJ0_coder_7d493_6 rfl ?_
  refine zs_getc C k hk zm_12_9 dJ0_coder_7d493_7 ?_
  refine zr_goto C 14 dJ0_coder_7d493_10 (by decide) ?_
  exact zr_zret C hret rfl rfl rfl rfl dJ0_coder_7d493_14
theorem M_isLatin1 (G : zG) (l : Launch) {k : Nat} (hk : k < 3) {n : Nat} {f : Nat → va_E} : zMI G l yJ0_isLatin1_aae02 cJ0_isLatin1_aae02 1 (some .boolean) (zrm 0 0) [.ref (G.2.2.2.2.2.2.1 k)] n f 1 n f := by
  refine zentI (by decide +kernel) (Nat.le_of_ble_eq_true rfl) ?_
  intro p e s m args below meth c C hret
  refine zr_sub [0] [(0, .ref (G.2.2.2.2.2.2.1 k))] rfl ?_
  refine zs_gets C zm_12_8 dJ0_isLatin1_aae02_0 ?_
  refine zr_if_eq C 17 dJ0_isLatin1_aae02_3 (by decide) (fun h => absurd h (by decide)) (fun _ => ?_)
  refine zr_aload_n C 0 dJ0_isLatin1_aae02_6 rfl ?_
  refine zs_getc C k hk zm_12_9 dJ0_isLatin1_aae02_7 ?_
  refine zr_if_ne C 17 dJ0_isLatin1_aae02_10 (by decide) (fun h => absurd rfl h) (fun _ => ?_)
  refine zr_iconst C dJ0_isLatin1_aae02_13 (v := 1) (by decide) ?_
  refine zr_goto C 18 dJ0_isLatin1_aae02_14 (by decide) ?_
  exact zr_zret C hret rfl rfl rfl rfl dJ0_isLatin1_aae02_18
theorem zwlen_shr {k : Nat} (hk : k < 3) : zwlen k >>> ((0 : Int32) &&& 31) = zwlen k := by
  have h : ∀ k : Nat, k < 3 → zwlen k >>> ((0 : Int32) &&& 31) = zwlen k := by decide +kernel
  exact h k hk
theorem M_length (G : zG) (l : Launch) {k : Nat} (hk : k < 3) {n : Nat} {f : Nat → va_E} : zMI G l yJ0_length_8abf5 cJ0_length_8abf5 1 (some .int) (zrm 1 20) [.ref (G.2.2.2.2.2.2.1 k)] n f (zwlen k) n f := by
  refine zentI (by decide +kernel) (Nat.le_of_ble_eq_true rfl) ?_
  intro p e s m args below meth c C hret
  refine zr_sub [0] [(0, .ref (G.2.2.2.2.2.2.1 k))] rfl ?_
  refine zr_aload_n C 0 dJ0_length_8abf5_0 rfl ?_
  refine zs_getv C k hk zm_12_3 dJ0_length_8abf5_1 ?_
  refine zs_alen C k hk dJ0_length_8abf5_4 ?_
  refine zr_aload_n C 0 dJ0_length_8abf5_5 rfl ?_
  refine zs_call C k hk (M_coder G l hk) zin_J0_coder_7d493 zm_12_4 rfl rfl (Nat.le_of_ble_eq_true rfl) ⟨Nat.le_of_ble_eq_true rfl, Nat.le_of_ble_eq_true rfl⟩ ⟨Nat.le_of_ble_eq_true rfl, Nat.le_of_ble_eq_true rfl⟩ dJ0_length_8abf5_6 ?_
  refine zr_ishr C dJ0_length_8abf5_9 ?_
  exact zr_iret C hret (zwlen_shr hk) rfl rfl dJ0_length_8abf5_10
theorem M_checkIndexP (G : zG) (l : Launch) {i nn : Int32} {v : Value} (hv : v = .null ∨ ∃ t, v = .ref t) (h0 : ¬ i < 0) (h1 : i < nn) {n : Nat} {f : Nat → va_E} : zMI G l yJ3_checkIndex_8e157 cJ3_checkIndex_8e157 3 (some .int) (zrm 0 0) [.int i, .int nn, v] n f i n f := by
  have go : (lg_sl [.int i, .int nn, v]).length ≤ 3 → zMI G l yJ3_checkIndex_8e157 cJ3_checkIndex_8e157 3 (some .int) (zrm 0 0) [.int i, .int nn, v] n f i n f := by
    intro hlen
    refine zentI (by decide +kernel) hlen ?_
    intro p e s m args below meth c C hret
    refine zr_sub [0, 1] [(0, .int i), (1, .int nn)] rfl ?_
    refine zr_iload_n C 0 dJ3_checkIndex_8e157_0 rfl ?_
    refine zr_if_lt C 9 dJ3_checkIndex_8e157_1 (by decide) (fun h => absurd h h0) (fun _ => ?_)
    refine zr_iload_n C 0 dJ3_checkIndex_8e157_4 rfl ?_
    refine zr_iload_n C 1 dJ3_checkIndex_8e157_5 rfl ?_
    refine zr_icmp_lt C 16 dJ3_checkIndex_8e157_6 (by decide) (fun _ => ?_) (fun h => absurd h1 h)
    refine zr_iload_n C 0 dJ3_checkIndex_8e157_16 rfl ?_
    exact zr_iret C hret rfl rfl rfl dJ3_checkIndex_8e157_17
  rcases hv with rfl | ⟨t, rfl⟩
  · exact go (Nat.le_of_ble_eq_true rfl)
  · exact go (Nat.le_of_ble_eq_true rfl)
theorem M_checkIndexS (G : zG) (l : Launch) {i nn : Int32} (h0 : ¬ i < 0) (h1 : i < nn) {n : Nat} {f : Nat → va_E} : zMV G l yJ0_checkIndex_df160 cJ0_checkIndex_df160 2 none (zrm 1 22) [.int i, .int nn] n f n f := by
  refine zentV (by decide +kernel) (Nat.le_of_ble_eq_true rfl) ?_
  intro p e s m args below meth c C hret
  refine zr_sub [0, 1] [(0, .int i), (1, .int nn)] rfl ?_
  refine zr_iload_n C 0 dJ0_checkIndex_df160_0 rfl ?_
  refine zr_iload_n C 1 dJ0_checkIndex_df160_1 rfl ?_
  refine zs_getq C zm_13_1 dJ0_checkIndex_df160_2 (fun v hv => ?_)
  refine zr_callSI C (As := [.int i, .int nn, v]) (M_checkIndexP G l hv h0 h1) zin_J3_checkIndex_8e157 zm_13_2 rfl rfl (Nat.le_of_ble_eq_true rfl) ⟨Nat.le_of_ble_eq_true rfl, Nat.le_of_ble_eq_true rfl⟩ ⟨Nat.le_of_ble_eq_true rfl, Nat.le_of_ble_eq_true rfl⟩ dJ0_checkIndex_df160_5 ?_
  refine zr_pop C dJ0_checkIndex_df160_8 rfl ?_
  exact zr_vret C hret rfl rfl dJ0_checkIndex_df160_9
theorem zwc_ok {k j : Nat} (hk : k < 3) (hj : j < zwn k) : ((zwc k j &&& 255).toUInt32 % 65536).toInt32 = zwc k j ∧ narrow .char (.int (((zwc k j &&& 255).toUInt32 % 65536).toInt32)) = .int (((zwc k j &&& 255).toUInt32 % 65536).toInt32) ∧ narrow .char (.int (zwc k j)) = .int (zwc k j) := by
  have h : ∀ k : Nat, k < 3 → ∀ j : Nat, j < zwn k → ((zwc k j &&& 255).toUInt32 % 65536).toInt32 = zwc k j ∧ (((zwc k j &&& 255).toUInt32 % 65536).toInt32).toUInt32.toUInt16.toUInt32.toInt32 = (((zwc k j &&& 255).toUInt32 % 65536).toInt32) ∧ (zwc k j).toUInt32.toUInt16.toUInt32.toInt32 = zwc k j := by decide +kernel
  obtain ⟨a, b, c⟩ := h k hk j hj
  exact ⟨a, congrArg Value.int b, congrArg Value.int c⟩
theorem zwi_ok {k : Nat} {i : Int32} (hk : k < 3) (hi : zi i (zwn k) = true) : ¬ i < 0 ∧ i < zwlen k := by
  have h1 := zi_in hi
  refine ⟨fun q => h1 (Or.inl q), ?_⟩
  obtain ⟨j, hj, rfl⟩ := vp_in_of h1 (Nat.lt_of_le_of_lt (show zwn k ≤ 4 from (by decide +kernel : ∀ k : Nat, k < 3 → zwn k ≤ 4) k hk) (by decide))
  exact nI_lt hj (Nat.lt_of_le_of_lt (show zwn k ≤ 4 from (by decide +kernel : ∀ k : Nat, k < 3 → zwn k ≤ 4) k hk) (by decide))
theorem M_charAtL (G : zG) (l : Launch) {k : Nat} (hk : k < 3) {i : Int32} (hi : zi i (zwn k) = true) {n : Nat} {f : Nat → va_E} : zMI G l yJ1_charAt_3b067 cJ1_charAt_3b067 2 (some .char) (zrm 2 43) [.ref (G.2.2.2.2.2.2.2 k), .int i] n f (zwc k i.toNatClampNeg) n f := by
  refine zentI (by decide +kernel) (Nat.le_of_ble_eq_true rfl) ?_
  intro p e s m args below meth c C hret
  obtain ⟨h0, h1⟩ := zwi_ok hk hi
  obtain ⟨a1, a2, -⟩ := zwc_ok hk (zi_lt hi)
  refine zr_sub [0, 1] [(0, .ref (G.2.2.2.2.2.2.2 k)), (1, .int i)] rfl ?_
  refine zr_iload_n C 1 dJ1_charAt_3b067_0 rfl ?_
  refine zr_aload_n C 0 dJ1_charAt_3b067_1 rfl ?_
  refine zs_alen C k hk dJ1_charAt_3b067_2 ?_
  refine zr_callSV C (As := [.int i, .int (zwlen k)]) (M_checkIndexS G l h0 h1) zin_J0_checkIndex_df160 zm_12_22 rfl rfl (Nat.le_of_ble_eq_true rfl) ⟨Nat.le_of_ble_eq_true rfl, Nat.le_of_ble_eq_true rfl⟩ ⟨Nat.le_of_ble_eq_true rfl, Nat.le_of_ble_eq_true rfl⟩ dJ1_charAt_3b067_3 ?_
  refine zr_aload_n C 0 dJ1_charAt_3b067_6 rfl ?_
  refine zr_iload_n C 1 dJ1_charAt_3b067_7 rfl ?_
  refine zs_bald C k hk hi dJ1_charAt_3b067_8 ?_
  refine zr_sipush C dJ1_charAt_3b067_9 (v := 255) (by decide) ?_
  refine zr_iand C dJ1_charAt_3b067_12 ?_
  refine zr_i2c C dJ1_charAt_3b067_13 ?_
  exact zr_zret C hret a1 a2 rfl rfl dJ1_charAt_3b067_14
theorem M_charAt (G : zG) (l : Launch) {k : Nat} (hk : k < 3) {i : Int32} (hi : zi i (zwn k) = true) {n : Nat} {f : Nat → va_E} : zMI G l yJ0_charAt_5068e cJ0_charAt_5068e 2 (some .char) (zrm 3 64) [.ref (G.2.2.2.2.2.2.1 k), .int i] n f (zwc k i.toNatClampNeg) n f := by
  refine zentI (by decide +kernel) (Nat.le_of_ble_eq_true rfl) ?_
  intro p e s m args below meth c C hret
  obtain ⟨-, -, a3⟩ := zwc_ok hk (zi_lt hi)
  refine zr_sub [0, 1] [(0, .ref (G.2.2.2.2.2.2.1 k)), (1, .int i)] rfl ?_
  refine zr_aload_n C 0 dJ0_charAt_5068e_0 rfl ?_
  refine zs_call C k hk (M_isLatin1 G l hk) zin_J0_isLatin1_aae02 zm_12_14 rfl rfl (Nat.le_of_ble_eq_true rfl) ⟨Nat.le_of_ble_eq_true rfl, Nat.le_of_ble_eq_true rfl⟩ ⟨Nat.le_of_ble_eq_true rfl, Nat.le_of_ble_eq_true rfl⟩ dJ0_charAt_5068e_1 ?_
  refine zr_if_eq C 16 dJ0_charAt_5068e_4 (by decide) (fun h => absurd h (by decide)) (fun _ => ?_)
  refine zr_aload_n C 0 dJ0_charAt_5068e_7 rfl ?_
  refine zs_getv C k hk zm_12_3 dJ0_charAt_5068e_8 ?_
  refine zr_iload_n C 1 dJ0_charAt_5068e_11 rfl ?_
  refine zr_callSI C (As := [.ref (G.2.2.2.2.2.2.2 k), .int i]) (M_charAtL G l hk hi) zin_J1_charAt_3b067 zm_12_18 rfl rfl (Nat.le_of_ble_eq_true rfl) ⟨Nat.le_of_ble_eq_true rfl, Nat.le_of_ble_eq_true rfl⟩ ⟨Nat.le_of_ble_eq_true rfl, Nat.le_of_ble_eq_true rfl⟩ dJ0_charAt_5068e_12 ?_
  exact zr_zret C hret rfl a3 rfl rfl dJ0_charAt_5068e_15
section ZSTR2
variable {G : zG} {cc : ByteArray} {nL : Nat} {own : String} {p : Program} {l : Launch} {e : Env} {R : Room} {s : State} {m : MethodId} {args : Array Value} {below : List Frame} {meth : Method} {c : Code} {cells slots : Nat} {Q : State → Prop} {n : Nat} {f : Nat → va_E} {pc : Nat} {lv : List (Nat × Value)} {st : List Value}
theorem zr_slen (C : zC G cc nL own p s m args meth c) {idx fr lo : Nat} (k : Nat) (hk : k < 3) (hm : Cond.methodLink own idx yJ0_length_8abf5 ∈ wsL_law) (hR : 8 ≤ fr ∧ 300 ≤ lo) (hcat : (st.map fun v => v.category).sum ≤ 8) (d : decode cc pc = .ok (.invokevirtual idx, 3)) (kk : zW G nL p l e (zrm fr lo) s m args below meth c Q 0 0 n f (pc + 3) lv (.int (zwlen k) :: st)) : zW G nL p l e (zrm fr lo) s m args below meth c Q 0 0 n f pc lv (.ref (G.2.2.2.2.2.2.1 k) :: st) :=
  zs_call C (As := []) k hk (M_length G l hk) zin_J0_length_8abf5 hm rfl rfl hcat ⟨Nat.le_trans (by decide) hR.1, Nat.le_trans (by decide) hR.2⟩ ⟨Nat.le_refl _, Nat.le_refl _⟩ d kk
theorem zr_schar (C : zC G cc nL own p s m args meth c) {idx fr lo : Nat} (k : Nat) (hk : k < 3) {i : Int32} (hi : zi i (zwn k) = true) (hm : Cond.methodLink own idx yJ0_charAt_5068e ∈ wsL_law) (hR : 8 ≤ fr ∧ 300 ≤ lo) (hcat : (st.map fun v => v.category).sum ≤ 8) (d : decode cc pc = .ok (.invokevirtual idx, 3)) (kk : zW G nL p l e (zrm fr lo) s m args below meth c Q 0 0 n f (pc + 3) lv (.int (zwc k i.toNatClampNeg) :: st)) : zW G nL p l e (zrm fr lo) s m args below meth c Q 0 0 n f pc lv (.int i :: .ref (G.2.2.2.2.2.2.1 k) :: st) :=
  zs_call C (As := [.int i]) k hk (M_charAt G l hk hi) zin_J0_charAt_5068e hm rfl rfl hcat ⟨Nat.le_trans (by decide) hR.1, Nat.le_trans (by decide) hR.2⟩ ⟨Nat.le_refl _, Nat.le_refl _⟩ d kk
end ZSTR2
