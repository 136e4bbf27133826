set_option maxRecDepth 100000 in
theorem zpX0 : wsX00 = [258, 260, 262, 264, 266, 268, 270].filterMap (fun i => lw_tbl[i]?) := by decide +kernel
set_option maxRecDepth 100000 in
theorem zpX1 : wsX10 = [237].filterMap (fun i => lw_tbl[i]?) := by decide +kernel
set_option maxRecDepth 100000 in
theorem zpX2 : wsX20 = [320, 322, 324, 326].filterMap (fun i => lw_tbl[i]?) := by decide +kernel
set_option maxRecDepth 100000 in
theorem zpX3 : wsX30 = [156, 158, 160, 162, 164, 166, 168, 170, 172, 174, 176, 178, 180, 182, 184, 186, 188, 190, 192].filterMap (fun i => lw_tbl[i]?) := by decide +kernel
set_option maxRecDepth 100000 in
theorem zpX4 : wsX40 = [212, 214, 216, 218, 220, 222, 224, 226].filterMap (fun i => lw_tbl[i]?) := by decide +kernel
set_option maxRecDepth 100000 in
theorem zpX5 : wsX50 = [344, 346, 348, 350, 352, 354].filterMap (fun i => lw_tbl[i]?) := by decide +kernel
set_option maxRecDepth 100000 in
theorem zpX6 : wsX60 = [301, 303, 305].filterMap (fun i => lw_tbl[i]?) := by decide +kernel
set_option maxRecDepth 100000 in
theorem zpX7 : wsX70 = [368, 370, 372].filterMap (fun i => lw_tbl[i]?) := by decide +kernel
set_option maxRecDepth 100000 in
theorem zpX8 : wsX80 = [98, 100].filterMap (fun i => lw_tbl[i]?) := by decide +kernel
set_option maxRecDepth 100000 in
theorem zpX9 : wsX90 = [284, 286].filterMap (fun i => lw_tbl[i]?) := by decide +kernel
set_option maxRecDepth 100000 in
theorem zpX10 : wsX100 = [391, 393, 395, 397, 399, 401, 403, 405, 407, 409, 411, 413].filterMap (fun i => lw_tbl[i]?) := by decide +kernel
set_option maxRecDepth 100000 in
theorem zpX11 : wsX110 = [1062, 1064, 1066, 1068, 1070, 1072, 1074, 1076, 1078, 1080, 1082, 1084, 1086, 1088, 1090, 1092, 1094, 1096, 1098, 1100, 1102, 1104, 1106, 1108, 1110, 1112, 1114, 1116, 1118, 1120, 1122, 1124, 1126, 1128, 1130, 1132, 1134, 1136, 1138, 1140, 1142, 1144, 1146, 1148, 1150, 1152, 1154, 1156, 1158, 1160, 1162, 1164, 1166, 1168, 1170, 1172].filterMap (fun i => lw_tbl[i]?) := by decide +kernel
theorem zplace {ws : List Cond} (ps : List Nat) (h : ws = ps.filterMap (fun i => lw_tbl[i]?)) : ∀ w ∈ ws, w ∈ lw_tbl := by
  intro w hw
  rw [h] at hw
  obtain ⟨i, -, hi⟩ := List.mem_filterMap.mp hw
  exact List.mem_of_getElem? hi
theorem zR_in : ∀ w ∈ (wsL_law_r1 ++ (wsL_law_r2 ++ (wsL_law_r3 ++ (wsL_law_r4 ++ (wsL_law_r5 ++ (wsL_law_r6 ++ (wsL_law_r7 ++ (wsL_law_r8 ++ (wsL_law_r9 ++ (wsL_law_r10 ++ (wsL_law_r11 ++ (wsL_law_r12 ++ (wsL_law_r13 ++ (wsL_law_r14 ++ (wsL_law_r15 ++ (wsL_law_r16 ++ (wsL_law_r17 ++ (wsL_law_r18 ++ (wsL_law_r19 ++ (wsL_law_r20 ++ (wsL_law_r21 ++ (wsL_law_r22 ++ (wsL_law_r23 ++ (wsL_law_r24 ++ (wsL_law_r25 ++ (wsL_law_r26 ++ (wsL_law_r27 ++ (wsL_law_r28 ++ (wsL_law_r29 ++ (wsL_law_r30 ++ (wsL_law_r31 ++ (wsL_law_r32 ++ (wsL_law_r33 ++ (wsL_law_r34 ++ (wsL_law_r35 ++ (wsL_law_r36 ++ (wsL_law_r37 ++ (wsL_law_r38 ++ (wsL_law_r39 ++ (wsL_law_r40 ++ (wsL_law_r41 ++ (wsL_law_r42 ++ (wsL_law_r43 ++ (wsL_law_r44 ++ (wsL_law_r45 ++ (wsL_law_r46 ++ (wsL_law_r47 ++ (wsL_law_r48 ++ wsL_law_r49)))))))))))))))))))))))))))))))))))))))))))))))), w ∈ lw_tbl := by
  intro w hw
  rcases List.mem_append.mp hw with h | hw
  · exact zplace _ zp_1 w h
  rcases List.mem_append.mp hw with h | hw
  · exact zplace _ zp_2 w h
  rcases List.mem_append.mp hw with h | hw
  · exact zplace _ zp_3 w h
  rcases List.mem_append.mp hw with h | hw
  · exact zplace _ zp_4 w h
  rcases List.mem_append.mp hw with h | hw
  · exact zplace _ zp_5 w h
  rcases List.mem_append.mp hw with h | hw
  · exact zplace _ zp_6 w h
  rcases List.mem_append.mp hw with h | hw
  · exact zplace _ zp_7 w h
  rcases List.mem_append.mp hw with h | hw
  · exact zplace _ zp_8 w h
  rcases List.mem_append.mp hw with h | hw
  · exact zplace _ zp_9 w h
  rcases List.mem_append.mp hw with h | hw
  · exact zplace _ zp_10 w h
  rcases List.mem_append.mp hw with h | hw
  · exact zplace _ zp_11 w h
  rcases List.mem_append.mp hw with h | hw
  · exact zplace _ zp_12 w h
  rcases List.mem_append.mp hw with h | hw
  · exact zplace _ zp_13 w h
  rcases List.mem_append.mp hw with h | hw
  · exact zplace _ zp_14 w h
  rcases List.mem_append.mp hw with h | hw
  · exact zplace _ zp_15 w h
  rcases List.mem_append.mp hw with h | hw
  · exact zplace _ zp_16 w h
  rcases List.mem_append.mp hw with h | hw
  · exact zplace _ zp_17 w h
  rcases List.mem_append.mp hw with h | hw
  · exact zplace _ zp_18 w h
  rcases List.mem_append.mp hw with h | hw
  · exact zplace _ zp_19 w h
  rcases List.mem_append.mp hw with h | hw
  · exact zplace _ zp_20 w h
  rcases List.mem_append.mp hw with h | hw
  · exact zplace _ zp_21 w h
  rcases List.mem_append.mp hw with h | hw
  · exact zplace _ zp_22 w h
  rcases List.mem_append.mp hw with h | hw
  · exact zplace _ zp_23 w h
  rcases List.mem_append.mp hw with h | hw
  · exact zplace _ zp_24 w h
  rcases List.mem_append.mp hw with h | hw
  · exact zplace _ zp_25 w h
  rcases List.mem_append.mp hw with h | hw
  · exact zplace _ zp_26 w h
  rcases List.mem_append.mp hw with h | hw
  · exact zplace _ zp_27 w h
  rcases List.mem_append.mp hw with h | hw
  · exact zplace _ zp_28 w h
  rcases List.mem_append.mp hw with h | hw
  · exact zplace _ zp_29 w h
  rcases List.mem_append.mp hw with h | hw
  · exact zplace _ zp_30 w h
  rcases List.mem_append.mp hw with h | hw
  · exact zplace _ zp_31 w h
  rcases List.mem_append.mp hw with h | hw
  · exact zplace _ zp_32 w h
  rcases List.mem_append.mp hw with h | hw
  · exact zplace _ zp_33 w h
  rcases List.mem_append.mp hw with h | hw
  · exact zplace _ zp_34 w h
  rcases List.mem_append.mp hw with h | hw
  · exact zplace _ zp_35 w h
  rcases List.mem_append.mp hw with h | hw
  · exact zplace _ zp_36 w h
  rcases List.mem_append.mp hw with h | hw
  · exact zplace _ zp_37 w h
  rcases List.mem_append.mp hw with h | hw
  · exact zplace _ zp_38 w h
  rcases List.mem_append.mp hw with h | hw
  · exact zplace _ zp_39 w h
  rcases List.mem_append.mp hw with h | hw
  · exact zplace _ zp_40 w h
  rcases List.mem_append.mp hw with h | hw
  · exact zplace _ zp_41 w h
  rcases List.mem_append.mp hw with h | hw
  · exact zplace _ zp_42 w h
  rcases List.mem_append.mp hw with h | hw
  · exact zplace _ zp_43 w h
  rcases List.mem_append.mp hw with h | hw
  · exact zplace _ zp_44 w h
  rcases List.mem_append.mp hw with h | hw
  · exact zplace _ zp_45 w h
  rcases List.mem_append.mp hw with h | hw
  · exact zplace _ zp_46 w h
  rcases List.mem_append.mp hw with h | hw
  · exact zplace _ zp_47 w h
  rcases List.mem_append.mp hw with h | hw
  · exact zplace _ zp_48 w h
  exact zplace _ zp_49 w hw
theorem zlaw_in : ∀ w ∈ wsL_law, w ∈ lw_tbl := by
  intro w hw
  unfold wsL_law at hw
  rw [List.mem_append, List.mem_append, List.mem_append, List.mem_append, List.mem_append, List.mem_append, List.mem_append, List.mem_append, List.mem_append, List.mem_append, List.mem_append, List.mem_append, List.mem_append] at hw
  rcases hw with ((((((((((((h | h) | h) | h) | h) | h) | h) | h) | h) | h) | h) | h) | h) | h
  · exact zR_in w h
  · exact zplace _ zpX10 w h
  · exact zplace _ zpX11 w h
  · exact zplace _ zpX8 w h
  · exact zplace _ zpX3 w h
  · exact zplace _ zpX4 w h
  · exact zplace _ zpX1 w h
  · exact zplace _ zpX0 w h
  · exact zplace _ zpX9 w h
  · exact zplace _ zpX6 w h
  · exact zplace _ zpX2 w h
  · exact zplace _ zpX5 w h
  · exact zplace _ zpX7 w h
  · cases h
def zrchk (ρ : Nat → Nat → Bool) : Bool := (List.range 137).all fun c => if (zk c).1 = 4 then (List.range 56).all (fun k => if (zft (zk c).2 k).1 = 2 ∨ (zft (zk c).2 k).1 = 3 ∨ (zft (zk c).2 k).1 = 4 then ρ c k else true) else true
set_option maxRecDepth 100000 in
theorem zrchk_ok : zrchk cr25 = true := by decide +kernel
theorem zfull {G : zG} {c : Nat} (hc : c < 137) : zenN G cs25 cr25 c = zen G cs25 c := by
  have h1 := List.all_eq_true.mp zrchk_ok c (List.mem_range.mpr hc)
  obtain ⟨t, x, hz⟩ : ∃ t x, zk c = (t, x) := ⟨_, _, rfl⟩
  by_cases ht : t = 4
  · subst ht
    rw [zenN_obj hz, zen_obj hz]
    rw [hz] at h1
    rw [if_pos rfl] at h1
    congr 2
    apply List.map_congr_left
    intro k hk
    have h2 := List.all_eq_true.mp h1 k hk
    unfold zslN zsl
    obtain ⟨u, y, hq⟩ : ∃ u y, zft x k = (u, y) := ⟨_, _, rfl⟩
    rw [hq] at h2 ⊢
    match u, h2 with
    | 0, _ => rfl
    | 1, _ => rfl
    | 2, h2 => rw [if_pos (Or.inl rfl)] at h2; show (if _ then _ else _) = _; rw [if_pos h2]; rfl
    | 3, h2 => rw [if_pos (Or.inr (Or.inl rfl))] at h2; show (if _ then _ else _) = _; rw [if_pos h2]; rfl
    | 4, h2 => rw [if_pos (Or.inr (Or.inr rfl))] at h2; show (if _ then _ else _) = _; rw [if_pos h2]; rfl
    | u + 5, _ => rfl
  · have h5 : (zk c).1 < 5 := (by decide +kernel : ∀ c, c < 137 → (zk c).1 < 5) c hc
    rw [hz] at h5
    have h6 : t < 5 := h5
    rcases (show t = 0 ∨ t = 1 ∨ t = 2 ∨ t = 3 by omega) with rfl | rfl | rfl | rfl
    · rw [zenN_i hz, zen_i hz]
    · rw [zenN_b hz, zen_b hz]
    · rw [zenN_z hz, zen_z hz]
    · rw [zenN_q hz, zen_q hz]
set_option maxRecDepth 100000 in
set_option maxHeartbeats 8000000 in
theorem whole_start {p : Program} {e : Env} {s : State} {m : MethodId} {below : List Frame} {meth : Method} {c : Code} (l : Launch) (hflags : l.flags = flags0) {b L : Nat} {xs : Nat → Int32} (hL : L ≤ 3072) (C0 : lw_At p s m meth c b L xs) : W p l e room_1 s m #[Value.ref b] below meth c s.heap [] 0 0 (lw_Z below #[Value.ref b] s) (entryFrame m ([Value.ref b] : List Value).toArray 4) := by
  obtain ⟨hx, hb, hr, hml, hown, hts, hX, hbl, hlocks, hgv⟩ := id C0
  have htl : ∀ w ∈ wsL_law, w.before #[Value.ref b] s = true := fun w hw => hts w (zlaw_in w hw)
  obtain ⟨c0, iS0, hKn0⟩ := u_known (C := RX0) (T := TX0) (N := 7) (n := 7) htl inlX0 (htl (.instantiable RX0 7) zm_2_7)
  obtain ⟨c1, iS1, hKn1⟩ := u_known (C := RX1) (T := TX1) (N := 1) (n := 1) htl inlX1 (htl (.instantiable RX1 1) zm_2_3)
  obtain ⟨c2, iS2, hKn2⟩ := u_known (C := RX2) (T := TX2) (N := 4) (n := 4) htl inlX2 (htl (.instantiable RX2 4) zm_2_19)
  obtain ⟨c3, iS3, hKn3⟩ := u_known (C := RX3) (T := TX3) (N := 19) (n := 19) htl inlX3 (htl (.instantiable RX3 19) zm_1_18)
  obtain ⟨c4, iS4, hKn4⟩ := u_known (C := RX4) (T := TX4) (N := 8) (n := 8) htl inlX4 (htl (.instantiable RX4 8) zm_1_23)
  obtain ⟨c5, iS5, hKn5⟩ := u_known (C := RX5) (T := TX5) (N := 6) (n := 6) htl inlX5 (htl (.instantiable RX5 6) zm_2_23)
  obtain ⟨c6, iS6, hKn6⟩ := u_known (C := RX6) (T := TX6) (N := 3) (n := 3) htl inlX6 (htl (.instantiable RX6 3) zm_2_15)
  obtain ⟨c7, iS7, hKn7⟩ := u_known (C := RX7) (T := TX7) (N := 3) (n := 3) htl inlX7 (htl (.instantiable RX7 3) zm_3_3)
  obtain ⟨c8, iS8, hKn8⟩ := u_known (C := RX8) (T := TX8) (N := 2) (n := 2) htl inlX8 (htl (.instantiable RX8 2) zm_1_14)
  obtain ⟨c9, iS9, hKn9⟩ := u_known (C := RX9) (T := TX9) (N := 2) (n := 2) htl inlX9 (htl (.instantiable RX9 2) zm_2_11)
  obtain ⟨c10, iS10, hKn10⟩ := u_known (C := RX10) (T := TX10) (N := 12) (n := 12) htl inlX10 (htl (.instantiable RX10 12) zm_1_1)
  obtain ⟨c11, iS11, hKn11⟩ := u_known (C := RX11) (T := TX11) (N := 56) (n := 56) htl inlX11 (htl (.instantiable RX11 56) zm_1_4)
  obtain ⟨dC, dI, hKc⟩ : ∃ (dC : Nat → ClassId) (dI : Nat → Nat → Nat), ∀ (k : Nat) (q : vw_C), zcl[k]? = some q → u_Kn s q.1 q.2.1 q.2.2 (dC k) (dI k) := by
    refine ⟨fun k => [c0, c1, c2, c3, c4, c5, c6, c7, c8, c9, c10, c11].getD k c0, fun k => [iS0, iS1, iS2, iS3, iS4, iS5, iS6, iS7, iS8, iS9, iS10, iS11].getD k iS0, ?_⟩
    intro k q hq
    match k, hq with
    | 0, hq => cases hq; exact hKn0
    | 1, hq => cases hq; exact hKn1
    | 2, hq => cases hq; exact hKn2
    | 3, hq => cases hq; exact hKn3
    | 4, hq => cases hq; exact hKn4
    | 5, hq => cases hq; exact hKn5
    | 6, hq => cases hq; exact hKn6
    | 7, hq => cases hq; exact hKn7
    | 8, hq => cases hq; exact hKn8
    | 9, hq => cases hq; exact hKn9
    | 10, hq => cases hq; exact hKn10
    | 11, hq => cases hq; exact hKn11
    | k + 12, hq => simp [zcl] at hq
  obtain ⟨aI, kI, mI, fI, gI, hI⟩ := Cond.arrayClass_spec (show (Cond.arrayClass .int).holds #[Value.ref b] s none s [] = true from htl (.arrayClass .int) zm_3_17)
  obtain ⟨aB, kB, mB, fB, gB, hB⟩ := Cond.arrayClass_spec (show (Cond.arrayClass .byte).holds #[Value.ref b] s none s [] = true from htl (.arrayClass .byte) zm_3_10)
  obtain ⟨aZ, kZ, mZ, fZ, gZ, hZ⟩ := Cond.arrayClass_spec (show (Cond.arrayClass .boolean).holds #[Value.ref b] s none s [] = true from htl (.arrayClass .boolean) zm_5_13)
  have hao := hts (.arrayOver (.array .int)) (List.mem_of_getElem? (i := 111) (by decide +kernel))
  obtain ⟨mQ, aQ, kQ, -, gQ, hQ, fQ⟩ := Cond.arrayOver_specA (show (Cond.arrayOver (.array .int)).holds #[Value.ref b] s none s [] = true from hao)
  have hs := flat_of_before _ hgv
  have hA : ∀ a : Nat, a < s.heap.size → ¬ (fun q : Nat => s.heap.size ≤ q) a := fun a h => Nat.not_le.mpr h
  obtain ⟨adK, adV, hSt, hev⟩ := vk_Sof (args := #[Value.ref b]) (s := s) (N := 3) (tm := fun i => Term.string RX4 ([48, 57, 62].getD i 0)) (len := [4, 4, 3]) (byt := [[108, 105, 110, 101], [108, 111, 111, 112], [101, 110, 100]]) (A := fun q : Nat => s.heap.size ≤ q)
    (fun i hi => match i, hi with | 0, _ => (by decide) | 1, _ => (by decide) | 2, _ => (by decide) | k + 3, h => absurd h (by omega))
    (fun i hi => match i, hi with | 0, _ => hs (Cond.exactly (Term.string "EventCounters$Reader" 48) "java/lang/String") (by decide +kernel) | 1, _ => hs (Cond.exactly (Term.string "EventCounters$Reader" 57) "java/lang/String") (by decide +kernel) | 2, _ => hs (Cond.exactly (Term.string "EventCounters$Reader" 62) "java/lang/String") (by decide +kernel) | k + 3, h => absurd h (by omega))
    (fun i hi => match i, hi with | 0, _ => hs (Cond.eq (Term.field (Term.string "EventCounters$Reader" 48) "java/lang/String" "coder" "B") (.int 0)) (by decide +kernel) | 1, _ => hs (Cond.eq (Term.field (Term.string "EventCounters$Reader" 57) "java/lang/String" "coder" "B") (.int 0)) (by decide +kernel) | 2, _ => hs (Cond.eq (Term.field (Term.string "EventCounters$Reader" 62) "java/lang/String" "coder" "B") (.int 0)) (by decide +kernel) | k + 3, h => absurd h (by omega))
    (fun i hi => match i, hi with | 0, _ => hs (Cond.arrayOf (Term.field (Term.string "EventCounters$Reader" 48) "java/lang/String" "value" "[B") .byte) (by decide +kernel) | 1, _ => hs (Cond.arrayOf (Term.field (Term.string "EventCounters$Reader" 57) "java/lang/String" "value" "[B") .byte) (by decide +kernel) | 2, _ => hs (Cond.arrayOf (Term.field (Term.string "EventCounters$Reader" 62) "java/lang/String" "value" "[B") .byte) (by decide +kernel) | k + 3, h => absurd h (by omega))
    (fun i hi => match i, hi with | 0, _ => hs (Cond.eq (.length (Term.field (Term.string "EventCounters$Reader" 48) "java/lang/String" "value" "[B")) (.int 4)) (by decide +kernel) | 1, _ => hs (Cond.eq (.length (Term.field (Term.string "EventCounters$Reader" 57) "java/lang/String" "value" "[B")) (.int 4)) (by decide +kernel) | 2, _ => hs (Cond.eq (.length (Term.field (Term.string "EventCounters$Reader" 62) "java/lang/String" "value" "[B")) (.int 3)) (by decide +kernel) | k + 3, h => absurd h (by omega))
    (fun i hi => match i, hi with | 0, _ => (fun j hj => match j, hj with | 0, _ => hs (Cond.eq (.elem (Term.field (Term.string "EventCounters$Reader" 48) "java/lang/String" "value" "[B") (.int 0)) (.int 108)) (by decide +kernel) | 1, _ => hs (Cond.eq (.elem (Term.field (Term.string "EventCounters$Reader" 48) "java/lang/String" "value" "[B") (.int 1)) (.int 105)) (by decide +kernel) | 2, _ => hs (Cond.eq (.elem (Term.field (Term.string "EventCounters$Reader" 48) "java/lang/String" "value" "[B") (.int 2)) (.int 110)) (by decide +kernel) | 3, _ => hs (Cond.eq (.elem (Term.field (Term.string "EventCounters$Reader" 48) "java/lang/String" "value" "[B") (.int 3)) (.int 101)) (by decide +kernel) | k + 4, h => absurd h (by show ¬ (k + 4 < 4); omega)) | 1, _ => (fun j hj => match j, hj with | 0, _ => hs (Cond.eq (.elem (Term.field (Term.string "EventCounters$Reader" 57) "java/lang/String" "value" "[B") (.int 0)) (.int 108)) (by decide +kernel) | 1, _ => hs (Cond.eq (.elem (Term.field (Term.string "EventCounters$Reader" 57) "java/lang/String" "value" "[B") (.int 1)) (.int 111)) (by decide +kernel) | 2, _ => hs (Cond.eq (.elem (Term.field (Term.string "EventCounters$Reader" 57) "java/lang/String" "value" "[B") (.int 2)) (.int 111)) (by decide +kernel) | 3, _ => hs (Cond.eq (.elem (Term.field (Term.string "EventCounters$Reader" 57) "java/lang/String" "value" "[B") (.int 3)) (.int 112)) (by decide +kernel) | k + 4, h => absurd h (by show ¬ (k + 4 < 4); omega)) | 2, _ => (fun j hj => match j, hj with | 0, _ => hs (Cond.eq (.elem (Term.field (Term.string "EventCounters$Reader" 62) "java/lang/String" "value" "[B") (.int 0)) (.int 101)) (by decide +kernel) | 1, _ => hs (Cond.eq (.elem (Term.field (Term.string "EventCounters$Reader" 62) "java/lang/String" "value" "[B") (.int 1)) (.int 110)) (by decide +kernel) | 2, _ => hs (Cond.eq (.elem (Term.field (Term.string "EventCounters$Reader" 62) "java/lang/String" "value" "[B") (.int 2)) (.int 100)) (by decide +kernel) | k + 3, h => absurd h (by show ¬ (k + 3 < 3); omega)) | k + 3, h => absurd h (by omega))
    (fun i j hi hj hij => match i, j, hi, hj, hij with | 0, 0, _, _, h => absurd rfl h | 0, 1, _, _, _ => Or.inl (hs (Cond.not (Cond.eq (Term.string "EventCounters$Reader" 48) (Term.string "EventCounters$Reader" 57))) (by decide +kernel)) | 0, 2, _, _, _ => Or.inl (hs (Cond.not (Cond.eq (Term.string "EventCounters$Reader" 48) (Term.string "EventCounters$Reader" 62))) (by decide +kernel)) | 1, 0, _, _, _ => Or.inr (hs (Cond.not (Cond.eq (Term.string "EventCounters$Reader" 48) (Term.string "EventCounters$Reader" 57))) (by decide +kernel)) | 1, 1, _, _, h => absurd rfl h | 1, 2, _, _, _ => Or.inl (hs (Cond.not (Cond.eq (Term.string "EventCounters$Reader" 57) (Term.string "EventCounters$Reader" 62))) (by decide +kernel)) | 2, 0, _, _, _ => Or.inr (hs (Cond.not (Cond.eq (Term.string "EventCounters$Reader" 48) (Term.string "EventCounters$Reader" 62))) (by decide +kernel)) | 2, 1, _, _, _ => Or.inr (hs (Cond.not (Cond.eq (Term.string "EventCounters$Reader" 57) (Term.string "EventCounters$Reader" 62))) (by decide +kernel)) | 2, 2, _, _, h => absurd rfl h | k + 3, _, h, _, _ => absurd h (by omega) | 0, k + 3, _, h, _ => absurd h (by omega) | 1, k + 3, _, h, _ => absurd h (by omega) | 2, k + 3, _, h, _ => absurd h (by omega))
    hA
  obtain ⟨G, hG⟩ : ∃ G : zG, G = (s.heap.size, (dC, dI), aI, aB, aZ, aQ, adK, adV) := ⟨_, rfl⟩
  have hG1 : G.1 = s.heap.size := by rw [hG]
  have hK : va_K G.2.1 zcl (zty G) s := by
    subst hG
    refine ⟨hKc, fun k q hq => ?_⟩
    match k, hq with
    | 0, hq => cases hq; exact ⟨fun n z => ⟨fun k h => (by cases h), kI, gI, mI, hI⟩, fI⟩
    | 1, hq => cases hq; exact ⟨fun n z => ⟨fun k h => (by cases h), kB, gB, mB, hB⟩, fB⟩
    | 2, hq => cases hq; exact ⟨fun n z => ⟨fun k h => (by cases h), kZ, gZ, mZ, hZ⟩, fZ⟩
    | 3, hq => cases hq; exact ⟨fun n z => ⟨fun k h => (by cases h), kQ, gQ, mQ, hQ⟩, fQ⟩
    | k + 4, hq => simp [zty] at hq
  have hN : zNs s := by
    refine ⟨fun w hw => ?_, hao⟩
    simp only [zNest, List.mem_cons, List.not_mem_nil, or_false] at hw
    rcases hw with rfl | rfl | rfl | rfl | rfl | rfl | rfl | rfl | rfl | rfl | rfl | rfl | rfl | rfl
    · exact va_Nw.of rfl (A := #[Value.ref b]) (hts _ (List.mem_of_getElem? (i := 89) (by decide +kernel)))
    · exact va_Nw.of rfl (A := #[Value.ref b]) (hts _ (List.mem_of_getElem? (i := 106) (by decide +kernel)))
    · exact va_Nw.of rfl (A := #[Value.ref b]) (hts _ (List.mem_of_getElem? (i := 231) (by decide +kernel)))
    · exact va_Nw.of rfl (A := #[Value.ref b]) (hts _ (List.mem_of_getElem? (i := 242) (by decide +kernel)))
    · exact va_Nw.of rfl (A := #[Value.ref b]) (hts _ (List.mem_of_getElem? (i := 276) (by decide +kernel)))
    · exact va_Nw.of rfl (A := #[Value.ref b]) (hts _ (List.mem_of_getElem? (i := 291) (by decide +kernel)))
    · exact va_Nw.of rfl (A := #[Value.ref b]) (hts _ (List.mem_of_getElem? (i := 310) (by decide +kernel)))
    · exact va_Nw.of rfl (A := #[Value.ref b]) (hts _ (List.mem_of_getElem? (i := 331) (by decide +kernel)))
    · exact va_Nw.of rfl (A := #[Value.ref b]) (hts _ (List.mem_of_getElem? (i := 359) (by decide +kernel)))
    · exact va_Nw.of rfl (A := #[Value.ref b]) (hts _ (List.mem_of_getElem? (i := 531) (by decide +kernel)))
    · exact va_Nw.of rfl (A := #[Value.ref b]) (hts _ (List.mem_of_getElem? (i := 534) (by decide +kernel)))
    · exact va_Nw.of rfl (A := #[Value.ref b]) (hts _ (List.mem_of_getElem? (i := 725) (by decide +kernel)))
    · exact va_Nw.of rfl (A := #[Value.ref b]) (hts _ (List.mem_of_getElem? (i := 783) (by decide +kernel)))
    · exact va_Nw.of rfl (A := #[Value.ref b]) (hts _ (List.mem_of_getElem? (i := 938) (by decide +kernel)))
  have hStr : zStr G s s.heap := by
    subst hG
    refine ⟨hSt, ⟨vk_R.of (hts (.stringRef RX4 48 "line") (List.mem_of_getElem? (i := 462) (by decide +kernel))) (hev 0 (by decide)), vk_R.of (hts (.stringRef RX4 57 "loop") (List.mem_of_getElem? (i := 545) (by decide +kernel))) (hev 1 (by decide)), vk_R.of (hts (.stringRef RX4 62 "end") (List.mem_of_getElem? (i := 558) (by decide +kernel))) (hev 2 (by decide))⟩, ?_, ?_⟩
    · exact va_Zof (hts (.laysStatic "java/lang/String" "COMPACT_STRINGS" "Z") (List.mem_of_getElem? (i := 476) (by decide +kernel))) (htl (.initialized "java/lang/String") zm_12_1) (va_eqi (hs (Cond.eq (.static "java/lang/String" "COMPACT_STRINGS" "Z") (.int 1)) (by decide +kernel))) hA
    · exact va_Zqof (hts (.laysStatic "jdk/internal/util/Preconditions" "SIOOBE_FORMATTER" "Ljava/util/function/BiFunction;") (List.mem_of_getElem? (i := 492) (by decide +kernel))) (htl (.initialized "jdk/internal/util/Preconditions") zm_13_4) (hs (Cond.isRef (.static "jdk/internal/util/Preconditions" "SIOOBE_FORMATTER" "Ljava/util/function/BiFunction;")) (by decide +kernel)) hA
  have C : zC G code 4 RL p s m #[Value.ref b] meth c := ⟨⟨hx, hb, hml, hown, htl⟩, hK, hN, hStr, hlocks, by rw [hG1]; exact Nat.le_refl _⟩
  have hl := lv_entry ([.ref b]) (n := 4) (Nat.le_of_ble_eq_true rfl)
  rw [lg_entry_eq]
  have hH : zH G 0 (zenN G zs0 zr0) s s.heap [] := ⟨fun k q h => by obtain ⟨h1, -⟩ := zwl_lt h; exact absurd h1 (Nat.not_lt_zero _), by rw [hG1]; rfl, va_S.rf⟩
  have go : zW G 4 p l e room_1 s m #[Value.ref b] below meth c (lw_Z below #[Value.ref b] s) 0 0 0 (zenN G zs0 zr0) 0 (lv_args 0 [.ref b]) [] := by
    refine zr_sub [0] [(0, .ref b)] rfl ?_
    refine zn_new C (N := 12) tyX10 zk_0 (rfl : zcl[10]? = some (RX10, TX10, 12)) tyX10_ok zdf_10 (by decide) fr0 zm_1_0 zm_1_1 zm_1_2 ⟨Nat.le_of_ble_eq_true rfl, Nat.le_of_ble_eq_true rfl⟩ dL_law_0 (fun hF1 => ?_)
    refine zr_dup C dL_law_3 rfl ?_
    refine zn_callI C (na := 0) (As := []) (MC_X10_init_1 G l hF1) zm_1_8 zm_1_2 zm_1_9 (by decide +kernel) rfl zm_1_7 rfl rfl (Nat.le_of_ble_eq_true rfl) ⟨Nat.le_of_ble_eq_true rfl, Nat.le_of_ble_eq_true rfl⟩ ⟨Nat.le_of_ble_eq_true rfl, Nat.le_of_ble_eq_true rfl⟩ dL_law_4 ?_
    refine zr_astore_n C [(1, .ref (G.1 + 0)), (0, .ref b)] dL_law_7 (by decide) rfl ?_
    refine zn_new C (N := 56) tyX11 zk_105 (rfl : zcl[11]? = some (RX11, TX11, 56)) tyX11_ok zdf_11 (by decide) fr23 zm_1_3 zm_1_4 zm_1_5 ⟨Nat.le_of_ble_eq_true rfl, Nat.le_of_ble_eq_true rfl⟩ dL_law_8 (fun hF2 => ?_)
    refine zr_dup C dL_law_11 rfl ?_
    refine zn_callI C (na := 0) (As := []) (MC_X11_init_106 G l hF2) zm_7_8 zm_1_5 zm_7_9 (by decide +kernel) rfl zm_7_7 rfl rfl (Nat.le_of_ble_eq_true rfl) ⟨Nat.le_of_ble_eq_true rfl, Nat.le_of_ble_eq_true rfl⟩ ⟨Nat.le_of_ble_eq_true rfl, Nat.le_of_ble_eq_true rfl⟩ dL_law_12 ?_
    refine zr_astore_n C [(2, .ref (G.1 + 105)), (1, .ref (G.1 + 0)), (0, .ref b)] dL_law_15 (by decide) rfl ?_
    refine zr_iconst C dL_law_16 (v := 0) (by decide) ?_
    refine zr_istore_n C [(3, .int 0), (2, .ref (G.1 + 105)), (1, .ref (G.1 + 0)), (0, .ref b)] dL_law_17 (by decide) rfl ?_
    have hM := M_law (l := l) (p := p) (e := e) (below := below) C ⟨hr, hG1⟩ hX ⟨hbl, by show ¬ G.1 ≤ b; rw [hG1]; exact Nat.not_le.mpr hbl⟩ (pure_law xs L hL)
    intro H locs ls h hl
    exact hM H locs ls ⟨fun k q hq => by
      obtain ⟨h1, rfl⟩ := zwl_lt hq
      have := h.1 k _ (zwl_get h1)
      rw [zfull h1] at this
      exact this, h.2⟩ hl
  exact go s.heap [] _ hH hl
set_option maxHeartbeats 4000000 in
theorem lw_walk (l : Launch) (hflags : l.flags = flags0) (b : Addr) (xs : List Int32) : MetFree l x (headSpec (Jvm.Cond.code x code maxLocals ret :: tables_1) room_1) (lw_P b xs) (fun _ _ _ _ _ => True) lw_Q := by
  refine MetFree.of_bodyS (code := code) (maxLocals := maxLocals) (ret := ret) (by decide) ?_ ?_
  · intro args s m h hn
    obtain ⟨meth, c, h1, h2, h3, h4, h5, h6, -, -⟩ := Cond.code_spec hn (atoms_spec (ws := Jvm.Cond.code x code maxLocals ret :: tables_1) h _ List.mem_cons_self)
    exact ⟨meth, c, h1, h2, h3, h4, h5, h6⟩
  · intro p e s m args below meth c s₁ B hml0 hP _
    obtain ⟨rfl, hx, hbd, hgv⟩ := hP
    obtain ⟨scr, harrAt, hlist, hof, hsmall⟩ := hx
    obtain ⟨hcb, hkn, -, -⟩ := State.arrayAt?_spec harrAt
    have hown : s.vm.findClass R_law = some m.cls := findClass_of_methodNamed B.named
    have hts0 : ∀ c ∈ (Jvm.Cond.code x code maxLocals ret :: tables_1), c.before #[Value.ref b] s = true := atoms_spec (ws := Jvm.Cond.code x code maxLocals ret :: tables_1) B.pre
    have hts : ∀ w ∈ lw_tbl, w.before #[Value.ref b] s = true := k2_hts_sels lw_privs (fun w hw => hts0 w (List.mem_cons_of_mem _ hw)) lw_privs_ok
    have hml : c.maxLocals = 4 := B.maxLocals_eq (hts0 _ List.mem_cons_self)
    have X₀ : Stand p l e room_1 s m #[Value.ref b] below meth c s₁ [] 0 0 := Stand.of_body B
    have hh0 : s₁.heap = s.heap := by rw [B.state]; rfl
    have hsz : scr.slots.size = xs.length := by rw [← Array.length_toList, hlist, List.length_map]
    have hval : ∀ j : Nat, j < xs.length → scr.slots[j]? = some (.int (xs.getD j 0)) := fun j hj => by
      rw [← Array.getElem?_toList, hlist]
      simp [hj]
    have hbl : b < s.heap.size := (Array.getElem?_eq_some_iff.mp hcb).1
    have hX : va_X b xs.length (fun j => xs.getD j 0) s s.heap := ⟨scr, hcb, hof, hkn, hsz, hval⟩
    have K : W p l e room_1 s m #[Value.ref b] below meth c s₁.heap [] 0 0 (lw_Z below #[Value.ref b] s) (entryFrame m ([Value.ref b] : List Value).toArray 4) := by
      rw [hh0]
      exact whole_start l hflags hbd ⟨B.exec, B.bytes, B.returns, hml, hown, hts, hX, hbl, B.notSynchronized, hgv⟩
    obtain ⟨t, a1, o, b1, b2, b3⟩ := K s₁ rfl X₀
    exact ⟨t, o, a1, b1, b2, b3⟩
theorem lw_pre_spec {args : Array Value} {s : State} (h : (Jvm.Cond.and given_1 narrow_1).before args s = true) (hr : rest_1_c.before args s = true) : ∃ (b : Addr) (xs : List Int32), lw_P b xs args s := by
  have hs := flat_of_before _ h
  have hq := flat_of_before _ hr
  have hc : (Cond.count 1).before args s = true := hs _ (by decide +kernel)
  have harr : (Cond.arrayOf (.arg 0) .int).before args s = true := hs _ (by decide +kernel)
  have hle : (Cond.le (.length (.arg 0)) (.int 3072)).before args s = true := hs _ (by decide +kernel)
  have hlen : (Cond.isInt (.length (.arg 0))).before args s = true := hq _ (by decide +kernel)
  have hall : (Cond.all (.arg 0) (.isInt (.elem (.arg 0) (.index 0)))).before args s = true := hq _ (by decide +kernel)
  obtain ⟨b, xs, hb, hx⟩ := State.ints_of_pre rfl harr hlen hall
  have hsm : xs.length < 2 ^ 31 := hx.choose_spec.2.2.2
  have hev : (Term.length (.arg 0)).eval args s none [] s = some (.int xs.length.toInt32) := hx.length_eval hb
  have hv := Cond.le_ints hev (show (Term.int 3072).eval args s none [] s = some (.int 3072) from rfl)
  have hd : xs.length.toInt32 ≤ 3072 := by
    simpa [Cond.before, Cond.holds, hv] using hle
  have hN : xs.length ≤ 3072 := (Int32.ofNat_le_ofNat hsm (by decide)).mp (show Int32.ofNat xs.length ≤ Int32.ofNat 3072 from hd)
  exact ⟨b, xs, Cond.one_arg hc (show args[0]? = some (.ref b) from hb), hx, hN, h⟩
theorem lw_comes (l : Launch) (hflags : l.flags = flags0) : Comes l x (Jvm.Cond.code x code maxLocals ret :: tables_1) room_1 (fun tb e args s => Calls_1 tb e args s ∧ rest_1 tb e args s ∧ Pre_1 tb e args s)
    (fun _ _ args s o t => lw_Q args s o t) := by
  intro p e ha hc hk s m args below hf hfit hheap happ hpre
  obtain ⟨b, xs, hP⟩ := lw_pre_spec hpre.2.2 hpre.2.1
  obtain ⟨k, o, h1, h2, h3, hQ⟩ := lw_walk l hflags b xs p e ha hc hk s m args below hf ((Spec.applies_iff_loose hf).mp happ).1 hP trivial
  exact ⟨k, o, h1, h2, h3, hQ⟩
theorem lw_frame {s t : State} {o : Outcome} {args : Array Value} (h : Framed s o t [] 600000 7302250) :
    Framed s o t (fieldLocs frame_1_writes args s ++ arrayLocs frame_1_arrays args s ++ staticLocs frame_1_statics s) 600000 7302250 := h
theorem lw_limb (L : Cond) (hL : ∀ (args : Array Value) (s t : State), L.after args s (.returned (some (.int 1))) t = true) :
    ArmFor flags0 classFile x code maxLocals ret World_1 tables_1 room_1 Calls_1 rest_1 Pre_1
      (fun tb e a s o t => postC L tb e a s o t ∧ Framed s o t (fieldLocs frame_1_writes a s ++ arrayLocs frame_1_arrays a s ++ staticLocs frame_1_statics s) 600000 7302250) := by
  intro l hflags _ _ p e ha hc hk s m args below hf hfit hheap happ hpre
  obtain ⟨k, o, h1, h2, h3, rfl, hF⟩ := lw_comes l hflags p e ha hc hk s m args below hf hfit hheap happ hpre
  exact ⟨k, _, h1, h2, h3, hL args s _, lw_frame hF⟩
theorem i_vc : Claimed_1_1 ∧ Claimed_1_2 := ⟨lw_limb limb_1_1 (fun args s t => by simp [limb_1_1, Cond.after, Cond.holds, Cond.value]), lw_limb limb_1_2 (fun args s t => Cond.after_iff.mpr (by
  first | (rw [show limb_1_2 = Cond.eq .result (.int 1) from rfl, Cond.eq_ints (x := 1) (y := 1) rfl rfl]; simp; done) | (simp [limb_1_2, Cond.value, Term.eval]; done)))⟩
