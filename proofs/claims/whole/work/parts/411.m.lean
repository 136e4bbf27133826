theorem dJ6_bitCount_0f7a4_0 : decode cJ6_bitCount_0f7a4 0 = .ok (.iload_n 0, 1) := by decide +kernel
theorem dJ6_bitCount_0f7a4_1 : decode cJ6_bitCount_0f7a4 1 = .ok (.iload_n 0, 1) := by decide +kernel
theorem dJ6_bitCount_0f7a4_2 : decode cJ6_bitCount_0f7a4 2 = .ok (.iconst 1, 1) := by decide +kernel
theorem dJ6_bitCount_0f7a4_3 : decode cJ6_bitCount_0f7a4 3 = .ok (.iushr, 1) := by decide +kernel
theorem dJ6_bitCount_0f7a4_4 : decode cJ6_bitCount_0f7a4 4 = .ok (.ldc_w 265, 3) := by decide +kernel
theorem dJ6_bitCount_0f7a4_7 : decode cJ6_bitCount_0f7a4 7 = .ok (.iand, 1) := by decide +kernel
theorem dJ6_bitCount_0f7a4_8 : decode cJ6_bitCount_0f7a4 8 = .ok (.isub, 1) := by decide +kernel
theorem dJ6_bitCount_0f7a4_9 : decode cJ6_bitCount_0f7a4 9 = .ok (.istore_n 0, 1) := by decide +kernel
theorem dJ6_bitCount_0f7a4_10 : decode cJ6_bitCount_0f7a4 10 = .ok (.iload_n 0, 1) := by decide +kernel
theorem dJ6_bitCount_0f7a4_11 : decode cJ6_bitCount_0f7a4 11 = .ok (.ldc_w 266, 3) := by decide +kernel
theorem dJ6_bitCount_0f7a4_14 : decode cJ6_bitCount_0f7a4 14 = .ok (.iand, 1) := by decide +kernel
theorem dJ6_bitCount_0f7a4_15 : decode cJ6_bitCount_0f7a4 15 = .ok (.iload_n 0, 1) := by decide +kernel
theorem dJ6_bitCount_0f7a4_16 : decode cJ6_bitCount_0f7a4 16 = .ok (.iconst 2, 1) := by decide +kernel
theorem dJ6_bitCount_0f7a4_17 : decode cJ6_bitCount_0f7a4 17 = .ok (.iushr, 1) := by decide +kernel
theorem dJ6_bitCount_0f7a4_18 : decode cJ6_bitCount_0f7a4 18 = .ok (.ldc_w 266, 3) := by decide +kernel
theorem dJ6_bitCount_0f7a4_21 : decode cJ6_bitCount_0f7a4 21 = .ok (.iand, 1) := by decide +kernel
theorem dJ6_bitCount_0f7a4_22 : decode cJ6_bitCount_0f7a4 22 = .ok (.iadd, 1) := by decide +kernel
theorem dJ6_bitCount_0f7a4_23 : decode cJ6_bitCount_0f7a4 23 = .ok (.istore_n 0, 1) := by decide +kernel
theorem dJ6_bitCount_0f7a4_24 : decode cJ6_bitCount_0f7a4 24 = .ok (.iload_n 0, 1) := by decide +kernel
theorem dJ6_bitCount_0f7a4_25 : decode cJ6_bitCount_0f7a4 25 = .ok (.iload_n 0, 1) := by decide +kernel
theorem dJ6_bitCount_0f7a4_26 : decode cJ6_bitCount_0f7a4 26 = .ok (.iconst 4, 1) := by decide +kernel
theorem dJ6_bitCount_0f7a4_27 : decode cJ6_bitCount_0f7a4 27 = .ok (.iushr, 1) := by decide +kernel
theorem dJ6_bitCount_0f7a4_28 : decode cJ6_bitCount_0f7a4 28 = .ok (.iadd, 1) := by decide +kernel
theorem dJ6_bitCount_0f7a4_29 : decode cJ6_bitCount_0f7a4 29 = .ok (.ldc_w 267, 3) := by decide +kernel
theorem dJ6_bitCount_0f7a4_32 : decode cJ6_bitCount_0f7a4 32 = .ok (.iand, 1) := by decide +kernel
theorem dJ6_bitCount_0f7a4_33 : decode cJ6_bitCount_0f7a4 33 = .ok (.istore_n 0, 1) := by decide +kernel
theorem dJ6_bitCount_0f7a4_34 : decode cJ6_bitCount_0f7a4 34 = .ok (.iload_n 0, 1) := by decide +kernel
theorem dJ6_bitCount_0f7a4_35 : decode cJ6_bitCount_0f7a4 35 = .ok (.iload_n 0, 1) := by decide +kernel
theorem dJ6_bitCount_0f7a4_36 : decode cJ6_bitCount_0f7a4 36 = .ok (.bipush 8, 2) := by decide +kernel
theorem dJ6_bitCount_0f7a4_38 : decode cJ6_bitCount_0f7a4 38 = .ok (.iushr, 1) := by decide +kernel
theorem dJ6_bitCount_0f7a4_39 : decode cJ6_bitCount_0f7a4 39 = .ok (.iadd, 1) := by decide +kernel
theorem dJ6_bitCount_0f7a4_40 : decode cJ6_bitCount_0f7a4 40 = .ok (.istore_n 0, 1) := by decide +kernel
theorem dJ6_bitCount_0f7a4_41 : decode cJ6_bitCount_0f7a4 41 = .ok (.iload_n 0, 1) := by decide +kernel
theorem dJ6_bitCount_0f7a4_42 : decode cJ6_bitCount_0f7a4 42 = .ok (.iload_n 0, 1) := by decide +kernel
theorem dJ6_bitCount_0f7a4_43 : decode cJ6_bitCount_0f7a4 43 = .ok (.bipush 16, 2) := by decide +kernel
theorem dJ6_bitCount_0f7a4_45 : decode cJ6_bitCount_0f7a4 45 = .ok (.iushr, 1) := by decide +kernel
theorem dJ6_bitCount_0f7a4_46 : decode cJ6_bitCount_0f7a4 46 = .ok (.iadd, 1) := by decide +kernel
theorem dJ6_bitCount_0f7a4_47 : decode cJ6_bitCount_0f7a4 47 = .ok (.istore_n 0, 1) := by decide +kernel
theorem dJ6_bitCount_0f7a4_48 : decode cJ6_bitCount_0f7a4 48 = .ok (.iload_n 0, 1) := by decide +kernel
theorem dJ6_bitCount_0f7a4_49 : decode cJ6_bitCount_0f7a4 49 = .ok (.bipush 63, 2) := by decide +kernel
theorem dJ6_bitCount_0f7a4_51 : decode cJ6_bitCount_0f7a4 51 = .ok (.iand, 1) := by decide +kernel
theorem dJ6_bitCount_0f7a4_52 : decode cJ6_bitCount_0f7a4 52 = .ok (.ireturn, 1) := by decide +kernel
set_option maxRecDepth 100000 in
set_option maxHeartbeats 4000000 in
theorem M_J6_bitCount_0f7a4 (G : zG) (l : Launch) {a0 : Int32} {σ : zS} {r : Int32} (hJ : J_J6_bitCount_0f7a4 a0 σ = some r) : zMI G l yJ6_bitCount_0f7a4 cJ6_bitCount_0f7a4 1 (some .int) (zrm 0 0) [.int a0] 137 (zen G σ) r 137 (zen G σ) := by
  unfold J_J6_bitCount_0f7a4 at hJ
  refine zentI (by decide +kernel) (Nat.le_of_ble_eq_true rfl) ?_
  intro p e s m args below meth c C hret
  refine zr_sub [0] [(0, .int a0)] rfl ?_
  refine zr_iload_n C 0 dJ6_bitCount_0f7a4_0 rfl ?_
  refine zr_iload_n C 0 dJ6_bitCount_0f7a4_1 rfl ?_
  refine zr_iconst C dJ6_bitCount_0f7a4_2 (v := (1 : Int32)) (by decide) ?_
  refine zr_iushr C dJ6_bitCount_0f7a4_3 ?_
  refine zr_ldcw C dJ6_bitCount_0f7a4_4 zm_31_9 ?_
  refine zr_iand C dJ6_bitCount_0f7a4_7 ?_
  refine zr_isub C dJ6_bitCount_0f7a4_8 ?_
  obtain ⟨v1, hv1, hJ⟩ := zlet_e hJ
  refine zr_topi hv1 ?_
  refine zr_istore_n C [(0, .int v1)] dJ6_bitCount_0f7a4_9 (by decide) rfl ?_
  refine zr_iload_n C 0 dJ6_bitCount_0f7a4_10 rfl ?_
  refine zr_ldcw C dJ6_bitCount_0f7a4_11 zm_31_10 ?_
  refine zr_iand C dJ6_bitCount_0f7a4_14 ?_
  refine zr_iload_n C 0 dJ6_bitCount_0f7a4_15 rfl ?_
  refine zr_iconst C dJ6_bitCount_0f7a4_16 (v := (2 : Int32)) (by decide) ?_
  refine zr_iushr C dJ6_bitCount_0f7a4_17 ?_
  refine zr_ldcw C dJ6_bitCount_0f7a4_18 zm_31_10 ?_
  refine zr_iand C dJ6_bitCount_0f7a4_21 ?_
  refine zr_iadd C dJ6_bitCount_0f7a4_22 ?_
  obtain ⟨v2, hv2, hJ⟩ := zlet_e hJ
  refine zr_topi hv2 ?_
  refine zr_istore_n C [(0, .int v2)] dJ6_bitCount_0f7a4_23 (by decide) rfl ?_
  refine zr_iload_n C 0 dJ6_bitCount_0f7a4_24 rfl ?_
  refine zr_iload_n C 0 dJ6_bitCount_0f7a4_25 rfl ?_
  refine zr_iconst C dJ6_bitCount_0f7a4_26 (v := (4 : Int32)) (by decide) ?_
  refine zr_iushr C dJ6_bitCount_0f7a4_27 ?_
  refine zr_iadd C dJ6_bitCount_0f7a4_28 ?_
  refine zr_ldcw C dJ6_bitCount_0f7a4_29 zm_31_11 ?_
  refine zr_iand C dJ6_bitCount_0f7a4_32 ?_
  obtain ⟨v3, hv3, hJ⟩ := zlet_e hJ
  refine zr_topi hv3 ?_
  refine zr_istore_n C [(0, .int v3)] dJ6_bitCount_0f7a4_33 (by decide) rfl ?_
  refine zr_iload_n C 0 dJ6_bitCount_0f7a4_34 rfl ?_
  refine zr_iload_n C 0 dJ6_bitCount_0f7a4_35 rfl ?_
  refine zr_bipush C dJ6_bitCount_0f7a4_36 (v := (8 : Int32)) (by decide) ?_
  refine zr_iushr C dJ6_bitCount_0f7a4_38 ?_
  refine zr_iadd C dJ6_bitCount_0f7a4_39 ?_
  obtain ⟨v4, hv4, hJ⟩ := zlet_e hJ
  refine zr_topi hv4 ?_
  refine zr_istore_n C [(0, .int v4)] dJ6_bitCount_0f7a4_40 (by decide) rfl ?_
  refine zr_iload_n C 0 dJ6_bitCount_0f7a4_41 rfl ?_
  refine zr_iload_n C 0 dJ6_bitCount_0f7a4_42 rfl ?_
  refine zr_bipush C dJ6_bitCount_0f7a4_43 (v := (16 : Int32)) (by decide) ?_
  refine zr_iushr C dJ6_bitCount_0f7a4_45 ?_
  refine zr_iadd C dJ6_bitCount_0f7a4_46 ?_
  obtain ⟨v5, hv5, hJ⟩ := zlet_e hJ
  refine zr_topi hv5 ?_
  refine zr_istore_n C [(0, .int v5)] dJ6_bitCount_0f7a4_47 (by decide) rfl ?_
  refine zr_iload_n C 0 dJ6_bitCount_0f7a4_48 rfl ?_
  refine zr_bipush C dJ6_bitCount_0f7a4_49 (v := (63 : Int32)) (by decide) ?_
  refine zr_iand C dJ6_bitCount_0f7a4_51 ?_
  exact zr_iret C hret (zs_e hJ) rfl rfl dJ6_bitCount_0f7a4_52
theorem dX0_begin_0 : decode cX0_begin 0 = .ok (.aload_n 0, 1) := by decide +kernel
theorem dX0_begin_1 : decode cX0_begin 1 = .ok (.iload_n 1, 1) := by decide +kernel
theorem dX0_begin_2 : decode cX0_begin 2 = .ok (.putfield 9, 3) := by decide +kernel
theorem dX0_begin_5 : decode cX0_begin 5 = .ok (.aload_n 0, 1) := by decide +kernel
theorem dX0_begin_6 : decode cX0_begin 6 = .ok (.iconst 0, 1) := by decide +kernel
theorem dX0_begin_7 : decode cX0_begin 7 = .ok (.putfield 32, 3) := by decide +kernel
theorem dX0_begin_10 : decode cX0_begin 10 = .ok (.iconst 0, 1) := by decide +kernel
theorem dX0_begin_11 : decode cX0_begin 11 = .ok (.istore_n 2, 1) := by decide +kernel
theorem dX0_begin_12 : decode cX0_begin 12 = .ok (.iload_n 2, 1) := by decide +kernel
theorem dX0_begin_13 : decode cX0_begin 13 = .ok (.iconst 4, 1) := by decide +kernel
theorem dX0_begin_14 : decode cX0_begin 14 = .ok (.if_icmp .ge 26, 3) := by decide +kernel
theorem dX0_begin_17 : decode cX0_begin 17 = .ok (.aload_n 0, 1) := by decide +kernel
theorem dX0_begin_18 : decode cX0_begin 18 = .ok (.getfield 15, 3) := by decide +kernel
theorem dX0_begin_21 : decode cX0_begin 21 = .ok (.iload_n 2, 1) := by decide +kernel
theorem dX0_begin_22 : decode cX0_begin 22 = .ok (.sipush 255, 3) := by decide +kernel
theorem dX0_begin_25 : decode cX0_begin 25 = .ok (.iastore, 1) := by decide +kernel
theorem dX0_begin_26 : decode cX0_begin 26 = .ok (.aload_n 0, 1) := by decide +kernel
theorem dX0_begin_27 : decode cX0_begin 27 = .ok (.getfield 19, 3) := by decide +kernel
theorem dX0_begin_30 : decode cX0_begin 30 = .ok (.iload_n 2, 1) := by decide +kernel
theorem dX0_begin_31 : decode cX0_begin 31 = .ok (.bipush 8, 2) := by decide +kernel
theorem dX0_begin_33 : decode cX0_begin 33 = .ok (.iastore, 1) := by decide +kernel
theorem dX0_begin_34 : decode cX0_begin 34 = .ok (.iinc 2 1, 3) := by decide +kernel
theorem dX0_begin_37 : decode cX0_begin 37 = .ok (.goto (-25), 3) := by decide +kernel
theorem dX0_begin_40 : decode cX0_begin 40 = .ok (.return_, 1) := by decide +kernel
set_option maxRecDepth 100000 in
set_option maxHeartbeats 4000000 in
theorem M_X0_begin (G : zG) (l : Launch) {a1 : Int32} {σ : zS} {σ' : zS} (hJ : J_X0_begin a1 σ = some σ') : zMV G l yX0_begin cX0_begin 3 none (zrm 0 0) [.ref (G.1 + 82), .int a1] 137 (zen G σ) 137 (zen G σ') := by
  unfold J_X0_begin at hJ
  refine zentV (by decide +kernel) (Nat.le_of_ble_eq_true rfl) ?_
  intro p e s m args below meth c C hret
  refine zr_sub [0, 1] [(0, .ref (G.1 + 82)), (1, .int a1)] rfl ?_
  refine zr_aload_n C 0 dX0_begin_0 rfl ?_
  refine zr_iload_n C 1 dX0_begin_1 rfl ?_
  obtain ⟨σ1, hσ1, hJ⟩ := zlet_e hJ
  refine zp_0_0 C 82 zk_82 zm_5_9 hσ1 dX0_begin_2 ?_
  refine zr_aload_n C 0 dX0_begin_5 rfl ?_
  refine zr_iconst C dX0_begin_6 (v := (0 : Int32)) (by decide) ?_
  obtain ⟨σ2, hσ2, hJ⟩ := zlet_e hJ
  refine zp_0_6 C 82 zk_82 zm_5_16 rfl rfl hσ2 dX0_begin_7 ?_
  refine zr_iconst C dX0_begin_10 (v := (0 : Int32)) (by decide) ?_
  refine zr_istore_n C [(2, .int (0 : Int32)), (0, .ref (G.1 + 82)), (1, .int a1)] dX0_begin_11 (by decide) rfl ?_
  have hl12 : ∀ (n : Nat) (w2_12 : Int32) (σ_12 : zS), L_X0_begin_12 n w2_12 σ_12 = some σ' → zU G 3 p l e (zrm 0 0) s m args below meth c (MQ below (va_Qv (fun (_ : Unit) => True) (fun _ t => zok G 137 (zen G σ') t) (zA G)) args s 0 0 (zA G)) σ_12 12 [(0, .ref (G.1 + 82)), (2, .int w2_12)] [] := by
    intro n
    induction n with
    | zero =>
      intro w2_12 σ_12 hJ
      rw [L_X0_begin_12] at hJ
      cases hJ
    | succ n ih =>
      intro w2_12 σ_12 hJ
      rw [L_X0_begin_12] at hJ
      obtain ⟨r_12, hr_12, hJ⟩ := zlet_e hJ
      have ih12 : ∀ (w2_12 : Int32) (σ_12 : zS), r_12 w2_12 σ_12 = some σ' → zU G 3 p l e (zrm 0 0) s m args below meth c (MQ below (va_Qv (fun (_ : Unit) => True) (fun _ t => zok G 137 (zen G σ') t) (zA G)) args s 0 0 (zA G)) σ_12 12 [(0, .ref (G.1 + 82)), (2, .int w2_12)] [] := by
        rw [hr_12]
        exact ih
      refine zr_iload_n C 1 dX0_begin_12 rfl ?_
      refine zr_iconst C dX0_begin_13 (v := (4 : Int32)) (by decide) ?_
      refine zr_icmp_ge C 40 dX0_begin_14 (by decide) (fun hc3 => ?_) (fun hc3 => ?_)
      · have hJ := zif hc3 hJ
        exact zr_vret C hret rfl (congrArg (zen G) (zs_e hJ)) dX0_begin_40
      · have hJ := zif' hc3 hJ
        refine zr_aload_n C 0 dX0_begin_17 rfl ?_
        refine zg_0_1 C 82 zk_82 zm_5_10 dX0_begin_18 ?_
        refine zr_iload_n C 1 dX0_begin_21 rfl ?_
        refine zr_sipush C dX0_begin_22 (v := (255 : Int32)) (by decide) ?_
        obtain ⟨hg4, hJ⟩ := zg_e hJ
        obtain ⟨σ5, hσ5, hJ⟩ := zlet_e hJ
        refine zv_iast C 83 zk_83 hg4 hσ5 dX0_begin_25 ?_
        refine zr_aload_n C 0 dX0_begin_26 rfl ?_
        refine zg_0_2 C 82 zk_82 zm_5_11 dX0_begin_27 ?_
        refine zr_iload_n C 1 dX0_begin_30 rfl ?_
        refine zr_bipush C dX0_begin_31 (v := (8 : Int32)) (by decide) ?_
        obtain ⟨hg6, hJ⟩ := zg_e hJ
        obtain ⟨σ7, hσ7, hJ⟩ := zlet_e hJ
        refine zv_iast C 84 zk_84 hg6 hσ7 dX0_begin_33 ?_
        obtain ⟨v8, hv8, hJ⟩ := zlet_e hJ
        refine zr_iinc C v8 1 [(2, .int v8), (0, .ref (G.1 + 82))] dX0_begin_34 rfl (hv8.trans (zinc (by decide))) (by decide) rfl ?_
        refine zr_goto C 12 dX0_begin_37 (by decide) ?_
        refine zr_sub [1, 0] [(0, .ref (G.1 + 82)), (2, .int v8)] rfl ?_
        exact ih12 _ _ hJ
  refine zr_sub [1, 0] [(0, .ref (G.1 + 82)), (2, .int (0 : Int32))] rfl ?_
  exact hl12 _ _ _ hJ
theorem dX0_leastCounter_0 : decode cX0_leastCounter 0 = .ok (.iload_n 1, 1) := by decide +kernel
theorem dX0_leastCounter_1 : decode cX0_leastCounter 1 = .ok (.iload_n 1, 1) := by decide +kernel
theorem dX0_leastCounter_2 : decode cX0_leastCounter 2 = .ok (.ineg, 1) := by decide +kernel
theorem dX0_leastCounter_3 : decode cX0_leastCounter 3 = .ok (.iand, 1) := by decide +kernel
theorem dX0_leastCounter_4 : decode cX0_leastCounter 4 = .ok (.istore_n 3, 1) := by decide +kernel
theorem dX0_leastCounter_5 : decode cX0_leastCounter 5 = .ok (.iload_n 1, 1) := by decide +kernel
theorem dX0_leastCounter_6 : decode cX0_leastCounter 6 = .ok (.invokestatic 48, 3) := by decide +kernel
theorem dX0_leastCounter_9 : decode cX0_leastCounter 9 = .ok (.aload_n 0, 1) := by decide +kernel
theorem dX0_leastCounter_10 : decode cX0_leastCounter 10 = .ok (.getfield 9, 3) := by decide +kernel
theorem dX0_leastCounter_13 : decode cX0_leastCounter 13 = .ok (.iload_n 2, 1) := by decide +kernel
theorem dX0_leastCounter_14 : decode cX0_leastCounter 14 = .ok (.invokestatic 48, 3) := by decide +kernel
theorem dX0_leastCounter_17 : decode cX0_leastCounter 17 = .ok (.isub, 1) := by decide +kernel
theorem dX0_leastCounter_18 : decode cX0_leastCounter 18 = .ok (.if_icmp .le 6, 3) := by decide +kernel
theorem dX0_leastCounter_21 : decode cX0_leastCounter 21 = .ok (.bipush (-4), 2) := by decide +kernel
theorem dX0_leastCounter_23 : decode cX0_leastCounter 23 = .ok (.ireturn, 1) := by decide +kernel
theorem dX0_leastCounter_24 : decode cX0_leastCounter 24 = .ok (.iconst 0, 1) := by decide +kernel
theorem dX0_leastCounter_25 : decode cX0_leastCounter 25 = .ok (.istore 4, 2) := by decide +kernel
theorem dX0_leastCounter_27 : decode cX0_leastCounter 27 = .ok (.iload 4, 2) := by decide +kernel
theorem dX0_leastCounter_29 : decode cX0_leastCounter 29 = .ok (.aload_n 0, 1) := by decide +kernel
theorem dX0_leastCounter_30 : decode cX0_leastCounter 30 = .ok (.getfield 9, 3) := by decide +kernel
theorem dX0_leastCounter_33 : decode cX0_leastCounter 33 = .ok (.if_icmp .ge 61, 3) := by decide +kernel
theorem dX0_leastCounter_36 : decode cX0_leastCounter 36 = .ok (.iload_n 2, 1) := by decide +kernel
theorem dX0_leastCounter_37 : decode cX0_leastCounter 37 = .ok (.iload 4, 2) := by decide +kernel
theorem dX0_leastCounter_39 : decode cX0_leastCounter 39 = .ok (.ishr, 1) := by decide +kernel
theorem dX0_leastCounter_40 : decode cX0_leastCounter 40 = .ok (.iconst 1, 1) := by decide +kernel
theorem dX0_leastCounter_41 : decode cX0_leastCounter 41 = .ok (.iand, 1) := by decide +kernel
theorem dX0_leastCounter_42 : decode cX0_leastCounter 42 = .ok (.ifCond .ne 19, 3) := by decide +kernel
theorem dX0_leastCounter_45 : decode cX0_leastCounter 45 = .ok (.aload_n 0, 1) := by decide +kernel
theorem dX0_leastCounter_46 : decode cX0_leastCounter 46 = .ok (.getfield 15, 3) := by decide +kernel
theorem dX0_leastCounter_49 : decode cX0_leastCounter 49 = .ok (.iload 4, 2) := by decide +kernel
theorem dX0_leastCounter_51 : decode cX0_leastCounter 51 = .ok (.iaload, 1) := by decide +kernel
theorem dX0_leastCounter_52 : decode cX0_leastCounter 52 = .ok (.iload_n 3, 1) := by decide +kernel
theorem dX0_leastCounter_53 : decode cX0_leastCounter 53 = .ok (.iand, 1) := by decide +kernel
theorem dX0_leastCounter_54 : decode cX0_leastCounter 54 = .ok (.ifCond .eq 7, 3) := by decide +kernel
theorem dX0_leastCounter_57 : decode cX0_leastCounter 57 = .ok (.iconst 1, 1) := by decide +kernel
theorem dX0_leastCounter_58 : decode cX0_leastCounter 58 = .ok (.goto 4, 3) := by decide +kernel
theorem dX0_leastCounter_61 : decode cX0_leastCounter 61 = .ok (.iconst 0, 1) := by decide +kernel
theorem dX0_leastCounter_62 : decode cX0_leastCounter 62 = .ok (.istore 5, 2) := by decide +kernel
theorem dX0_leastCounter_64 : decode cX0_leastCounter 64 = .ok (.iload 5, 2) := by decide +kernel
theorem dX0_leastCounter_66 : decode cX0_leastCounter 66 = .ok (.ifCond .eq 22, 3) := by decide +kernel
theorem dX0_leastCounter_69 : decode cX0_leastCounter 69 = .ok (.aload_n 0, 1) := by decide +kernel
theorem dX0_leastCounter_70 : decode cX0_leastCounter 70 = .ok (.iload_n 1, 1) := by decide +kernel
theorem dX0_leastCounter_71 : decode cX0_leastCounter 71 = .ok (.iload_n 3, 1) := by decide +kernel
theorem dX0_leastCounter_72 : decode cX0_leastCounter 72 = .ok (.ixor, 1) := by decide +kernel
theorem dX0_leastCounter_73 : decode cX0_leastCounter 73 = .ok (.iload_n 2, 1) := by decide +kernel
theorem dX0_leastCounter_74 : decode cX0_leastCounter 74 = .ok (.iconst 1, 1) := by decide +kernel
theorem dX0_leastCounter_75 : decode cX0_leastCounter 75 = .ok (.iload 4, 2) := by decide +kernel
theorem dX0_leastCounter_77 : decode cX0_leastCounter 77 = .ok (.ishl, 1) := by decide +kernel
theorem dX0_leastCounter_78 : decode cX0_leastCounter 78 = .ok (.ior, 1) := by decide +kernel
theorem dX0_leastCounter_79 : decode cX0_leastCounter 79 = .ok (.invokevirtual 54, 3) := by decide +kernel
theorem dX0_leastCounter_82 : decode cX0_leastCounter 82 = .ok (.ifCond .eq 6, 3) := by decide +kernel
theorem dX0_leastCounter_85 : decode cX0_leastCounter 85 = .ok (.iload 4, 2) := by decide +kernel
theorem dX0_leastCounter_87 : decode cX0_leastCounter 87 = .ok (.ireturn, 1) := by decide +kernel
theorem dX0_leastCounter_88 : decode cX0_leastCounter 88 = .ok (.iinc 4 1, 3) := by decide +kernel
theorem dX0_leastCounter_91 : decode cX0_leastCounter 91 = .ok (.goto (-64), 3) := by decide +kernel
theorem dX0_leastCounter_94 : decode cX0_leastCounter 94 = .ok (.bipush (-4), 2) := by decide +kernel
theorem dX0_leastCounter_96 : decode cX0_leastCounter 96 = .ok (.ireturn, 1) := by decide +kernel
set_option maxRecDepth 100000 in
set_option maxHeartbeats 4000000 in
theorem M_X0_leastCounter (G : zG) (l : Launch) {σ : zS} {d : Nat} {K : Int32 → Int32 → zS → Option Int32} (hK : ∀ a1 a2 r, K a1 a2 σ = some r → zMI G l yX0_canPlace cX0_canPlace 3 (some .boolean) (zrm (2 * d) (47 * d)) [.ref (G.1 + 82), .int a1, .int a2] 137 (zen G σ) r 137 (zen G σ)) {a1 a2 r : Int32} (hJ : J_X0_leastCounter K a1 a2 σ = some r) : zMI G l yX0_leastCounter cX0_leastCounter 6 (some .int) (zrm (2 * d + 1) (47 * d + 22)) [.ref (G.1 + 82), .int a1, .int a2] 137 (zen G σ) r 137 (zen G σ) := by
  unfold J_X0_leastCounter at hJ
  refine zentI (by decide +kernel) (Nat.le_of_ble_eq_true rfl) ?_
  intro p e s m args below meth c C hret
  refine zr_sub [0, 1, 2] [(0, .ref (G.1 + 82)), (1, .int a1), (2, .int a2)] rfl ?_
  refine zr_iload_n C 1 dX0_leastCounter_0 rfl ?_
  refine zr_iload_n C 1 dX0_leastCounter_1 rfl ?_
  refine zr_ineg C dX0_leastCounter_2 ?_
  refine zr_iand C dX0_leastCounter_3 ?_
  obtain ⟨v1, hv1, hJ⟩ := zlet_e hJ
  refine zr_topi hv1 ?_
  refine zr_istore_n C [(3, .int v1), (0, .ref (G.1 + 82)), (1, .int a1), (2, .int a2)] dX0_leastCounter_4 (by decide) rfl ?_
  refine zr_iload_n C 2 dX0_leastCounter_5 rfl ?_
  obtain ⟨r2, hr2, hJ⟩ := zb_e hJ
  refine zr_callSI C (M_J6_bitCount_0f7a4 G l hr2) zin_J6_bitCount_0f7a4 zm_31_5 rfl rfl (Nat.le_of_ble_eq_true rfl) ⟨by dsimp only; omega, by dsimp only; omega⟩ ⟨Nat.le_of_ble_eq_true rfl, Nat.le_of_ble_eq_true rfl⟩ dX0_leastCounter_6 ?_
  refine zr_aload_n C 1 dX0_leastCounter_9 rfl ?_
  refine zg_0_0 C 82 zk_82 zm_5_9 dX0_leastCounter_10 ?_
  refine zr_iload_n C 3 dX0_leastCounter_13 rfl ?_
  obtain ⟨r3, hr3, hJ⟩ := zb_e hJ
  refine zr_callSI C (M_J6_bitCount_0f7a4 G l hr3) zin_J6_bitCount_0f7a4 zm_31_5 rfl rfl (Nat.le_of_ble_eq_true rfl) ⟨by dsimp only; omega, by dsimp only; omega⟩ ⟨Nat.le_of_ble_eq_true rfl, Nat.le_of_ble_eq_true rfl⟩ dX0_leastCounter_14 ?_
  refine zr_isub C dX0_leastCounter_17 ?_
  refine zr_icmp_le C 24 dX0_leastCounter_18 (by decide) (fun hc4 => ?_) (fun hc4 => ?_)
  · have hJ := zif hc4 hJ
    refine zr_iconst C dX0_leastCounter_24 (v := (0 : Int32)) (by decide) ?_
    refine zr_istore C [(4, .int (0 : Int32)), (3, .int v1), (0, .ref (G.1 + 82)), (1, .int a1), (2, .int a2)] dX0_leastCounter_25 (by decide) rfl ?_
    have hl27 : ∀ (n : Nat) (w4_27 : Int32), L_X0_leastCounter_27 a1 a2 σ K v1 n w4_27 = some r → zU G 6 p l e (zrm (2 * d + 1) (47 * d + 22)) s m args below meth c (MQ below (va_Qi (fun x (_ : Unit) => x = r) (fun _ t => zok G 137 (zen G σ) t) (zA G)) args s 0 0 (zA G)) σ 27 [(0, .ref (G.1 + 82)), (1, .int a1), (2, .int a2), (3, .int v1), (4, .int w4_27)] [] := by
      intro n
      induction n with
      | zero =>
        intro w4_27 hJ
        rw [L_X0_leastCounter_27] at hJ
        cases hJ
      | succ n ih =>
        intro w4_27 hJ
        rw [L_X0_leastCounter_27] at hJ
        obtain ⟨r_27, hr_27, hJ⟩ := zlet_e hJ
        have ih27 : ∀ (w4_27 : Int32), r_27 w4_27 = some r → zU G 6 p l e (zrm (2 * d + 1) (47 * d + 22)) s m args below meth c (MQ below (va_Qi (fun x (_ : Unit) => x = r) (fun _ t => zok G 137 (zen G σ) t) (zA G)) args s 0 0 (zA G)) σ 27 [(0, .ref (G.1 + 82)), (1, .int a1), (2, .int a2), (3, .int v1), (4, .int w4_27)] [] := by
          rw [hr_27]
          exact ih
        refine zr_iload C 4 dX0_leastCounter_27 rfl ?_
        refine zr_aload_n C 0 dX0_leastCounter_29 rfl ?_
        refine zg_0_0 C 82 zk_82 zm_5_9 dX0_leastCounter_30 ?_
        refine zr_icmp_ge C 94 dX0_leastCounter_33 (by decide) (fun hc5 => ?_) (fun hc5 => ?_)
        · have hJ := zif hc5 hJ
          refine zr_bipush C dX0_leastCounter_94 (v := (-4 : Int32)) (by decide) ?_
          exact zr_iret C hret (zs_e hJ) rfl rfl dX0_leastCounter_96
        · have hJ := zif' hc5 hJ
          refine zr_iload_n C 2 dX0_leastCounter_36 rfl ?_
          refine zr_iload C 4 dX0_leastCounter_37 rfl ?_
          refine zr_ishr C dX0_leastCounter_39 ?_
          refine zr_iconst C dX0_leastCounter_40 (v := (1 : Int32)) (by decide) ?_
          refine zr_iand C dX0_leastCounter_41 ?_
          obtain ⟨k62, hk62, hJ⟩ := zlet_e hJ
          have hj62 : ∀ (x0_62 : Int32), k62 x0_62 = some r → zU G 6 p l e (zrm (2 * d + 1) (47 * d + 22)) s m args below meth c (MQ below (va_Qi (fun x (_ : Unit) => x = r) (fun _ t => zok G 137 (zen G σ) t) (zA G)) args s 0 0 (zA G)) σ 62 [(0, .ref (G.1 + 82)), (1, .int a1), (2, .int a2), (3, .int v1), (4, .int w4_27)] [.int x0_62] := by
            intro x0_62 hJ
            rw [hk62] at hJ
            unfold D_X0_leastCounter_62 at hJ
            refine zr_istore C [(5, .int x0_62), (0, .ref (G.1 + 82)), (1, .int a1), (2, .int a2), (3, .int v1), (4, .int w4_27)] dX0_leastCounter_62 (by decide) rfl ?_
            refine zr_iload C 0 dX0_leastCounter_64 rfl ?_
            refine zr_if_eq C 88 dX0_leastCounter_66 (by decide) (fun hc6 => ?_) (fun hc6 => ?_)
            · have hJ := zif hc6 hJ
              obtain ⟨v7, hv7, hJ⟩ := zlet_e hJ
              refine zr_iinc C v7 5 [(4, .int v7), (5, .int x0_62), (0, .ref (G.1 + 82)), (1, .int a1), (2, .int a2), (3, .int v1)] dX0_leastCounter_88 rfl (hv7.trans (zinc (by decide))) (by decide) rfl ?_
              refine zr_goto C 27 dX0_leastCounter_91 (by decide) ?_
              refine zr_sub [2, 3, 4, 5, 0] [(0, .ref (G.1 + 82)), (1, .int a1), (2, .int a2), (3, .int v1), (4, .int v7)] rfl ?_
              exact ih27 _ hJ
            · have hJ := zif' hc6 hJ
              refine zr_aload_n C 1 dX0_leastCounter_69 rfl ?_
              refine zr_iload_n C 2 dX0_leastCounter_70 rfl ?_
              refine zr_iload_n C 4 dX0_leastCounter_71 rfl ?_
              refine zr_ixor C dX0_leastCounter_72 ?_
              refine zr_iload_n C 3 dX0_leastCounter_73 rfl ?_
              refine zr_iconst C dX0_leastCounter_74 (v := (1 : Int32)) (by decide) ?_
              refine zr_iload C 5 dX0_leastCounter_75 rfl ?_
              refine zr_ishl C dX0_leastCounter_77 ?_
              refine zr_ior C dX0_leastCounter_78 ?_
              obtain ⟨r8, hr8, hJ⟩ := zb_e hJ
              refine zr_callVI C 82 (zk_lt zk_82 (by decide)) (zen_obj zk_82) (rfl : zcl[0]? = some (RX0, TX0, 7)) (hK _ _ _ hr8) zin_X0_canPlace zm_31_12 rfl rfl (Nat.le_of_ble_eq_true rfl) ⟨by dsimp only; omega, by dsimp only; omega⟩ ⟨Nat.le_of_ble_eq_true rfl, Nat.le_of_ble_eq_true rfl⟩ dX0_leastCounter_79 ?_
              refine zr_if_eq C 88 dX0_leastCounter_82 (by decide) (fun hc9 => ?_) (fun hc9 => ?_)
              · have hJ := zif hc9 hJ
                obtain ⟨v10, hv10, hJ⟩ := zlet_e hJ
                refine zr_iinc C v10 5 [(4, .int v10), (5, .int x0_62), (0, .ref (G.1 + 82)), (1, .int a1), (2, .int a2), (3, .int v1)] dX0_leastCounter_88 rfl (hv10.trans (zinc (by decide))) (by decide) rfl ?_
                refine zr_goto C 27 dX0_leastCounter_91 (by decide) ?_
                refine zr_sub [2, 3, 4, 5, 0] [(0, .ref (G.1 + 82)), (1, .int a1), (2, .int a2), (3, .int v1), (4, .int v10)] rfl ?_
                exact ih27 _ hJ
              · have hJ := zif' hc9 hJ
                refine zr_iload C 5 dX0_leastCounter_85 rfl ?_
                exact zr_iret C hret (zs_e hJ) rfl rfl dX0_leastCounter_87
          refine zr_if_ne C 61 dX0_leastCounter_42 (by decide) (fun hc11 => ?_) (fun hc11 => ?_)
          · have hJ := zif' hc11 hJ
            refine zr_iconst C dX0_leastCounter_61 (v := (0 : Int32)) (by decide) ?_
            exact hj62 _ hJ
          · have hJ := zif hc11 hJ
            refine zr_aload_n C 0 dX0_leastCounter_45 rfl ?_
            refine zg_0_1 C 82 zk_82 zm_5_10 dX0_leastCounter_46 ?_
            refine zr_iload C 4 dX0_leastCounter_49 rfl ?_
            obtain ⟨hg12, hJ⟩ := zg_e hJ
            refine zu_iald C 83 zk_83 hg12 dX0_leastCounter_51 ?_
            refine zr_iload_n C 3 dX0_leastCounter_52 rfl ?_
            refine zr_iand C dX0_leastCounter_53 ?_
            refine zr_if_eq C 61 dX0_leastCounter_54 (by decide) (fun hc13 => ?_) (fun hc13 => ?_)
            · have hJ := zif hc13 hJ
              refine zr_iconst C dX0_leastCounter_61 (v := (0 : Int32)) (by decide) ?_
              exact hj62 _ hJ
            · have hJ := zif' hc13 hJ
              refine zr_iconst C dX0_leastCounter_57 (v := (1 : Int32)) (by decide) ?_
              refine zr_goto C 62 dX0_leastCounter_58 (by decide) ?_
              exact hj62 _ hJ
    refine zr_sub [2, 3, 4, 1, 0] [(0, .ref (G.1 + 82)), (1, .int a1), (2, .int a2), (3, .int v1), (4, .int (0 : Int32))] rfl ?_
    exact hl27 _ _ hJ
  · have hJ := zif' hc4 hJ
    refine zr_bipush C dX0_leastCounter_21 (v := (-4 : Int32)) (by decide) ?_
    exact zr_iret C hret (zs_e hJ) rfl rfl dX0_leastCounter_23
theorem dX0_canPlace_0 : decode cX0_canPlace 0 = .ok (.iload_n 1, 1) := by decide +kernel
theorem dX0_canPlace_1 : decode cX0_canPlace 1 = .ok (.ifCond .ne 5, 3) := by decide +kernel
theorem dX0_canPlace_4 : decode cX0_canPlace 4 = .ok (.iconst 1, 1) := by decide +kernel
theorem dX0_canPlace_5 : decode cX0_canPlace 5 = .ok (.ireturn, 1) := by decide +kernel
theorem dX0_canPlace_6 : decode cX0_canPlace 6 = .ok (.aload_n 0, 1) := by decide +kernel
theorem dX0_canPlace_7 : decode cX0_canPlace 7 = .ok (.iload_n 1, 1) := by decide +kernel
theorem dX0_canPlace_8 : decode cX0_canPlace 8 = .ok (.iload_n 2, 1) := by decide +kernel
theorem dX0_canPlace_9 : decode cX0_canPlace 9 = .ok (.invokevirtual 44, 3) := by decide +kernel
theorem dX0_canPlace_12 : decode cX0_canPlace 12 = .ok (.ifCond .lt 7, 3) := by decide +kernel
theorem dX0_canPlace_15 : decode cX0_canPlace 15 = .ok (.iconst 1, 1) := by decide +kernel
theorem dX0_canPlace_16 : decode cX0_canPlace 16 = .ok (.goto 4, 3) := by decide +kernel
theorem dX0_canPlace_19 : decode cX0_canPlace 19 = .ok (.iconst 0, 1) := by decide +kernel
theorem dX0_canPlace_20 : decode cX0_canPlace 20 = .ok (.ireturn, 1) := by decide +kernel
set_option maxRecDepth 100000 in
set_option maxHeartbeats 4000000 in
theorem M_X0_canPlace (G : zG) (l : Launch) {σ : zS} : ∀ (d : Nat) {a1 a2 r : Int32}, J_X0_canPlace d a1 a2 σ = some r → zMI G l yX0_canPlace cX0_canPlace 3 (some .boolean) (zrm (2 * d) (47 * d)) [.ref (G.1 + 82), .int a1, .int a2] 137 (zen G σ) r 137 (zen G σ) := by
  intro d
  induction d with
  | zero =>
    intro a1 a2 r hJ
    rw [J_X0_canPlace] at hJ
    cases hJ
  | succ d ih =>
    intro a1 a2 r hJ
    rw [J_X0_canPlace] at hJ
    refine zentI (by decide +kernel) (Nat.le_of_ble_eq_true rfl) ?_
    intro p e s m args below meth c C hret
    refine zr_sub [0, 1, 2] [(0, .ref (G.1 + 82)), (1, .int a1), (2, .int a2)] rfl ?_
    refine zr_iload_n C 1 dX0_canPlace_0 rfl ?_
    refine zr_if_ne C 6 dX0_canPlace_1 (by decide) (fun hc1 => ?_) (fun hc1 => ?_)
    · have hJ := zif' hc1 hJ
      refine zr_aload_n C 0 dX0_canPlace_6 rfl ?_
      refine zr_iload_n C 1 dX0_canPlace_7 rfl ?_
      refine zr_iload_n C 2 dX0_canPlace_8 rfl ?_
      obtain ⟨r2, hr2, hJ⟩ := zb_e hJ
      refine zr_callVI C 82 (zk_lt zk_82 (by decide)) (zen_obj zk_82) (rfl : zcl[0]? = some (RX0, TX0, 7)) (M_X0_leastCounter G l (fun _ _ _ h => ih h) hr2) zin_X0_leastCounter zm_31_1 rfl rfl (Nat.le_of_ble_eq_true rfl) ⟨by dsimp only; omega, by dsimp only; omega⟩ ⟨Nat.le_of_ble_eq_true rfl, Nat.le_of_ble_eq_true rfl⟩ dX0_canPlace_9 ?_
      refine zr_if_lt C 19 dX0_canPlace_12 (by decide) (fun hc3 => ?_) (fun hc3 => ?_)
      · have hJ := zif hc3 hJ
        refine zr_iconst C dX0_canPlace_19 (v := (0 : Int32)) (by decide) ?_
        exact zr_zret C hret (zs_e hJ) rfl rfl rfl dX0_canPlace_20
      · have hJ := zif' hc3 hJ
        refine zr_iconst C dX0_canPlace_15 (v := (1 : Int32)) (by decide) ?_
        refine zr_goto C 20 dX0_canPlace_16 (by decide) ?_
        exact zr_zret C hret (zs_e hJ) rfl rfl rfl dX0_canPlace_20
    · have hJ := zif hc1 hJ
      refine zr_iconst C dX0_canPlace_4 (v := (1 : Int32)) (by decide) ?_
      exact zr_zret C hret (zs_e hJ) rfl rfl rfl dX0_canPlace_5
theorem dX0_counterFor_0 : decode cX0_counterFor 0 = .ok (.iload_n 1, 1) := by decide +kernel
theorem dX0_counterFor_1 : decode cX0_counterFor 1 = .ok (.istore_n 3, 1) := by decide +kernel
theorem dX0_counterFor_2 : decode cX0_counterFor 2 = .ok (.iconst 0, 1) := by decide +kernel
theorem dX0_counterFor_3 : decode cX0_counterFor 3 = .ok (.istore 4, 2) := by decide +kernel
theorem dX0_counterFor_5 : decode cX0_counterFor 5 = .ok (.iconst 0, 1) := by decide +kernel
theorem dX0_counterFor_6 : decode cX0_counterFor 6 = .ok (.istore 5, 2) := by decide +kernel
theorem dX0_counterFor_8 : decode cX0_counterFor 8 = .ok (.iload 5, 2) := by decide +kernel
theorem dX0_counterFor_10 : decode cX0_counterFor 10 = .ok (.iload_n 2, 1) := by decide +kernel
theorem dX0_counterFor_11 : decode cX0_counterFor 11 = .ok (.if_icmp .gt 57, 3) := by decide +kernel
theorem dX0_counterFor_14 : decode cX0_counterFor 14 = .ok (.iload_n 3, 1) := by decide +kernel
theorem dX0_counterFor_15 : decode cX0_counterFor 15 = .ok (.iload 5, 2) := by decide +kernel
theorem dX0_counterFor_17 : decode cX0_counterFor 17 = .ok (.ishr, 1) := by decide +kernel
theorem dX0_counterFor_18 : decode cX0_counterFor 18 = .ok (.iconst 1, 1) := by decide +kernel
theorem dX0_counterFor_19 : decode cX0_counterFor 19 = .ok (.iand, 1) := by decide +kernel
theorem dX0_counterFor_20 : decode cX0_counterFor 20 = .ok (.ifCond .eq 42, 3) := by decide +kernel
theorem dX0_counterFor_23 : decode cX0_counterFor 23 = .ok (.aload_n 0, 1) := by decide +kernel
theorem dX0_counterFor_24 : decode cX0_counterFor 24 = .ok (.iload_n 3, 1) := by decide +kernel
theorem dX0_counterFor_25 : decode cX0_counterFor 25 = .ok (.iload 4, 2) := by decide +kernel
theorem dX0_counterFor_27 : decode cX0_counterFor 27 = .ok (.invokevirtual 44, 3) := by decide +kernel
theorem dX0_counterFor_30 : decode cX0_counterFor 30 = .ok (.istore 6, 2) := by decide +kernel
theorem dX0_counterFor_32 : decode cX0_counterFor 32 = .ok (.iload 6, 2) := by decide +kernel
theorem dX0_counterFor_34 : decode cX0_counterFor 34 = .ok (.ifCond .lt 9, 3) := by decide +kernel
theorem dX0_counterFor_37 : decode cX0_counterFor 37 = .ok (.iload 5, 2) := by decide +kernel
theorem dX0_counterFor_39 : decode cX0_counterFor 39 = .ok (.iload_n 2, 1) := by decide +kernel
theorem dX0_counterFor_40 : decode cX0_counterFor 40 = .ok (.if_icmp .ne 6, 3) := by decide +kernel
theorem dX0_counterFor_43 : decode cX0_counterFor 43 = .ok (.iload 6, 2) := by decide +kernel
theorem dX0_counterFor_45 : decode cX0_counterFor 45 = .ok (.ireturn, 1) := by decide +kernel
theorem dX0_counterFor_46 : decode cX0_counterFor 46 = .ok (.iload_n 3, 1) := by decide +kernel
theorem dX0_counterFor_47 : decode cX0_counterFor 47 = .ok (.iconst 1, 1) := by decide +kernel
theorem dX0_counterFor_48 : decode cX0_counterFor 48 = .ok (.iload 5, 2) := by decide +kernel
theorem dX0_counterFor_50 : decode cX0_counterFor 50 = .ok (.ishl, 1) := by decide +kernel
theorem dX0_counterFor_51 : decode cX0_counterFor 51 = .ok (.ixor, 1) := by decide +kernel
theorem dX0_counterFor_52 : decode cX0_counterFor 52 = .ok (.istore_n 3, 1) := by decide +kernel
theorem dX0_counterFor_53 : decode cX0_counterFor 53 = .ok (.iload 4, 2) := by decide +kernel
theorem dX0_counterFor_55 : decode cX0_counterFor 55 = .ok (.iconst 1, 1) := by decide +kernel
theorem dX0_counterFor_56 : decode cX0_counterFor 56 = .ok (.iload 6, 2) := by decide +kernel
theorem dX0_counterFor_58 : decode cX0_counterFor 58 = .ok (.ishl, 1) := by decide +kernel
theorem dX0_counterFor_59 : decode cX0_counterFor 59 = .ok (.ior, 1) := by decide +kernel
theorem dX0_counterFor_60 : decode cX0_counterFor 60 = .ok (.istore 4, 2) := by decide +kernel
theorem dX0_counterFor_62 : decode cX0_counterFor 62 = .ok (.iinc 5 1, 3) := by decide +kernel
theorem dX0_counterFor_65 : decode cX0_counterFor 65 = .ok (.goto (-57), 3) := by decide +kernel
theorem dX0_counterFor_68 : decode cX0_counterFor 68 = .ok (.bipush (-4), 2) := by decide +kernel
theorem dX0_counterFor_70 : decode cX0_counterFor 70 = .ok (.ireturn, 1) := by decide +kernel
set_option maxRecDepth 100000 in
set_option maxHeartbeats 4000000 in
theorem M_X0_counterFor (G : zG) (l : Launch) {a1 : Int32} {a2 : Int32} {σ : zS} {r : Int32} (hJ : J_X0_counterFor a1 a2 σ = some r) : zMI G l yX0_counterFor cX0_counterFor 7 (some .int) (zrm 16 376) [.ref (G.1 + 82), .int a1, .int a2] 137 (zen G σ) r 137 (zen G σ) := by
  unfold J_X0_counterFor at hJ
  refine zentI (by decide +kernel) (Nat.le_of_ble_eq_true rfl) ?_
  intro p e s m args below meth c C hret
  refine zr_sub [0, 1, 2] [(0, .ref (G.1 + 82)), (1, .int a1), (2, .int a2)] rfl ?_
  refine zr_iload_n C 1 dX0_counterFor_0 rfl ?_
  refine zr_istore_n C [(3, .int a1), (0, .ref (G.1 + 82)), (1, .int a1), (2, .int a2)] dX0_counterFor_1 (by decide) rfl ?_
  refine zr_iconst C dX0_counterFor_2 (v := (0 : Int32)) (by decide) ?_
  refine zr_istore C [(4, .int (0 : Int32)), (3, .int a1), (0, .ref (G.1 + 82)), (1, .int a1), (2, .int a2)] dX0_counterFor_3 (by decide) rfl ?_
  refine zr_iconst C dX0_counterFor_5 (v := (0 : Int32)) (by decide) ?_
  refine zr_istore C [(5, .int (0 : Int32)), (4, .int (0 : Int32)), (3, .int a1), (0, .ref (G.1 + 82)), (1, .int a1), (2, .int a2)] dX0_counterFor_6 (by decide) rfl ?_
  have hl8 : ∀ (n : Nat) (w3_8 : Int32) (w4_8 : Int32) (w5_8 : Int32), L_X0_counterFor_8 a2 σ n w3_8 w4_8 w5_8 = some r → zU G 7 p l e (zrm 16 376) s m args below meth c (MQ below (va_Qi (fun x (_ : Unit) => x = r) (fun _ t => zok G 137 (zen G σ) t) (zA G)) args s 0 0 (zA G)) σ 8 [(0, .ref (G.1 + 82)), (2, .int a2), (3, .int w3_8), (4, .int w4_8), (5, .int w5_8)] [] := by
    intro n
    induction n with
    | zero =>
      intro w3_8 w4_8 w5_8 hJ
      rw [L_X0_counterFor_8] at hJ
      cases hJ
    | succ n ih =>
      intro w3_8 w4_8 w5_8 hJ
      rw [L_X0_counterFor_8] at hJ
      obtain ⟨r_8, hr_8, hJ⟩ := zlet_e hJ
      have ih8 : ∀ (w3_8 : Int32) (w4_8 : Int32) (w5_8 : Int32), r_8 w3_8 w4_8 w5_8 = some r → zU G 7 p l e (zrm 16 376) s m args below meth c (MQ below (va_Qi (fun x (_ : Unit) => x = r) (fun _ t => zok G 137 (zen G σ) t) (zA G)) args s 0 0 (zA G)) σ 8 [(0, .ref (G.1 + 82)), (2, .int a2), (3, .int w3_8), (4, .int w4_8), (5, .int w5_8)] [] := by
        rw [hr_8]
        exact ih
      refine zr_iload C 4 dX0_counterFor_8 rfl ?_
      refine zr_iload_n C 1 dX0_counterFor_10 rfl ?_
      refine zr_icmp_gt C 68 dX0_counterFor_11 (by decide) (fun hc1 => ?_) (fun hc1 => ?_)
      · have hJ := zif hc1 hJ
        refine zr_bipush C dX0_counterFor_68 (v := (-4 : Int32)) (by decide) ?_
        exact zr_iret C hret (zs_e hJ) rfl rfl dX0_counterFor_70
      · have hJ := zif' hc1 hJ
        refine zr_iload_n C 2 dX0_counterFor_14 rfl ?_
        refine zr_iload C 4 dX0_counterFor_15 rfl ?_
        refine zr_ishr C dX0_counterFor_17 ?_
        refine zr_iconst C dX0_counterFor_18 (v := (1 : Int32)) (by decide) ?_
        refine zr_iand C dX0_counterFor_19 ?_
        refine zr_if_eq C 62 dX0_counterFor_20 (by decide) (fun hc2 => ?_) (fun hc2 => ?_)
        · have hJ := zif hc2 hJ
          obtain ⟨v3, hv3, hJ⟩ := zlet_e hJ
          refine zr_iinc C v3 4 [(5, .int v3), (0, .ref (G.1 + 82)), (2, .int a2), (3, .int w3_8), (4, .int w4_8)] dX0_counterFor_62 rfl (hv3.trans (zinc (by decide))) (by decide) rfl ?_
          refine zr_goto C 8 dX0_counterFor_65 (by decide) ?_
          refine zr_sub [1, 2, 3, 4, 0] [(0, .ref (G.1 + 82)), (2, .int a2), (3, .int w3_8), (4, .int w4_8), (5, .int v3)] rfl ?_
          exact ih8 _ _ _ hJ
        · have hJ := zif' hc2 hJ
          refine zr_aload_n C 0 dX0_counterFor_23 rfl ?_
          refine zr_iload_n C 2 dX0_counterFor_24 rfl ?_
          refine zr_iload C 3 dX0_counterFor_25 rfl ?_
          obtain ⟨r4, hr4, hJ⟩ := zb_e hJ
          refine zr_callVI C 82 (zk_lt zk_82 (by decide)) (zen_obj zk_82) (rfl : zcl[0]? = some (RX0, TX0, 7)) (M_X0_leastCounter G l (fun _ _ _ h => M_X0_canPlace G l 7 h) hr4) zin_X0_leastCounter zm_31_1 rfl rfl (Nat.le_of_ble_eq_true rfl) ⟨Nat.le_of_ble_eq_true rfl, Nat.le_of_ble_eq_true rfl⟩ ⟨Nat.le_of_ble_eq_true rfl, Nat.le_of_ble_eq_true rfl⟩ dX0_counterFor_27 ?_
          refine zr_istore C [(6, .int r4), (0, .ref (G.1 + 82)), (2, .int a2), (3, .int w3_8), (4, .int w4_8), (5, .int w5_8)] dX0_counterFor_30 (by decide) rfl ?_
          refine zr_iload C 0 dX0_counterFor_32 rfl ?_
          refine zr_if_lt C 43 dX0_counterFor_34 (by decide) (fun hc5 => ?_) (fun hc5 => ?_)
          · have hJ := zif hc5 hJ
            refine zr_iload C 0 dX0_counterFor_43 rfl ?_
            exact zr_iret C hret (zs_e hJ) rfl rfl dX0_counterFor_45
          · have hJ := zif' hc5 hJ
            refine zr_iload C 5 dX0_counterFor_37 rfl ?_
            refine zr_iload_n C 2 dX0_counterFor_39 rfl ?_
            refine zr_icmp_ne C 46 dX0_counterFor_40 (by decide) (fun hc6 => ?_) (fun hc6 => ?_)
            · have hJ := zif' hc6 hJ
              refine zr_iload_n C 3 dX0_counterFor_46 rfl ?_
              refine zr_iconst C dX0_counterFor_47 (v := (1 : Int32)) (by decide) ?_
              refine zr_iload C 5 dX0_counterFor_48 rfl ?_
              refine zr_ishl C dX0_counterFor_50 ?_
              refine zr_ixor C dX0_counterFor_51 ?_
              obtain ⟨v7, hv7, hJ⟩ := zlet_e hJ
              refine zr_topi hv7 ?_
              refine zr_istore_n C [(3, .int v7), (6, .int r4), (0, .ref (G.1 + 82)), (2, .int a2), (4, .int w4_8), (5, .int w5_8)] dX0_counterFor_52 (by decide) rfl ?_
              refine zr_iload C 4 dX0_counterFor_53 rfl ?_
              refine zr_iconst C dX0_counterFor_55 (v := (1 : Int32)) (by decide) ?_
              refine zr_iload C 1 dX0_counterFor_56 rfl ?_
              refine zr_ishl C dX0_counterFor_58 ?_
              refine zr_ior C dX0_counterFor_59 ?_
              obtain ⟨v8, hv8, hJ⟩ := zlet_e hJ
              refine zr_topi hv8 ?_
              refine zr_istore C [(4, .int v8), (3, .int v7), (6, .int r4), (0, .ref (G.1 + 82)), (2, .int a2), (5, .int w5_8)] dX0_counterFor_60 (by decide) rfl ?_
              obtain ⟨v9, hv9, hJ⟩ := zlet_e hJ
              refine zr_iinc C v9 5 [(5, .int v9), (4, .int v8), (3, .int v7), (6, .int r4), (0, .ref (G.1 + 82)), (2, .int a2)] dX0_counterFor_62 rfl (hv9.trans (zinc (by decide))) (by decide) rfl ?_
              refine zr_goto C 8 dX0_counterFor_65 (by decide) ?_
              refine zr_sub [4, 5, 2, 1, 0] [(0, .ref (G.1 + 82)), (2, .int a2), (3, .int v7), (4, .int v8), (5, .int v9)] rfl ?_
              exact ih8 _ _ _ hJ
            · have hJ := zif hc6 hJ
              refine zr_iload C 0 dX0_counterFor_43 rfl ?_
              exact zr_iret C hret (zs_e hJ) rfl rfl dX0_counterFor_45
  refine zr_sub [3, 5, 2, 1, 0] [(0, .ref (G.1 + 82)), (2, .int a2), (3, .int a1), (4, .int (0 : Int32)), (5, .int (0 : Int32))] rfl ?_
  exact hl8 _ _ _ _ hJ
theorem dX0_has_0 : decode cX0_has 0 = .ok (.iload_n 1, 1) := by decide +kernel
theorem dX0_has_1 : decode cX0_has 1 = .ok (.ifCond .lt 15, 3) := by decide +kernel
theorem dX0_has_4 : decode cX0_has 4 = .ok (.iload_n 1, 1) := by decide +kernel
theorem dX0_has_5 : decode cX0_has 5 = .ok (.aload_n 0, 1) := by decide +kernel
theorem dX0_has_6 : decode cX0_has 6 = .ok (.getfield 9, 3) := by decide +kernel
theorem dX0_has_9 : decode cX0_has 9 = .ok (.if_icmp .ge 7, 3) := by decide +kernel
theorem dX0_has_12 : decode cX0_has 12 = .ok (.iconst 1, 1) := by decide +kernel
theorem dX0_has_13 : decode cX0_has 13 = .ok (.goto 4, 3) := by decide +kernel
theorem dX0_has_16 : decode cX0_has 16 = .ok (.iconst 0, 1) := by decide +kernel
theorem dX0_has_17 : decode cX0_has 17 = .ok (.ireturn, 1) := by decide +kernel
set_option maxRecDepth 100000 in
set_option maxHeartbeats 4000000 in
theorem M_X0_has (G : zG) (l : Launch) {a1 : Int32} {σ : zS} {r : Int32} (hJ : J_X0_has a1 σ = some r) : zMI G l yX0_has cX0_has 2 (some .boolean) (zrm 0 0) [.ref (G.1 + 82), .int a1] 137 (zen G σ) r 137 (zen G σ) := by
  unfold J_X0_has at hJ
  refine zentI (by decide +kernel) (Nat.le_of_ble_eq_true rfl) ?_
  intro p e s m args below meth c C hret
  refine zr_sub [0, 1] [(0, .ref (G.1 + 82)), (1, .int a1)] rfl ?_
  refine zr_iload_n C 1 dX0_has_0 rfl ?_
  refine zr_if_lt C 16 dX0_has_1 (by decide) (fun hc1 => ?_) (fun hc1 => ?_)
  · have hJ := zif hc1 hJ
    refine zr_iconst C dX0_has_16 (v := (0 : Int32)) (by decide) ?_
    exact zr_zret C hret (zs_e hJ) rfl rfl rfl dX0_has_17
  · have hJ := zif' hc1 hJ
    refine zr_iload_n C 1 dX0_has_4 rfl ?_
    refine zr_aload_n C 0 dX0_has_5 rfl ?_
    refine zg_0_0 C 82 zk_82 zm_5_9 dX0_has_6 ?_
    refine zr_icmp_ge C 16 dX0_has_9 (by decide) (fun hc2 => ?_) (fun hc2 => ?_)
    · have hJ := zif hc2 hJ
      refine zr_iconst C dX0_has_16 (v := (0 : Int32)) (by decide) ?_
      exact zr_zret C hret (zs_e hJ) rfl rfl rfl dX0_has_17
    · have hJ := zif' hc2 hJ
      refine zr_iconst C dX0_has_12 (v := (1 : Int32)) (by decide) ?_
      refine zr_goto C 17 dX0_has_13 (by decide) ?_
      exact zr_zret C hret (zs_e hJ) rfl rfl rfl dX0_has_17
theorem dX10_isEvent_0 : decode cX10_isEvent 0 = .ok (.iload_n 0, 1) := by decide +kernel
theorem dX10_isEvent_1 : decode cX10_isEvent 1 = .ok (.ifCond .lt 13, 3) := by decide +kernel
theorem dX10_isEvent_4 : decode cX10_isEvent 4 = .ok (.iload_n 0, 1) := by decide +kernel
theorem dX10_isEvent_5 : decode cX10_isEvent 5 = .ok (.bipush 8, 2) := by decide +kernel
theorem dX10_isEvent_7 : decode cX10_isEvent 7 = .ok (.if_icmp .ge 7, 3) := by decide +kernel
theorem dX10_isEvent_10 : decode cX10_isEvent 10 = .ok (.iconst 1, 1) := by decide +kernel
theorem dX10_isEvent_11 : decode cX10_isEvent 11 = .ok (.goto 4, 3) := by decide +kernel
theorem dX10_isEvent_14 : decode cX10_isEvent 14 = .ok (.iconst 0, 1) := by decide +kernel
theorem dX10_isEvent_15 : decode cX10_isEvent 15 = .ok (.ireturn, 1) := by decide +kernel
set_option maxRecDepth 100000 in
set_option maxHeartbeats 4000000 in
theorem M_X10_isEvent (G : zG) (l : Launch) {a0 : Int32} {σ : zS} {r : Int32} (hJ : J_X10_isEvent a0 σ = some r) : zMI G l yX10_isEvent cX10_isEvent 1 (some .boolean) (zrm 0 0) [.int a0] 137 (zen G σ) r 137 (zen G σ) := by
  unfold J_X10_isEvent at hJ
  refine zentI (by decide +kernel) (Nat.le_of_ble_eq_true rfl) ?_
  intro p e s m args below meth c C hret
  refine zr_sub [0] [(0, .int a0)] rfl ?_
  refine zr_iload_n C 0 dX10_isEvent_0 rfl ?_
  refine zr_if_lt C 14 dX10_isEvent_1 (by decide) (fun hc1 => ?_) (fun hc1 => ?_)
  · have hJ := zif hc1 hJ
    refine zr_iconst C dX10_isEvent_14 (v := (0 : Int32)) (by decide) ?_
    exact zr_zret C hret (zs_e hJ) rfl rfl rfl dX10_isEvent_15
  · have hJ := zif' hc1 hJ
    refine zr_iload_n C 0 dX10_isEvent_4 rfl ?_
    refine zr_bipush C dX10_isEvent_5 (v := (8 : Int32)) (by decide) ?_
    refine zr_icmp_ge C 14 dX10_isEvent_7 (by decide) (fun hc2 => ?_) (fun hc2 => ?_)
    · have hJ := zif hc2 hJ
      refine zr_iconst C dX10_isEvent_14 (v := (0 : Int32)) (by decide) ?_
      exact zr_zret C hret (zs_e hJ) rfl rfl rfl dX10_isEvent_15
    · have hJ := zif' hc2 hJ
      refine zr_iconst C dX10_isEvent_10 (v := (1 : Int32)) (by decide) ?_
      refine zr_goto C 15 dX10_isEvent_11 (by decide) ?_
      exact zr_zret C hret (zs_e hJ) rfl rfl rfl dX10_isEvent_15
theorem dX10_isSet_0 : decode cX10_isSet 0 = .ok (.iload_n 0, 1) := by decide +kernel
theorem dX10_isSet_1 : decode cX10_isSet 1 = .ok (.ifCond .lt 14, 3) := by decide +kernel
theorem dX10_isSet_4 : decode cX10_isSet 4 = .ok (.iload_n 0, 1) := by decide +kernel
theorem dX10_isSet_5 : decode cX10_isSet 5 = .ok (.sipush 256, 3) := by decide +kernel
theorem dX10_isSet_8 : decode cX10_isSet 8 = .ok (.if_icmp .ge 7, 3) := by decide +kernel
theorem dX10_isSet_11 : decode cX10_isSet 11 = .ok (.iconst 1, 1) := by decide +kernel
theorem dX10_isSet_12 : decode cX10_isSet 12 = .ok (.goto 4, 3) := by decide +kernel
theorem dX10_isSet_15 : decode cX10_isSet 15 = .ok (.iconst 0, 1) := by decide +kernel
theorem dX10_isSet_16 : decode cX10_isSet 16 = .ok (.ireturn, 1) := by decide +kernel
set_option maxRecDepth 100000 in
set_option maxHeartbeats 4000000 in
theorem M_X10_isSet (G : zG) (l : Launch) {a0 : Int32} {σ : zS} {r : Int32} (hJ : J_X10_isSet a0 σ = some r) : zMI G l yX10_isSet cX10_isSet 1 (some .boolean) (zrm 0 0) [.int a0] 137 (zen G σ) r 137 (zen G σ) := by
  unfold J_X10_isSet at hJ
  refine zentI (by decide +kernel) (Nat.le_of_ble_eq_true rfl) ?_
  intro p e s m args below meth c C hret
  refine zr_sub [0] [(0, .int a0)] rfl ?_
  refine zr_iload_n C 0 dX10_isSet_0 rfl ?_
  refine zr_if_lt C 15 dX10_isSet_1 (by decide) (fun hc1 => ?_) (fun hc1 => ?_)
  · have hJ := zif hc1 hJ
    refine zr_iconst C dX10_isSet_15 (v := (0 : Int32)) (by decide) ?_
    exact zr_zret C hret (zs_e hJ) rfl rfl rfl dX10_isSet_16
  · have hJ := zif' hc1 hJ
    refine zr_iload_n C 0 dX10_isSet_4 rfl ?_
    refine zr_sipush C dX10_isSet_5 (v := (256 : Int32)) (by decide) ?_
    refine zr_icmp_ge C 15 dX10_isSet_8 (by decide) (fun hc2 => ?_) (fun hc2 => ?_)
    · have hJ := zif hc2 hJ
      refine zr_iconst C dX10_isSet_15 (v := (0 : Int32)) (by decide) ?_
      exact zr_zret C hret (zs_e hJ) rfl rfl rfl dX10_isSet_16
    · have hJ := zif' hc2 hJ
      refine zr_iconst C dX10_isSet_11 (v := (1 : Int32)) (by decide) ?_
      refine zr_goto C 16 dX10_isSet_12 (by decide) ?_
      exact zr_zret C hret (zs_e hJ) rfl rfl rfl dX10_isSet_16
theorem dX10_isOneOf_0 : decode cX10_isOneOf 0 = .ok (.iload_n 1, 1) := by decide +kernel
theorem dX10_isOneOf_1 : decode cX10_isOneOf 1 = .ok (.invokestatic 211, 3) := by decide +kernel
theorem dX10_isOneOf_4 : decode cX10_isOneOf 4 = .ok (.ifCond .eq 22, 3) := by decide +kernel
theorem dX10_isOneOf_7 : decode cX10_isOneOf 7 = .ok (.iload_n 0, 1) := by decide +kernel
theorem dX10_isOneOf_8 : decode cX10_isOneOf 8 = .ok (.invokestatic 120, 3) := by decide +kernel
theorem dX10_isOneOf_11 : decode cX10_isOneOf 11 = .ok (.ifCond .eq 15, 3) := by decide +kernel
theorem dX10_isOneOf_14 : decode cX10_isOneOf 14 = .ok (.iload_n 1, 1) := by decide +kernel
theorem dX10_isOneOf_15 : decode cX10_isOneOf 15 = .ok (.iload_n 0, 1) := by decide +kernel
theorem dX10_isOneOf_16 : decode cX10_isOneOf 16 = .ok (.ishr, 1) := by decide +kernel
theorem dX10_isOneOf_17 : decode cX10_isOneOf 17 = .ok (.iconst 1, 1) := by decide +kernel
theorem dX10_isOneOf_18 : decode cX10_isOneOf 18 = .ok (.iand, 1) := by decide +kernel
theorem dX10_isOneOf_19 : decode cX10_isOneOf 19 = .ok (.ifCond .eq 7, 3) := by decide +kernel
theorem dX10_isOneOf_22 : decode cX10_isOneOf 22 = .ok (.iconst 1, 1) := by decide +kernel
theorem dX10_isOneOf_23 : decode cX10_isOneOf 23 = .ok (.goto 4, 3) := by decide +kernel
theorem dX10_isOneOf_26 : decode cX10_isOneOf 26 = .ok (.iconst 0, 1) := by decide +kernel
theorem dX10_isOneOf_27 : decode cX10_isOneOf 27 = .ok (.ireturn, 1) := by decide +kernel
set_option maxRecDepth 100000 in
set_option maxHeartbeats 4000000 in
theorem M_X10_isOneOf (G : zG) (l : Launch) {a0 : Int32} {a1 : Int32} {σ : zS} {r : Int32} (hJ : J_X10_isOneOf a0 a1 σ = some r) : zMI G l yX10_isOneOf cX10_isOneOf 2 (some .boolean) (zrm 1 20) [.int a0, .int a1] 137 (zen G σ) r 137 (zen G σ) := by
  unfold J_X10_isOneOf at hJ
  refine zentI (by decide +kernel) (Nat.le_of_ble_eq_true rfl) ?_
  intro p e s m args below meth c C hret
  refine zr_sub [0, 1] [(0, .int a0), (1, .int a1)] rfl ?_
  refine zr_iload_n C 1 dX10_isOneOf_0 rfl ?_
  obtain ⟨r1, hr1, hJ⟩ := zb_e hJ
  refine zr_callSI C (M_X10_isSet G l hr1) zin_X10_isSet zm_14_20 rfl rfl (Nat.le_of_ble_eq_true rfl) ⟨Nat.le_of_ble_eq_true rfl, Nat.le_of_ble_eq_true rfl⟩ ⟨Nat.le_of_ble_eq_true rfl, Nat.le_of_ble_eq_true rfl⟩ dX10_isOneOf_1 ?_
  refine zr_if_eq C 26 dX10_isOneOf_4 (by decide) (fun hc2 => ?_) (fun hc2 => ?_)
  · have hJ := zif hc2 hJ
    refine zr_iconst C dX10_isOneOf_26 (v := (0 : Int32)) (by decide) ?_
    exact zr_zret C hret (zs_e hJ) rfl rfl rfl dX10_isOneOf_27
  · have hJ := zif' hc2 hJ
    refine zr_iload_n C 0 dX10_isOneOf_7 rfl ?_
    obtain ⟨r3, hr3, hJ⟩ := zb_e hJ
    refine zr_callSI C (M_X10_isEvent G l hr3) zin_X10_isEvent zm_14_23 rfl rfl (Nat.le_of_ble_eq_true rfl) ⟨Nat.le_of_ble_eq_true rfl, Nat.le_of_ble_eq_true rfl⟩ ⟨Nat.le_of_ble_eq_true rfl, Nat.le_of_ble_eq_true rfl⟩ dX10_isOneOf_8 ?_
    refine zr_if_eq C 26 dX10_isOneOf_11 (by decide) (fun hc4 => ?_) (fun hc4 => ?_)
    · have hJ := zif hc4 hJ
      refine zr_iconst C dX10_isOneOf_26 (v := (0 : Int32)) (by decide) ?_
      exact zr_zret C hret (zs_e hJ) rfl rfl rfl dX10_isOneOf_27
    · have hJ := zif' hc4 hJ
      refine zr_iload_n C 1 dX10_isOneOf_14 rfl ?_
      refine zr_iload_n C 0 dX10_isOneOf_15 rfl ?_
      refine zr_ishr C dX10_isOneOf_16 ?_
      refine zr_iconst C dX10_isOneOf_17 (v := (1 : Int32)) (by decide) ?_
      refine zr_iand C dX10_isOneOf_18 ?_
      refine zr_if_eq C 26 dX10_isOneOf_19 (by decide) (fun hc5 => ?_) (fun hc5 => ?_)
      · have hJ := zif hc5 hJ
        refine zr_iconst C dX10_isOneOf_26 (v := (0 : Int32)) (by decide) ?_
        exact zr_zret C hret (zs_e hJ) rfl rfl rfl dX10_isOneOf_27
      · have hJ := zif' hc5 hJ
        refine zr_iconst C dX10_isOneOf_22 (v := (1 : Int32)) (by decide) ?_
        refine zr_goto C 27 dX10_isOneOf_23 (by decide) ?_
        exact zr_zret C hret (zs_e hJ) rfl rfl rfl dX10_isOneOf_27
theorem dX0_counts_0 : decode cX0_counts 0 = .ok (.aload_n 0, 1) := by decide +kernel
theorem dX0_counts_1 : decode cX0_counts 1 = .ok (.iload_n 1, 1) := by decide +kernel
theorem dX0_counts_2 : decode cX0_counts 2 = .ok (.invokevirtual 36, 3) := by decide +kernel
theorem dX0_counts_5 : decode cX0_counts 5 = .ok (.ifCond .eq 20, 3) := by decide +kernel
theorem dX0_counts_8 : decode cX0_counts 8 = .ok (.iload_n 2, 1) := by decide +kernel
theorem dX0_counts_9 : decode cX0_counts 9 = .ok (.aload_n 0, 1) := by decide +kernel
theorem dX0_counts_10 : decode cX0_counts 10 = .ok (.getfield 15, 3) := by decide +kernel
theorem dX0_counts_13 : decode cX0_counts 13 = .ok (.iload_n 1, 1) := by decide +kernel
theorem dX0_counts_14 : decode cX0_counts 14 = .ok (.iaload, 1) := by decide +kernel
theorem dX0_counts_15 : decode cX0_counts 15 = .ok (.invokestatic 40, 3) := by decide +kernel
theorem dX0_counts_18 : decode cX0_counts 18 = .ok (.ifCond .eq 7, 3) := by decide +kernel
theorem dX0_counts_21 : decode cX0_counts 21 = .ok (.iconst 1, 1) := by decide +kernel
theorem dX0_counts_22 : decode cX0_counts 22 = .ok (.goto 4, 3) := by decide +kernel
theorem dX0_counts_25 : decode cX0_counts 25 = .ok (.iconst 0, 1) := by decide +kernel
theorem dX0_counts_26 : decode cX0_counts 26 = .ok (.ireturn, 1) := by decide +kernel
set_option maxRecDepth 100000 in
set_option maxHeartbeats 4000000 in
theorem M_X0_counts (G : zG) (l : Launch) {a1 : Int32} {a2 : Int32} {σ : zS} {r : Int32} (hJ : J_X0_counts a1 a2 σ = some r) : zMI G l yX0_counts cX0_counts 3 (some .boolean) (zrm 2 41) [.ref (G.1 + 82), .int a1, .int a2] 137 (zen G σ) r 137 (zen G σ) := by
  unfold J_X0_counts at hJ
  refine zentI (by decide +kernel) (Nat.le_of_ble_eq_true rfl) ?_
  intro p e s m args below meth c C hret
  refine zr_sub [0, 1, 2] [(0, .ref (G.1 + 82)), (1, .int a1), (2, .int a2)] rfl ?_
  refine zr_aload_n C 0 dX0_counts_0 rfl ?_
  refine zr_iload_n C 1 dX0_counts_1 rfl ?_
  obtain ⟨r1, hr1, hJ⟩ := zb_e hJ
  refine zr_callVI C 82 (zk_lt zk_82 (by decide)) (zen_obj zk_82) (rfl : zcl[0]? = some (RX0, TX0, 7)) (M_X0_has G l hr1) zin_X0_has zm_41_16 rfl rfl (Nat.le_of_ble_eq_true rfl) ⟨Nat.le_of_ble_eq_true rfl, Nat.le_of_ble_eq_true rfl⟩ ⟨Nat.le_of_ble_eq_true rfl, Nat.le_of_ble_eq_true rfl⟩ dX0_counts_2 ?_
  refine zr_if_eq C 25 dX0_counts_5 (by decide) (fun hc2 => ?_) (fun hc2 => ?_)
  · have hJ := zif hc2 hJ
    refine zr_iconst C dX0_counts_25 (v := (0 : Int32)) (by decide) ?_
    exact zr_zret C hret (zs_e hJ) rfl rfl rfl dX0_counts_26
  · have hJ := zif' hc2 hJ
    refine zr_iload_n C 2 dX0_counts_8 rfl ?_
    refine zr_aload_n C 0 dX0_counts_9 rfl ?_
    refine zg_0_1 C 82 zk_82 zm_5_10 dX0_counts_10 ?_
    refine zr_iload_n C 1 dX0_counts_13 rfl ?_
    obtain ⟨hg3, hJ⟩ := zg_e hJ
    refine zu_iald C 83 zk_83 hg3 dX0_counts_14 ?_
    obtain ⟨r4, hr4, hJ⟩ := zb_e hJ
    refine zr_callnSI C (M_X10_isOneOf G l hr4) zin_X10_isOneOf zne_X0_40 rfl rfl (Nat.le_of_ble_eq_true rfl) ⟨Nat.le_of_ble_eq_true rfl, Nat.le_of_ble_eq_true rfl⟩ ⟨Nat.le_of_ble_eq_true rfl, Nat.le_of_ble_eq_true rfl⟩ dX0_counts_15 ?_
    refine zr_if_eq C 25 dX0_counts_18 (by decide) (fun hc5 => ?_) (fun hc5 => ?_)
    · have hJ := zif hc5 hJ
      refine zr_iconst C dX0_counts_25 (v := (0 : Int32)) (by decide) ?_
      exact zr_zret C hret (zs_e hJ) rfl rfl rfl dX0_counts_26
    · have hJ := zif' hc5 hJ
      refine zr_iconst C dX0_counts_21 (v := (1 : Int32)) (by decide) ?_
      refine zr_goto C 26 dX0_counts_22 (by decide) ?_
      exact zr_zret C hret (zs_e hJ) rfl rfl rfl dX0_counts_26
theorem dX0_fewestFor_0 : decode cX0_fewestFor 0 = .ok (.iload_n 1, 1) := by decide +kernel
theorem dX0_fewestFor_1 : decode cX0_fewestFor 1 = .ok (.ifCond .ne 5, 3) := by decide +kernel
theorem dX0_fewestFor_4 : decode cX0_fewestFor 4 = .ok (.iconst 0, 1) := by decide +kernel
theorem dX0_fewestFor_5 : decode cX0_fewestFor 5 = .ok (.ireturn, 1) := by decide +kernel
theorem dX0_fewestFor_6 : decode cX0_fewestFor 6 = .ok (.iload_n 1, 1) := by decide +kernel
theorem dX0_fewestFor_7 : decode cX0_fewestFor 7 = .ok (.iload_n 1, 1) := by decide +kernel
theorem dX0_fewestFor_8 : decode cX0_fewestFor 8 = .ok (.ineg, 1) := by decide +kernel
theorem dX0_fewestFor_9 : decode cX0_fewestFor 9 = .ok (.iand, 1) := by decide +kernel
theorem dX0_fewestFor_10 : decode cX0_fewestFor 10 = .ok (.istore_n 2, 1) := by decide +kernel
theorem dX0_fewestFor_11 : decode cX0_fewestFor 11 = .ok (.iload_n 1, 1) := by decide +kernel
theorem dX0_fewestFor_12 : decode cX0_fewestFor 12 = .ok (.iload_n 2, 1) := by decide +kernel
theorem dX0_fewestFor_13 : decode cX0_fewestFor 13 = .ok (.ixor, 1) := by decide +kernel
theorem dX0_fewestFor_14 : decode cX0_fewestFor 14 = .ok (.istore_n 3, 1) := by decide +kernel
theorem dX0_fewestFor_15 : decode cX0_fewestFor 15 = .ok (.bipush 100, 2) := by decide +kernel
theorem dX0_fewestFor_17 : decode cX0_fewestFor 17 = .ok (.istore 4, 2) := by decide +kernel
theorem dX0_fewestFor_19 : decode cX0_fewestFor 19 = .ok (.iload_n 3, 1) := by decide +kernel
theorem dX0_fewestFor_20 : decode cX0_fewestFor 20 = .ok (.istore 5, 2) := by decide +kernel
theorem dX0_fewestFor_22 : decode cX0_fewestFor 22 = .ok (.iconst 0, 1) := by decide +kernel
theorem dX0_fewestFor_23 : decode cX0_fewestFor 23 = .ok (.istore 6, 2) := by decide +kernel
theorem dX0_fewestFor_25 : decode cX0_fewestFor 25 = .ok (.iload 6, 2) := by decide +kernel
theorem dX0_fewestFor_27 : decode cX0_fewestFor 27 = .ok (.sipush 256, 3) := by decide +kernel
theorem dX0_fewestFor_30 : decode cX0_fewestFor 30 = .ok (.if_icmp .ge 55, 3) := by decide +kernel
theorem dX0_fewestFor_33 : decode cX0_fewestFor 33 = .ok (.aload_n 0, 1) := by decide +kernel
theorem dX0_fewestFor_34 : decode cX0_fewestFor 34 = .ok (.getfield 25, 3) := by decide +kernel
theorem dX0_fewestFor_37 : decode cX0_fewestFor 37 = .ok (.iload 5, 2) := by decide +kernel
theorem dX0_fewestFor_39 : decode cX0_fewestFor 39 = .ok (.iload_n 2, 1) := by decide +kernel
theorem dX0_fewestFor_40 : decode cX0_fewestFor 40 = .ok (.ior, 1) := by decide +kernel
theorem dX0_fewestFor_41 : decode cX0_fewestFor 41 = .ok (.baload, 1) := by decide +kernel
theorem dX0_fewestFor_42 : decode cX0_fewestFor 42 = .ok (.ifCond .eq 21, 3) := by decide +kernel
theorem dX0_fewestFor_45 : decode cX0_fewestFor 45 = .ok (.iload 4, 2) := by decide +kernel
theorem dX0_fewestFor_47 : decode cX0_fewestFor 47 = .ok (.aload_n 0, 1) := by decide +kernel
theorem dX0_fewestFor_48 : decode cX0_fewestFor 48 = .ok (.getfield 29, 3) := by decide +kernel
theorem dX0_fewestFor_51 : decode cX0_fewestFor 51 = .ok (.iload_n 3, 1) := by decide +kernel
theorem dX0_fewestFor_52 : decode cX0_fewestFor 52 = .ok (.iload 5, 2) := by decide +kernel
theorem dX0_fewestFor_54 : decode cX0_fewestFor 54 = .ok (.ixor, 1) := by decide +kernel
theorem dX0_fewestFor_55 : decode cX0_fewestFor 55 = .ok (.iaload, 1) := by decide +kernel
theorem dX0_fewestFor_56 : decode cX0_fewestFor 56 = .ok (.iconst 1, 1) := by decide +kernel
theorem dX0_fewestFor_57 : decode cX0_fewestFor 57 = .ok (.iadd, 1) := by decide +kernel
theorem dX0_fewestFor_58 : decode cX0_fewestFor 58 = .ok (.invokestatic 60, 3) := by decide +kernel
theorem dX0_fewestFor_61 : decode cX0_fewestFor 61 = .ok (.istore 4, 2) := by decide +kernel
theorem dX0_fewestFor_63 : decode cX0_fewestFor 63 = .ok (.iload 5, 2) := by decide +kernel
theorem dX0_fewestFor_65 : decode cX0_fewestFor 65 = .ok (.ifCond .ne 6, 3) := by decide +kernel
theorem dX0_fewestFor_68 : decode cX0_fewestFor 68 = .ok (.goto 17, 3) := by decide +kernel
theorem dX0_fewestFor_71 : decode cX0_fewestFor 71 = .ok (.iload 5, 2) := by decide +kernel
theorem dX0_fewestFor_73 : decode cX0_fewestFor 73 = .ok (.iconst 1, 1) := by decide +kernel
theorem dX0_fewestFor_74 : decode cX0_fewestFor 74 = .ok (.isub, 1) := by decide +kernel
theorem dX0_fewestFor_75 : decode cX0_fewestFor 75 = .ok (.iload_n 3, 1) := by decide +kernel
theorem dX0_fewestFor_76 : decode cX0_fewestFor 76 = .ok (.iand, 1) := by decide +kernel
theorem dX0_fewestFor_77 : decode cX0_fewestFor 77 = .ok (.istore 5, 2) := by decide +kernel
theorem dX0_fewestFor_79 : decode cX0_fewestFor 79 = .ok (.iinc 6 1, 3) := by decide +kernel
theorem dX0_fewestFor_82 : decode cX0_fewestFor 82 = .ok (.goto (-57), 3) := by decide +kernel
theorem dX0_fewestFor_85 : decode cX0_fewestFor 85 = .ok (.iload 4, 2) := by decide +kernel
theorem dX0_fewestFor_87 : decode cX0_fewestFor 87 = .ok (.ireturn, 1) := by decide +kernel
set_option maxRecDepth 100000 in
set_option maxHeartbeats 4000000 in
theorem M_X0_fewestFor (G : zG) (l : Launch) {a1 : Int32} {σ : zS} {r : Int32} (hJ : J_X0_fewestFor a1 σ = some r) : zMI G l yX0_fewestFor cX0_fewestFor 7 (some .int) (zrm 1 13) [.ref (G.1 + 82), .int a1] 137 (zen G σ) r 137 (zen G σ) := by
  unfold J_X0_fewestFor at hJ
  refine zentI (by decide +kernel) (Nat.le_of_ble_eq_true rfl) ?_
  intro p e s m args below meth c C hret
  refine zr_sub [0, 1] [(0, .ref (G.1 + 82)), (1, .int a1)] rfl ?_
  refine zr_iload_n C 1 dX0_fewestFor_0 rfl ?_
  refine zr_if_ne C 6 dX0_fewestFor_1 (by decide) (fun hc1 => ?_) (fun hc1 => ?_)
  · have hJ := zif' hc1 hJ
    refine zr_iload_n C 1 dX0_fewestFor_6 rfl ?_
    refine zr_iload_n C 1 dX0_fewestFor_7 rfl ?_
    refine zr_ineg C dX0_fewestFor_8 ?_
    refine zr_iand C dX0_fewestFor_9 ?_
    obtain ⟨v2, hv2, hJ⟩ := zlet_e hJ
    refine zr_topi hv2 ?_
    refine zr_istore_n C [(2, .int v2), (0, .ref (G.1 + 82)), (1, .int a1)] dX0_fewestFor_10 (by decide) rfl ?_
    refine zr_iload_n C 2 dX0_fewestFor_11 rfl ?_
    refine zr_iload_n C 0 dX0_fewestFor_12 rfl ?_
    refine zr_ixor C dX0_fewestFor_13 ?_
    obtain ⟨v3, hv3, hJ⟩ := zlet_e hJ
    refine zr_topi hv3 ?_
    refine zr_istore_n C [(3, .int v3), (2, .int v2), (0, .ref (G.1 + 82)), (1, .int a1)] dX0_fewestFor_14 (by decide) rfl ?_
    refine zr_bipush C dX0_fewestFor_15 (v := (100 : Int32)) (by decide) ?_
    refine zr_istore C [(4, .int (100 : Int32)), (3, .int v3), (2, .int v2), (0, .ref (G.1 + 82)), (1, .int a1)] dX0_fewestFor_17 (by decide) rfl ?_
    refine zr_iload_n C 1 dX0_fewestFor_19 rfl ?_
    refine zr_istore C [(5, .int v3), (4, .int (100 : Int32)), (3, .int v3), (2, .int v2), (0, .ref (G.1 + 82)), (1, .int a1)] dX0_fewestFor_20 (by decide) rfl ?_
    refine zr_iconst C dX0_fewestFor_22 (v := (0 : Int32)) (by decide) ?_
    refine zr_istore C [(6, .int (0 : Int32)), (5, .int v3), (4, .int (100 : Int32)), (3, .int v3), (2, .int v2), (0, .ref (G.1 + 82)), (1, .int a1)] dX0_fewestFor_23 (by decide) rfl ?_
    have hl25 : ∀ (n : Nat) (w4_25 : Int32) (w5_25 : Int32) (w6_25 : Int32), L_X0_fewestFor_25 σ v2 v3 n w4_25 w5_25 w6_25 = some r → zU G 7 p l e (zrm 1 13) s m args below meth c (MQ below (va_Qi (fun x (_ : Unit) => x = r) (fun _ t => zok G 137 (zen G σ) t) (zA G)) args s 0 0 (zA G)) σ 25 [(0, .ref (G.1 + 82)), (2, .int v2), (3, .int v3), (4, .int w4_25), (5, .int w5_25), (6, .int w6_25)] [] := by
      intro n
      induction n with
      | zero =>
        intro w4_25 w5_25 w6_25 hJ
        rw [L_X0_fewestFor_25] at hJ
        cases hJ
      | succ n ih =>
        intro w4_25 w5_25 w6_25 hJ
        rw [L_X0_fewestFor_25] at hJ
        obtain ⟨r_25, hr_25, hJ⟩ := zlet_e hJ
        have ih25 : ∀ (w4_25 : Int32) (w5_25 : Int32) (w6_25 : Int32), r_25 w4_25 w5_25 w6_25 = some r → zU G 7 p l e (zrm 1 13) s m args below meth c (MQ below (va_Qi (fun x (_ : Unit) => x = r) (fun _ t => zok G 137 (zen G σ) t) (zA G)) args s 0 0 (zA G)) σ 25 [(0, .ref (G.1 + 82)), (2, .int v2), (3, .int v3), (4, .int w4_25), (5, .int w5_25), (6, .int w6_25)] [] := by
          rw [hr_25]
          exact ih
        refine zr_iload C 5 dX0_fewestFor_25 rfl ?_
        refine zr_sipush C dX0_fewestFor_27 (v := (256 : Int32)) (by decide) ?_
        refine zr_icmp_ge C 85 dX0_fewestFor_30 (by decide) (fun hc4 => ?_) (fun hc4 => ?_)
        · have hJ := zif hc4 hJ
          refine zr_iload C 3 dX0_fewestFor_85 rfl ?_
          exact zr_iret C hret (zs_e hJ) rfl rfl dX0_fewestFor_87
        · have hJ := zif' hc4 hJ
          refine zr_aload_n C 0 dX0_fewestFor_33 rfl ?_
          refine zg_0_4 C 82 zk_82 zm_5_14 dX0_fewestFor_34 ?_
          refine zr_iload C 4 dX0_fewestFor_37 rfl ?_
          refine zr_iload_n C 1 dX0_fewestFor_39 rfl ?_
          refine zr_ior C dX0_fewestFor_40 ?_
          obtain ⟨hg5, hJ⟩ := zg_e hJ
          refine zu_zald C 86 zk_86 hg5 dX0_fewestFor_41 ?_
          obtain ⟨k63, hk63, hJ⟩ := zlet_e hJ
          have hj63 : ∀ (w4_63 : Int32), k63 w4_63 = some r → zU G 7 p l e (zrm 1 13) s m args below meth c (MQ below (va_Qi (fun x (_ : Unit) => x = r) (fun _ t => zok G 137 (zen G σ) t) (zA G)) args s 0 0 (zA G)) σ 63 [(0, .ref (G.1 + 82)), (2, .int v2), (3, .int v3), (4, .int w4_63), (5, .int w5_25), (6, .int w6_25)] [] := by
            intro w4_63 hJ
            rw [hk63] at hJ
            unfold D_X0_fewestFor_63 at hJ
            refine zr_iload C 4 dX0_fewestFor_63 rfl ?_
            refine zr_if_ne C 71 dX0_fewestFor_65 (by decide) (fun hc6 => ?_) (fun hc6 => ?_)
            · have hJ := zif' hc6 hJ
              refine zr_iload C 4 dX0_fewestFor_71 rfl ?_
              refine zr_iconst C dX0_fewestFor_73 (v := (1 : Int32)) (by decide) ?_
              refine zr_isub C dX0_fewestFor_74 ?_
              refine zr_iload_n C 2 dX0_fewestFor_75 rfl ?_
              refine zr_iand C dX0_fewestFor_76 ?_
              obtain ⟨v7, hv7, hJ⟩ := zlet_e hJ
              refine zr_topi hv7 ?_
              refine zr_istore C [(5, .int v7), (0, .ref (G.1 + 82)), (2, .int v2), (3, .int v3), (4, .int w4_63), (6, .int w6_25)] dX0_fewestFor_77 (by decide) rfl ?_
              obtain ⟨v8, hv8, hJ⟩ := zlet_e hJ
              refine zr_iinc C v8 5 [(6, .int v8), (5, .int v7), (0, .ref (G.1 + 82)), (2, .int v2), (3, .int v3), (4, .int w4_63)] dX0_fewestFor_79 rfl (hv8.trans (zinc (by decide))) (by decide) rfl ?_
              refine zr_goto C 25 dX0_fewestFor_82 (by decide) ?_
              refine zr_sub [2, 3, 4, 5, 1, 0] [(0, .ref (G.1 + 82)), (2, .int v2), (3, .int v3), (4, .int w4_63), (5, .int v7), (6, .int v8)] rfl ?_
              exact ih25 _ _ _ hJ
            · have hJ := zif hc6 hJ
              refine zr_goto C 85 dX0_fewestFor_68 (by decide) ?_
              refine zr_iload C 3 dX0_fewestFor_85 rfl ?_
              exact zr_iret C hret (zs_e hJ) rfl rfl dX0_fewestFor_87
          refine zr_if_eq C 63 dX0_fewestFor_42 (by decide) (fun hc9 => ?_) (fun hc9 => ?_)
          · have hJ := zif hc9 hJ
            exact hj63 _ hJ
          · have hJ := zif' hc9 hJ
            refine zr_iload C 3 dX0_fewestFor_45 rfl ?_
            refine zr_aload_n C 0 dX0_fewestFor_47 rfl ?_
            refine zg_0_5 C 82 zk_82 zm_5_15 dX0_fewestFor_48 ?_
            refine zr_iload_n C 2 dX0_fewestFor_51 rfl ?_
            refine zr_iload C 4 dX0_fewestFor_52 rfl ?_
            refine zr_ixor C dX0_fewestFor_54 ?_
            obtain ⟨hg10, hJ⟩ := zg_e hJ
            refine zu_iald C 87 zk_87 hg10 dX0_fewestFor_55 ?_
            refine zr_iconst C dX0_fewestFor_56 (v := (1 : Int32)) (by decide) ?_
            refine zr_iadd C dX0_fewestFor_57 ?_
            refine zr_mmin C zm_33_6 zMs_min zMi zMc_min (Nat.le_of_ble_eq_true rfl) (Nat.le_of_ble_eq_true rfl) ⟨Nat.le_of_ble_eq_true rfl, Nat.le_of_ble_eq_true rfl⟩ dX0_fewestFor_58 ?_
            obtain ⟨v11, hv11, hJ⟩ := zlet_e hJ
            refine zr_topi hv11 ?_
            refine zr_istore C [(4, .int v11), (0, .ref (G.1 + 82)), (2, .int v2), (3, .int v3), (5, .int w5_25), (6, .int w6_25)] dX0_fewestFor_61 (by decide) rfl ?_
            refine zr_sub [1, 2, 3, 0, 4, 5] [(0, .ref (G.1 + 82)), (2, .int v2), (3, .int v3), (4, .int v11), (5, .int w5_25), (6, .int w6_25)] rfl ?_
            exact hj63 _ hJ
    refine zr_sub [5, 4, 3, 2, 1, 0] [(0, .ref (G.1 + 82)), (2, .int v2), (3, .int v3), (4, .int (100 : Int32)), (5, .int v3), (6, .int (0 : Int32))] rfl ?_
    exact hl25 _ _ _ _ hJ
  · have hJ := zif hc1 hJ
    refine zr_iconst C dX0_fewestFor_4 (v := (0 : Int32)) (by decide) ?_
    exact zr_iret C hret (zs_e hJ) rfl rfl dX0_fewestFor_5
theorem dX0_learn_0 : decode cX0_learn 0 = .ok (.aload_n 0, 1) := by decide +kernel
theorem dX0_learn_1 : decode cX0_learn 1 = .ok (.getfield 32, 3) := by decide +kernel
theorem dX0_learn_4 : decode cX0_learn 4 = .ok (.ifCond .eq 4, 3) := by decide +kernel
theorem dX0_learn_7 : decode cX0_learn 7 = .ok (.return_, 1) := by decide +kernel
theorem dX0_learn_8 : decode cX0_learn 8 = .ok (.aload_n 0, 1) := by decide +kernel
theorem dX0_learn_9 : decode cX0_learn 9 = .ok (.iconst 1, 1) := by decide +kernel
theorem dX0_learn_10 : decode cX0_learn 10 = .ok (.putfield 32, 3) := by decide +kernel
theorem dX0_learn_13 : decode cX0_learn 13 = .ok (.iconst 0, 1) := by decide +kernel
theorem dX0_learn_14 : decode cX0_learn 14 = .ok (.istore_n 1, 1) := by decide +kernel
theorem dX0_learn_15 : decode cX0_learn 15 = .ok (.iload_n 1, 1) := by decide +kernel
theorem dX0_learn_16 : decode cX0_learn 16 = .ok (.sipush 256, 3) := by decide +kernel
theorem dX0_learn_19 : decode cX0_learn 19 = .ok (.if_icmp .ge 32, 3) := by decide +kernel
theorem dX0_learn_22 : decode cX0_learn 22 = .ok (.aload_n 0, 1) := by decide +kernel
theorem dX0_learn_23 : decode cX0_learn 23 = .ok (.getfield 25, 3) := by decide +kernel
theorem dX0_learn_26 : decode cX0_learn 26 = .ok (.iload_n 1, 1) := by decide +kernel
theorem dX0_learn_27 : decode cX0_learn 27 = .ok (.aload_n 0, 1) := by decide +kernel
theorem dX0_learn_28 : decode cX0_learn 28 = .ok (.iload_n 1, 1) := by decide +kernel
theorem dX0_learn_29 : decode cX0_learn 29 = .ok (.iconst 0, 1) := by decide +kernel
theorem dX0_learn_30 : decode cX0_learn 30 = .ok (.invokevirtual 54, 3) := by decide +kernel
theorem dX0_learn_33 : decode cX0_learn 33 = .ok (.bastore, 1) := by decide +kernel
theorem dX0_learn_34 : decode cX0_learn 34 = .ok (.aload_n 0, 1) := by decide +kernel
theorem dX0_learn_35 : decode cX0_learn 35 = .ok (.getfield 29, 3) := by decide +kernel
theorem dX0_learn_38 : decode cX0_learn 38 = .ok (.iload_n 1, 1) := by decide +kernel
theorem dX0_learn_39 : decode cX0_learn 39 = .ok (.aload_n 0, 1) := by decide +kernel
theorem dX0_learn_40 : decode cX0_learn 40 = .ok (.iload_n 1, 1) := by decide +kernel
theorem dX0_learn_41 : decode cX0_learn 41 = .ok (.invokevirtual 57, 3) := by decide +kernel
theorem dX0_learn_44 : decode cX0_learn 44 = .ok (.iastore, 1) := by decide +kernel
theorem dX0_learn_45 : decode cX0_learn 45 = .ok (.iinc 1 1, 3) := by decide +kernel
theorem dX0_learn_48 : decode cX0_learn 48 = .ok (.goto (-33), 3) := by decide +kernel
theorem dX0_learn_51 : decode cX0_learn 51 = .ok (.return_, 1) := by decide +kernel
set_option maxRecDepth 100000 in
set_option maxHeartbeats 4000000 in
theorem M_X0_learn (G : zG) (l : Launch) {σ : zS} {σ' : zS} (hJ : J_X0_learn σ = some σ') : zMV G l yX0_learn cX0_learn 2 none (zrm 15 351) [.ref (G.1 + 82)] 137 (zen G σ) 137 (zen G σ') := by
  unfold J_X0_learn at hJ
  refine zentV (by decide +kernel) (Nat.le_of_ble_eq_true rfl) ?_
  intro p e s m args below meth c C hret
  refine zr_sub [0] [(0, .ref (G.1 + 82))] rfl ?_
  refine zr_aload_n C 0 dX0_learn_0 rfl ?_
  refine zg_0_6 C 82 zk_82 zm_5_16 dX0_learn_1 ?_
  refine zr_if_eq C 8 dX0_learn_4 (by decide) (fun hc1 => ?_) (fun hc1 => ?_)
  · have hJ := zif hc1 hJ
    refine zr_aload_n C 0 dX0_learn_8 rfl ?_
    refine zr_iconst C dX0_learn_9 (v := (1 : Int32)) (by decide) ?_
    obtain ⟨σ2, hσ2, hJ⟩ := zlet_e hJ
    refine zp_0_6 C 82 zk_82 zm_5_16 rfl rfl hσ2 dX0_learn_10 ?_
    refine zr_iconst C dX0_learn_13 (v := (0 : Int32)) (by decide) ?_
    refine zr_istore_n C [(1, .int (0 : Int32)), (0, .ref (G.1 + 82))] dX0_learn_14 (by decide) rfl ?_
    have hl15 : ∀ (n : Nat) (w1_15 : Int32) (σ_15 : zS), L_X0_learn_15 n w1_15 σ_15 = some σ' → zU G 2 p l e (zrm 15 351) s m args below meth c (MQ below (va_Qv (fun (_ : Unit) => True) (fun _ t => zok G 137 (zen G σ') t) (zA G)) args s 0 0 (zA G)) σ_15 15 [(0, .ref (G.1 + 82)), (1, .int w1_15)] [] := by
      intro n
      induction n with
      | zero =>
        intro w1_15 σ_15 hJ
        rw [L_X0_learn_15] at hJ
        cases hJ
      | succ n ih =>
        intro w1_15 σ_15 hJ
        rw [L_X0_learn_15] at hJ
        obtain ⟨r_15, hr_15, hJ⟩ := zlet_e hJ
        have ih15 : ∀ (w1_15 : Int32) (σ_15 : zS), r_15 w1_15 σ_15 = some σ' → zU G 2 p l e (zrm 15 351) s m args below meth c (MQ below (va_Qv (fun (_ : Unit) => True) (fun _ t => zok G 137 (zen G σ') t) (zA G)) args s 0 0 (zA G)) σ_15 15 [(0, .ref (G.1 + 82)), (1, .int w1_15)] [] := by
          rw [hr_15]
          exact ih
        refine zr_iload_n C 1 dX0_learn_15 rfl ?_
        refine zr_sipush C dX0_learn_16 (v := (256 : Int32)) (by decide) ?_
        refine zr_icmp_ge C 51 dX0_learn_19 (by decide) (fun hc3 => ?_) (fun hc3 => ?_)
        · have hJ := zif hc3 hJ
          exact zr_vret C hret rfl (congrArg (zen G) (zs_e hJ)) dX0_learn_51
        · have hJ := zif' hc3 hJ
          refine zr_aload_n C 0 dX0_learn_22 rfl ?_
          refine zg_0_4 C 82 zk_82 zm_5_14 dX0_learn_23 ?_
          refine zr_iload_n C 1 dX0_learn_26 rfl ?_
          refine zr_aload_n C 0 dX0_learn_27 rfl ?_
          refine zr_iload_n C 1 dX0_learn_28 rfl ?_
          refine zr_iconst C dX0_learn_29 (v := (0 : Int32)) (by decide) ?_
          obtain ⟨r4, hr4, hJ⟩ := zb_e hJ
          refine zr_callVI C 82 (zk_lt zk_82 (by decide)) (zen_obj zk_82) (rfl : zcl[0]? = some (RX0, TX0, 7)) (M_X0_canPlace G l 7 hr4) zin_X0_canPlace zm_31_12 rfl rfl (Nat.le_of_ble_eq_true rfl) ⟨Nat.le_of_ble_eq_true rfl, Nat.le_of_ble_eq_true rfl⟩ ⟨Nat.le_of_ble_eq_true rfl, Nat.le_of_ble_eq_true rfl⟩ dX0_learn_30 ?_
          obtain ⟨hg5, hJ⟩ := zg_e hJ
          obtain ⟨σ6, hσ6, hJ⟩ := zlet_e hJ
          refine zv_zast C 86 zk_86 hg5 hσ6 dX0_learn_33 ?_
          refine zr_aload_n C 0 dX0_learn_34 rfl ?_
          refine zg_0_5 C 82 zk_82 zm_5_15 dX0_learn_35 ?_
          refine zr_iload_n C 1 dX0_learn_38 rfl ?_
          refine zr_aload_n C 0 dX0_learn_39 rfl ?_
          refine zr_iload_n C 1 dX0_learn_40 rfl ?_
          obtain ⟨r7, hr7, hJ⟩ := zb_e hJ
          refine zr_callVI C 82 (zk_lt zk_82 (by decide)) (zen_obj zk_82) (rfl : zcl[0]? = some (RX0, TX0, 7)) (M_X0_fewestFor G l hr7) zin_X0_fewestFor zm_33_2 rfl rfl (Nat.le_of_ble_eq_true rfl) ⟨Nat.le_of_ble_eq_true rfl, Nat.le_of_ble_eq_true rfl⟩ ⟨Nat.le_of_ble_eq_true rfl, Nat.le_of_ble_eq_true rfl⟩ dX0_learn_41 ?_
          obtain ⟨hg8, hJ⟩ := zg_e hJ
          obtain ⟨σ9, hσ9, hJ⟩ := zlet_e hJ
          refine zv_iast C 87 zk_87 hg8 hσ9 dX0_learn_44 ?_
          obtain ⟨v10, hv10, hJ⟩ := zlet_e hJ
          refine zr_iinc C v10 1 [(1, .int v10), (0, .ref (G.1 + 82))] dX0_learn_45 rfl (hv10.trans (zinc (by decide))) (by decide) rfl ?_
          refine zr_goto C 15 dX0_learn_48 (by decide) ?_
          refine zr_sub [1, 0] [(0, .ref (G.1 + 82)), (1, .int v10)] rfl ?_
          exact ih15 _ _ hJ
    refine zr_sub [1, 0] [(0, .ref (G.1 + 82)), (1, .int (0 : Int32))] rfl ?_
    exact hl15 _ _ _ hJ
  · have hJ := zif' hc1 hJ
    exact zr_vret C hret rfl (congrArg (zen G) (zs_e hJ)) dX0_learn_7
theorem dX0_leastRound_0 : decode cX0_leastRound 0 = .ok (.iload_n 1, 1) := by decide +kernel
theorem dX0_leastRound_1 : decode cX0_leastRound 1 = .ok (.iload_n 1, 1) := by decide +kernel
theorem dX0_leastRound_2 : decode cX0_leastRound 2 = .ok (.ineg, 1) := by decide +kernel
theorem dX0_leastRound_3 : decode cX0_leastRound 3 = .ok (.iand, 1) := by decide +kernel
theorem dX0_leastRound_4 : decode cX0_leastRound 4 = .ok (.istore_n 2, 1) := by decide +kernel
theorem dX0_leastRound_5 : decode cX0_leastRound 5 = .ok (.iload_n 2, 1) := by decide +kernel
theorem dX0_leastRound_6 : decode cX0_leastRound 6 = .ok (.istore_n 3, 1) := by decide +kernel
theorem dX0_leastRound_7 : decode cX0_leastRound 7 = .ok (.iload_n 3, 1) := by decide +kernel
theorem dX0_leastRound_8 : decode cX0_leastRound 8 = .ok (.iload_n 1, 1) := by decide +kernel
theorem dX0_leastRound_9 : decode cX0_leastRound 9 = .ok (.if_icmp .ge 63, 3) := by decide +kernel
theorem dX0_leastRound_12 : decode cX0_leastRound 12 = .ok (.iload_n 3, 1) := by decide +kernel
theorem dX0_leastRound_13 : decode cX0_leastRound 13 = .ok (.iload_n 1, 1) := by decide +kernel
theorem dX0_leastRound_14 : decode cX0_leastRound 14 = .ok (.iconst (-1), 1) := by decide +kernel
theorem dX0_leastRound_15 : decode cX0_leastRound 15 = .ok (.ixor, 1) := by decide +kernel
theorem dX0_leastRound_16 : decode cX0_leastRound 16 = .ok (.iand, 1) := by decide +kernel
theorem dX0_leastRound_17 : decode cX0_leastRound 17 = .ok (.ifCond .ne 13, 3) := by decide +kernel
theorem dX0_leastRound_20 : decode cX0_leastRound 20 = .ok (.iload_n 3, 1) := by decide +kernel
theorem dX0_leastRound_21 : decode cX0_leastRound 21 = .ok (.iload_n 2, 1) := by decide +kernel
theorem dX0_leastRound_22 : decode cX0_leastRound 22 = .ok (.iand, 1) := by decide +kernel
theorem dX0_leastRound_23 : decode cX0_leastRound 23 = .ok (.ifCond .eq 7, 3) := by decide +kernel
theorem dX0_leastRound_26 : decode cX0_leastRound 26 = .ok (.iconst 1, 1) := by decide +kernel
theorem dX0_leastRound_27 : decode cX0_leastRound 27 = .ok (.goto 4, 3) := by decide +kernel
theorem dX0_leastRound_30 : decode cX0_leastRound 30 = .ok (.iconst 0, 1) := by decide +kernel
theorem dX0_leastRound_31 : decode cX0_leastRound 31 = .ok (.istore 4, 2) := by decide +kernel
theorem dX0_leastRound_33 : decode cX0_leastRound 33 = .ok (.iload 4, 2) := by decide +kernel
theorem dX0_leastRound_35 : decode cX0_leastRound 35 = .ok (.ifCond .eq 31, 3) := by decide +kernel
theorem dX0_leastRound_38 : decode cX0_leastRound 38 = .ok (.aload_n 0, 1) := by decide +kernel
theorem dX0_leastRound_39 : decode cX0_leastRound 39 = .ok (.getfield 25, 3) := by decide +kernel
theorem dX0_leastRound_42 : decode cX0_leastRound 42 = .ok (.iload_n 3, 1) := by decide +kernel
theorem dX0_leastRound_43 : decode cX0_leastRound 43 = .ok (.baload, 1) := by decide +kernel
theorem dX0_leastRound_44 : decode cX0_leastRound 44 = .ok (.ifCond .eq 22, 3) := by decide +kernel
theorem dX0_leastRound_47 : decode cX0_leastRound 47 = .ok (.aload_n 0, 1) := by decide +kernel
theorem dX0_leastRound_48 : decode cX0_leastRound 48 = .ok (.getfield 29, 3) := by decide +kernel
theorem dX0_leastRound_51 : decode cX0_leastRound 51 = .ok (.iload_n 1, 1) := by decide +kernel
theorem dX0_leastRound_52 : decode cX0_leastRound 52 = .ok (.iload_n 3, 1) := by decide +kernel
theorem dX0_leastRound_53 : decode cX0_leastRound 53 = .ok (.ixor, 1) := by decide +kernel
theorem dX0_leastRound_54 : decode cX0_leastRound 54 = .ok (.iaload, 1) := by decide +kernel
theorem dX0_leastRound_55 : decode cX0_leastRound 55 = .ok (.aload_n 0, 1) := by decide +kernel
theorem dX0_leastRound_56 : decode cX0_leastRound 56 = .ok (.getfield 29, 3) := by decide +kernel
theorem dX0_leastRound_59 : decode cX0_leastRound 59 = .ok (.iload_n 1, 1) := by decide +kernel
theorem dX0_leastRound_60 : decode cX0_leastRound 60 = .ok (.iaload, 1) := by decide +kernel
theorem dX0_leastRound_61 : decode cX0_leastRound 61 = .ok (.if_icmp .ge 5, 3) := by decide +kernel
theorem dX0_leastRound_64 : decode cX0_leastRound 64 = .ok (.iload_n 3, 1) := by decide +kernel
theorem dX0_leastRound_65 : decode cX0_leastRound 65 = .ok (.ireturn, 1) := by decide +kernel
theorem dX0_leastRound_66 : decode cX0_leastRound 66 = .ok (.iinc 3 1, 3) := by decide +kernel
theorem dX0_leastRound_69 : decode cX0_leastRound 69 = .ok (.goto (-62), 3) := by decide +kernel
theorem dX0_leastRound_72 : decode cX0_leastRound 72 = .ok (.iload_n 1, 1) := by decide +kernel
theorem dX0_leastRound_73 : decode cX0_leastRound 73 = .ok (.ireturn, 1) := by decide +kernel
set_option maxRecDepth 100000 in
set_option maxHeartbeats 4000000 in
theorem M_X0_leastRound (G : zG) (l : Launch) {a1 : Int32} {σ : zS} {r : Int32} (hJ : J_X0_leastRound a1 σ = some r) : zMI G l yX0_leastRound cX0_leastRound 5 (some .int) (zrm 0 0) [.ref (G.1 + 82), .int a1] 137 (zen G σ) r 137 (zen G σ) := by
  unfold J_X0_leastRound at hJ
  refine zentI (by decide +kernel) (Nat.le_of_ble_eq_true rfl) ?_
  intro p e s m args below meth c C hret
  refine zr_sub [0, 1] [(0, .ref (G.1 + 82)), (1, .int a1)] rfl ?_
  refine zr_iload_n C 1 dX0_leastRound_0 rfl ?_
  refine zr_iload_n C 1 dX0_leastRound_1 rfl ?_
  refine zr_ineg C dX0_leastRound_2 ?_
  refine zr_iand C dX0_leastRound_3 ?_
  obtain ⟨v1, hv1, hJ⟩ := zlet_e hJ
  refine zr_topi hv1 ?_
  refine zr_istore_n C [(2, .int v1), (0, .ref (G.1 + 82)), (1, .int a1)] dX0_leastRound_4 (by decide) rfl ?_
  refine zr_iload_n C 0 dX0_leastRound_5 rfl ?_
  refine zr_istore_n C [(3, .int v1), (2, .int v1), (0, .ref (G.1 + 82)), (1, .int a1)] dX0_leastRound_6 (by decide) rfl ?_
  have hl7 : ∀ (n : Nat) (w3_7 : Int32), L_X0_leastRound_7 a1 σ v1 n w3_7 = some r → zU G 5 p l e (zrm 0 0) s m args below meth c (MQ below (va_Qi (fun x (_ : Unit) => x = r) (fun _ t => zok G 137 (zen G σ) t) (zA G)) args s 0 0 (zA G)) σ 7 [(0, .ref (G.1 + 82)), (1, .int a1), (2, .int v1), (3, .int w3_7)] [] := by
    intro n
    induction n with
    | zero =>
      intro w3_7 hJ
      rw [L_X0_leastRound_7] at hJ
      cases hJ
    | succ n ih =>
      intro w3_7 hJ
      rw [L_X0_leastRound_7] at hJ
      obtain ⟨r_7, hr_7, hJ⟩ := zlet_e hJ
      have ih7 : ∀ (w3_7 : Int32), r_7 w3_7 = some r → zU G 5 p l e (zrm 0 0) s m args below meth c (MQ below (va_Qi (fun x (_ : Unit) => x = r) (fun _ t => zok G 137 (zen G σ) t) (zA G)) args s 0 0 (zA G)) σ 7 [(0, .ref (G.1 + 82)), (1, .int a1), (2, .int v1), (3, .int w3_7)] [] := by
        rw [hr_7]
        exact ih
      refine zr_iload_n C 3 dX0_leastRound_7 rfl ?_
      refine zr_iload_n C 1 dX0_leastRound_8 rfl ?_
      refine zr_icmp_ge C 72 dX0_leastRound_9 (by decide) (fun hc2 => ?_) (fun hc2 => ?_)
      · have hJ := zif hc2 hJ
        refine zr_iload_n C 1 dX0_leastRound_72 rfl ?_
        exact zr_iret C hret (zs_e hJ) rfl rfl dX0_leastRound_73
      · have hJ := zif' hc2 hJ
        refine zr_iload_n C 3 dX0_leastRound_12 rfl ?_
        refine zr_iload_n C 1 dX0_leastRound_13 rfl ?_
        refine zr_iconst C dX0_leastRound_14 (v := (-1 : Int32)) (by decide) ?_
        refine zr_ixor C dX0_leastRound_15 ?_
        refine zr_iand C dX0_leastRound_16 ?_
        obtain ⟨v3, hv3, hJ⟩ := zlet_e hJ
        have hf13 : zU G 5 p l e (zrm 0 0) s m args below meth c (MQ below (va_Qi (fun x (_ : Unit) => x = r) (fun _ t => zok G 137 (zen G σ) t) (zA G)) args s 0 0 (zA G)) σ 31 [(0, .ref (G.1 + 82)), (1, .int a1), (2, .int v1), (3, .int w3_7)] [.int v3] := by
          refine zr_istore C [(4, .int v3), (0, .ref (G.1 + 82)), (1, .int a1), (2, .int v1), (3, .int w3_7)] dX0_leastRound_31 (by decide) rfl ?_
          refine zr_iload C 0 dX0_leastRound_33 rfl ?_
          refine zr_if_eq C 66 dX0_leastRound_35 (by decide) (fun hc4 => ?_) (fun hc4 => ?_)
          · have hJ := zif hc4 hJ
            obtain ⟨v5, hv5, hJ⟩ := zlet_e hJ
            refine zr_iinc C v5 4 [(3, .int v5), (4, .int v3), (0, .ref (G.1 + 82)), (1, .int a1), (2, .int v1)] dX0_leastRound_66 rfl (hv5.trans (zinc (by decide))) (by decide) rfl ?_
            refine zr_goto C 7 dX0_leastRound_69 (by decide) ?_
            refine zr_sub [2, 3, 4, 0] [(0, .ref (G.1 + 82)), (1, .int a1), (2, .int v1), (3, .int v5)] rfl ?_
            exact ih7 _ hJ
          · have hJ := zif' hc4 hJ
            refine zr_aload_n C 1 dX0_leastRound_38 rfl ?_
            refine zg_0_4 C 82 zk_82 zm_5_14 dX0_leastRound_39 ?_
            refine zr_iload_n C 4 dX0_leastRound_42 rfl ?_
            obtain ⟨hg6, hJ⟩ := zg_e hJ
            refine zu_zald C 86 zk_86 hg6 dX0_leastRound_43 ?_
            refine zr_if_eq C 66 dX0_leastRound_44 (by decide) (fun hc7 => ?_) (fun hc7 => ?_)
            · have hJ := zif hc7 hJ
              obtain ⟨v8, hv8, hJ⟩ := zlet_e hJ
              refine zr_iinc C v8 4 [(3, .int v8), (4, .int v3), (0, .ref (G.1 + 82)), (1, .int a1), (2, .int v1)] dX0_leastRound_66 rfl (hv8.trans (zinc (by decide))) (by decide) rfl ?_
              refine zr_goto C 7 dX0_leastRound_69 (by decide) ?_
              refine zr_sub [2, 3, 4, 0] [(0, .ref (G.1 + 82)), (1, .int a1), (2, .int v1), (3, .int v8)] rfl ?_
              exact ih7 _ hJ
            · have hJ := zif' hc7 hJ
              refine zr_aload_n C 1 dX0_leastRound_47 rfl ?_
              refine zg_0_5 C 82 zk_82 zm_5_15 dX0_leastRound_48 ?_
              refine zr_iload_n C 2 dX0_leastRound_51 rfl ?_
              refine zr_iload_n C 4 dX0_leastRound_52 rfl ?_
              refine zr_ixor C dX0_leastRound_53 ?_
              obtain ⟨hg9, hJ⟩ := zg_e hJ
              refine zu_iald C 87 zk_87 hg9 dX0_leastRound_54 ?_
              refine zr_aload_n C 1 dX0_leastRound_55 rfl ?_
              refine zg_0_5 C 82 zk_82 zm_5_15 dX0_leastRound_56 ?_
              refine zr_iload_n C 2 dX0_leastRound_59 rfl ?_
              obtain ⟨hg10, hJ⟩ := zg_e hJ
              refine zu_iald C 87 zk_87 hg10 dX0_leastRound_60 ?_
              refine zr_icmp_ge C 66 dX0_leastRound_61 (by decide) (fun hc11 => ?_) (fun hc11 => ?_)
              · have hJ := zif hc11 hJ
                obtain ⟨v12, hv12, hJ⟩ := zlet_e hJ
                refine zr_iinc C v12 4 [(3, .int v12), (4, .int v3), (0, .ref (G.1 + 82)), (1, .int a1), (2, .int v1)] dX0_leastRound_66 rfl (hv12.trans (zinc (by decide))) (by decide) rfl ?_
                refine zr_goto C 7 dX0_leastRound_69 (by decide) ?_
                refine zr_sub [2, 3, 4, 0] [(0, .ref (G.1 + 82)), (1, .int a1), (2, .int v1), (3, .int v12)] rfl ?_
                exact ih7 _ hJ
              · have hJ := zif' hc11 hJ
                refine zr_iload_n C 4 dX0_leastRound_64 rfl ?_
                exact zr_iret C hret (zs_e hJ) rfl rfl dX0_leastRound_65
        refine zr_if_ne C 30 dX0_leastRound_17 (by decide) (fun hc14 => ?_) (fun hc14 => ?_)
        · have hv3 := hv3.trans (if_neg hc14)
          refine zr_iconst C dX0_leastRound_30 (v := (0 : Int32)) (by decide) ?_
          rw [hv3] at hf13
          exact hf13
        · have hv3 := hv3.trans (if_pos hc14)
          refine zr_iload_n C 3 dX0_leastRound_20 rfl ?_
          refine zr_iload_n C 2 dX0_leastRound_21 rfl ?_
          refine zr_iand C dX0_leastRound_22 ?_
          refine zr_if_eq C 30 dX0_leastRound_23 (by decide) (fun hc15 => ?_) (fun hc15 => ?_)
          · have hv3 := hv3.trans (if_pos hc15)
            refine zr_iconst C dX0_leastRound_30 (v := (0 : Int32)) (by decide) ?_
            rw [hv3] at hf13
            exact hf13
          · have hv3 := hv3.trans (if_neg hc15)
            refine zr_iconst C dX0_leastRound_26 (v := (1 : Int32)) (by decide) ?_
            refine zr_goto C 31 dX0_leastRound_27 (by decide) ?_
            rw [hv3] at hf13
            exact hf13
  refine zr_sub [2, 3, 1, 0] [(0, .ref (G.1 + 82)), (1, .int a1), (2, .int v1), (3, .int v1)] rfl ?_
  exact hl7 _ _ hJ
theorem dX0_divide_0 : decode cX0_divide 0 = .ok (.aload_n 0, 1) := by decide +kernel
theorem dX0_divide_1 : decode cX0_divide 1 = .ok (.invokevirtual 65, 3) := by decide +kernel
theorem dX0_divide_4 : decode cX0_divide 4 = .ok (.aload_n 0, 1) := by decide +kernel
theorem dX0_divide_5 : decode cX0_divide 5 = .ok (.getfield 29, 3) := by decide +kernel
theorem dX0_divide_8 : decode cX0_divide 8 = .ok (.iload_n 1, 1) := by decide +kernel
theorem dX0_divide_9 : decode cX0_divide 9 = .ok (.iaload, 1) := by decide +kernel
theorem dX0_divide_10 : decode cX0_divide 10 = .ok (.istore_n 2, 1) := by decide +kernel
theorem dX0_divide_11 : decode cX0_divide 11 = .ok (.iload_n 2, 1) := by decide +kernel
theorem dX0_divide_12 : decode cX0_divide 12 = .ok (.bipush 100, 2) := by decide +kernel
theorem dX0_divide_14 : decode cX0_divide 14 = .ok (.if_icmp .lt 6, 3) := by decide +kernel
theorem dX0_divide_17 : decode cX0_divide 17 = .ok (.bipush (-4), 2) := by decide +kernel
theorem dX0_divide_19 : decode cX0_divide 19 = .ok (.ireturn, 1) := by decide +kernel
theorem dX0_divide_20 : decode cX0_divide 20 = .ok (.iload_n 1, 1) := by decide +kernel
theorem dX0_divide_21 : decode cX0_divide 21 = .ok (.istore_n 3, 1) := by decide +kernel
theorem dX0_divide_22 : decode cX0_divide 22 = .ok (.iconst 0, 1) := by decide +kernel
theorem dX0_divide_23 : decode cX0_divide 23 = .ok (.istore 4, 2) := by decide +kernel
theorem dX0_divide_25 : decode cX0_divide 25 = .ok (.iload 4, 2) := by decide +kernel
theorem dX0_divide_27 : decode cX0_divide 27 = .ok (.iload_n 2, 1) := by decide +kernel
theorem dX0_divide_28 : decode cX0_divide 28 = .ok (.if_icmp .ge 38, 3) := by decide +kernel
theorem dX0_divide_31 : decode cX0_divide 31 = .ok (.iload 4, 2) := by decide +kernel
theorem dX0_divide_33 : decode cX0_divide 33 = .ok (.bipush 8, 2) := by decide +kernel
theorem dX0_divide_35 : decode cX0_divide 35 = .ok (.if_icmp .ge 31, 3) := by decide +kernel
theorem dX0_divide_38 : decode cX0_divide 38 = .ok (.aload_n 0, 1) := by decide +kernel
theorem dX0_divide_39 : decode cX0_divide 39 = .ok (.getfield 22, 3) := by decide +kernel
theorem dX0_divide_42 : decode cX0_divide 42 = .ok (.iload 4, 2) := by decide +kernel
theorem dX0_divide_44 : decode cX0_divide 44 = .ok (.aload_n 0, 1) := by decide +kernel
theorem dX0_divide_45 : decode cX0_divide 45 = .ok (.iload_n 3, 1) := by decide +kernel
theorem dX0_divide_46 : decode cX0_divide 46 = .ok (.invokevirtual 68, 3) := by decide +kernel
theorem dX0_divide_49 : decode cX0_divide 49 = .ok (.iastore, 1) := by decide +kernel
theorem dX0_divide_50 : decode cX0_divide 50 = .ok (.iload_n 3, 1) := by decide +kernel
theorem dX0_divide_51 : decode cX0_divide 51 = .ok (.aload_n 0, 1) := by decide +kernel
theorem dX0_divide_52 : decode cX0_divide 52 = .ok (.getfield 22, 3) := by decide +kernel
theorem dX0_divide_55 : decode cX0_divide 55 = .ok (.iload 4, 2) := by decide +kernel
theorem dX0_divide_57 : decode cX0_divide 57 = .ok (.iaload, 1) := by decide +kernel
theorem dX0_divide_58 : decode cX0_divide 58 = .ok (.ixor, 1) := by decide +kernel
theorem dX0_divide_59 : decode cX0_divide 59 = .ok (.istore_n 3, 1) := by decide +kernel
theorem dX0_divide_60 : decode cX0_divide 60 = .ok (.iinc 4 1, 3) := by decide +kernel
theorem dX0_divide_63 : decode cX0_divide 63 = .ok (.goto (-38), 3) := by decide +kernel
theorem dX0_divide_66 : decode cX0_divide 66 = .ok (.iload_n 2, 1) := by decide +kernel
theorem dX0_divide_67 : decode cX0_divide 67 = .ok (.ireturn, 1) := by decide +kernel
set_option maxRecDepth 100000 in
set_option maxHeartbeats 4000000 in
theorem M_X0_divide (G : zG) (l : Launch) {a1 : Int32} {σ : zS} {r : Int32} {σ' : zS} (hJ : J_X0_divide a1 σ = some (r, σ')) : zMI G l yX0_divide cX0_divide 5 (some .int) (zrm 16 372) [.ref (G.1 + 82), .int a1] 137 (zen G σ) r 137 (zen G σ') := by
  unfold J_X0_divide at hJ
  refine zentI (by decide +kernel) (Nat.le_of_ble_eq_true rfl) ?_
  intro p e s m args below meth c C hret
  refine zr_sub [0, 1] [(0, .ref (G.1 + 82)), (1, .int a1)] rfl ?_
  refine zr_aload_n C 0 dX0_divide_0 rfl ?_
  obtain ⟨σ2, hr1, hJ⟩ := zb_e hJ
  refine zr_callVV C 82 (zk_lt zk_82 (by decide)) (zen_obj zk_82) (rfl : zcl[0]? = some (RX0, TX0, 7)) (M_X0_learn G l hr1) zin_X0_learn zm_32_22 rfl rfl (Nat.le_of_ble_eq_true rfl) ⟨Nat.le_of_ble_eq_true rfl, Nat.le_of_ble_eq_true rfl⟩ ⟨Nat.le_of_ble_eq_true rfl, Nat.le_of_ble_eq_true rfl⟩ dX0_divide_1 ?_
  refine zr_aload_n C 0 dX0_divide_4 rfl ?_
  refine zg_0_5 C 82 zk_82 zm_5_15 dX0_divide_5 ?_
  refine zr_iload_n C 1 dX0_divide_8 rfl ?_
  obtain ⟨hg3, hJ⟩ := zg_e hJ
  refine zu_iald C 87 zk_87 hg3 dX0_divide_9 ?_
  obtain ⟨v4, hv4, hJ⟩ := zlet_e hJ
  refine zr_topi hv4 ?_
  refine zr_istore_n C [(2, .int v4), (0, .ref (G.1 + 82)), (1, .int a1)] dX0_divide_10 (by decide) rfl ?_
  refine zr_iload_n C 0 dX0_divide_11 rfl ?_
  refine zr_bipush C dX0_divide_12 (v := (100 : Int32)) (by decide) ?_
  refine zr_icmp_lt C 20 dX0_divide_14 (by decide) (fun hc5 => ?_) (fun hc5 => ?_)
  · have hJ := zif hc5 hJ
    refine zr_iload_n C 2 dX0_divide_20 rfl ?_
    refine zr_istore_n C [(3, .int a1), (2, .int v4), (0, .ref (G.1 + 82)), (1, .int a1)] dX0_divide_21 (by decide) rfl ?_
    refine zr_iconst C dX0_divide_22 (v := (0 : Int32)) (by decide) ?_
    refine zr_istore C [(4, .int (0 : Int32)), (3, .int a1), (2, .int v4), (0, .ref (G.1 + 82)), (1, .int a1)] dX0_divide_23 (by decide) rfl ?_
    have hl25 : ∀ (n : Nat) (w3_25 : Int32) (w4_25 : Int32) (σ_25 : zS), L_X0_divide_25 v4 n w3_25 w4_25 σ_25 = some (r, σ') → zU G 5 p l e (zrm 16 372) s m args below meth c (MQ below (va_Qi (fun x (_ : Unit) => x = r) (fun _ t => zok G 137 (zen G σ') t) (zA G)) args s 0 0 (zA G)) σ_25 25 [(0, .ref (G.1 + 82)), (2, .int v4), (3, .int w3_25), (4, .int w4_25)] [] := by
      intro n
      induction n with
      | zero =>
        intro w3_25 w4_25 σ_25 hJ
        rw [L_X0_divide_25] at hJ
        cases hJ
      | succ n ih =>
        intro w3_25 w4_25 σ_25 hJ
        rw [L_X0_divide_25] at hJ
        obtain ⟨r_25, hr_25, hJ⟩ := zlet_e hJ
        have ih25 : ∀ (w3_25 : Int32) (w4_25 : Int32) (σ_25 : zS), r_25 w3_25 w4_25 σ_25 = some (r, σ') → zU G 5 p l e (zrm 16 372) s m args below meth c (MQ below (va_Qi (fun x (_ : Unit) => x = r) (fun _ t => zok G 137 (zen G σ') t) (zA G)) args s 0 0 (zA G)) σ_25 25 [(0, .ref (G.1 + 82)), (2, .int v4), (3, .int w3_25), (4, .int w4_25)] [] := by
          rw [hr_25]
          exact ih
        refine zr_iload C 3 dX0_divide_25 rfl ?_
        refine zr_iload_n C 1 dX0_divide_27 rfl ?_
        refine zr_icmp_ge C 66 dX0_divide_28 (by decide) (fun hc6 => ?_) (fun hc6 => ?_)
        · have hJ := zif hc6 hJ
          refine zr_iload_n C 1 dX0_divide_66 rfl ?_
          exact zr_iret C hret (Prod.mk.inj (zs_e hJ)).1 rfl (congrArg (zen G) (Prod.mk.inj (zs_e hJ)).2) dX0_divide_67
        · have hJ := zif' hc6 hJ
          refine zr_iload C 3 dX0_divide_31 rfl ?_
          refine zr_bipush C dX0_divide_33 (v := (8 : Int32)) (by decide) ?_
          refine zr_icmp_ge C 66 dX0_divide_35 (by decide) (fun hc7 => ?_) (fun hc7 => ?_)
          · have hJ := zif hc7 hJ
            refine zr_iload_n C 1 dX0_divide_66 rfl ?_
            exact zr_iret C hret (Prod.mk.inj (zs_e hJ)).1 rfl (congrArg (zen G) (Prod.mk.inj (zs_e hJ)).2) dX0_divide_67
          · have hJ := zif' hc7 hJ
            refine zr_aload_n C 0 dX0_divide_38 rfl ?_
            refine zg_0_3 C 82 zk_82 zm_5_12 dX0_divide_39 ?_
            refine zr_iload C 3 dX0_divide_42 rfl ?_
            refine zr_aload_n C 0 dX0_divide_44 rfl ?_
            refine zr_iload_n C 2 dX0_divide_45 rfl ?_
            obtain ⟨r8, hr8, hJ⟩ := zb_e hJ
            refine zr_callVI C 82 (zk_lt zk_82 (by decide)) (zen_obj zk_82) (rfl : zcl[0]? = some (RX0, TX0, 7)) (M_X0_leastRound G l hr8) zin_X0_leastRound zm_33_9 rfl rfl (Nat.le_of_ble_eq_true rfl) ⟨Nat.le_of_ble_eq_true rfl, Nat.le_of_ble_eq_true rfl⟩ ⟨Nat.le_of_ble_eq_true rfl, Nat.le_of_ble_eq_true rfl⟩ dX0_divide_46 ?_
            obtain ⟨hg9, hJ⟩ := zg_e hJ
            obtain ⟨σ10, hσ10, hJ⟩ := zlet_e hJ
            refine zv_iast C 85 zk_85 hg9 hσ10 dX0_divide_49 ?_
            refine zr_iload_n C 2 dX0_divide_50 rfl ?_
            refine zr_aload_n C 0 dX0_divide_51 rfl ?_
            refine zg_0_3 C 82 zk_82 zm_5_12 dX0_divide_52 ?_
            refine zr_iload C 3 dX0_divide_55 rfl ?_
            obtain ⟨hg11, hJ⟩ := zg_e hJ
            refine zu_iald C 85 zk_85 hg11 dX0_divide_57 ?_
            refine zr_ixor C dX0_divide_58 ?_
            obtain ⟨v12, hv12, hJ⟩ := zlet_e hJ
            refine zr_topi hv12 ?_
            refine zr_istore_n C [(3, .int v12), (0, .ref (G.1 + 82)), (2, .int v4), (4, .int w4_25)] dX0_divide_59 (by decide) rfl ?_
            obtain ⟨v13, hv13, hJ⟩ := zlet_e hJ
            refine zr_iinc C v13 3 [(4, .int v13), (3, .int v12), (0, .ref (G.1 + 82)), (2, .int v4)] dX0_divide_60 rfl (hv13.trans (zinc (by decide))) (by decide) rfl ?_
            refine zr_goto C 25 dX0_divide_63 (by decide) ?_
            refine zr_sub [2, 3, 1, 0] [(0, .ref (G.1 + 82)), (2, .int v4), (3, .int v12), (4, .int v13)] rfl ?_
            exact ih25 _ _ _ hJ
    refine zr_sub [3, 2, 1, 0] [(0, .ref (G.1 + 82)), (2, .int v4), (3, .int a1), (4, .int (0 : Int32))] rfl ?_
    exact hl25 _ _ _ _ hJ
  · have hJ := zif' hc5 hJ
    refine zr_bipush C dX0_divide_17 (v := (-4 : Int32)) (by decide) ?_
    exact zr_iret C hret (Prod.mk.inj (zs_e hJ)).1 rfl (congrArg (zen G) (Prod.mk.inj (zs_e hJ)).2) dX0_divide_19
theorem dX0_greatest_0 : decode cX0_greatest 0 = .ok (.iconst 1, 1) := by decide +kernel
theorem dX0_greatest_1 : decode cX0_greatest 1 = .ok (.aload_n 0, 1) := by decide +kernel
theorem dX0_greatest_2 : decode cX0_greatest 2 = .ok (.getfield 19, 3) := by decide +kernel
theorem dX0_greatest_5 : decode cX0_greatest 5 = .ok (.iload_n 1, 1) := by decide +kernel
theorem dX0_greatest_6 : decode cX0_greatest 6 = .ok (.iaload, 1) := by decide +kernel
theorem dX0_greatest_7 : decode cX0_greatest 7 = .ok (.ishl, 1) := by decide +kernel
theorem dX0_greatest_8 : decode cX0_greatest 8 = .ok (.iconst 1, 1) := by decide +kernel
theorem dX0_greatest_9 : decode cX0_greatest 9 = .ok (.isub, 1) := by decide +kernel
theorem dX0_greatest_10 : decode cX0_greatest 10 = .ok (.ireturn, 1) := by decide +kernel
set_option maxRecDepth 100000 in
set_option maxHeartbeats 4000000 in
theorem M_X0_greatest (G : zG) (l : Launch) {a1 : Int32} {σ : zS} {r : Int32} (hJ : J_X0_greatest a1 σ = some r) : zMI G l yX0_greatest cX0_greatest 2 (some .int) (zrm 0 0) [.ref (G.1 + 82), .int a1] 137 (zen G σ) r 137 (zen G σ) := by
  unfold J_X0_greatest at hJ
  refine zentI (by decide +kernel) (Nat.le_of_ble_eq_true rfl) ?_
  intro p e s m args below meth c C hret
  refine zr_sub [0, 1] [(0, .ref (G.1 + 82)), (1, .int a1)] rfl ?_
  refine zr_iconst C dX0_greatest_0 (v := (1 : Int32)) (by decide) ?_
  refine zr_aload_n C 0 dX0_greatest_1 rfl ?_
  refine zg_0_2 C 82 zk_82 zm_5_11 dX0_greatest_2 ?_
  refine zr_iload_n C 1 dX0_greatest_5 rfl ?_
  obtain ⟨hg1, hJ⟩ := zg_e hJ
  refine zu_iald C 84 zk_84 hg1 dX0_greatest_6 ?_
  refine zr_ishl C dX0_greatest_7 ?_
  refine zr_iconst C dX0_greatest_8 (v := (1 : Int32)) (by decide) ?_
  refine zr_isub C dX0_greatest_9 ?_
  exact zr_iret C hret (zs_e hJ) rfl rfl dX0_greatest_10
theorem dX0_roundOf_0 : decode cX0_roundOf 0 = .ok (.iconst 0, 1) := by decide +kernel
theorem dX0_roundOf_1 : decode cX0_roundOf 1 = .ok (.istore_n 3, 1) := by decide +kernel
theorem dX0_roundOf_2 : decode cX0_roundOf 2 = .ok (.iload_n 3, 1) := by decide +kernel
theorem dX0_roundOf_3 : decode cX0_roundOf 3 = .ok (.iload_n 2, 1) := by decide +kernel
theorem dX0_roundOf_4 : decode cX0_roundOf 4 = .ok (.if_icmp .ge 30, 3) := by decide +kernel
theorem dX0_roundOf_7 : decode cX0_roundOf 7 = .ok (.iload_n 3, 1) := by decide +kernel
theorem dX0_roundOf_8 : decode cX0_roundOf 8 = .ok (.bipush 8, 2) := by decide +kernel
theorem dX0_roundOf_10 : decode cX0_roundOf 10 = .ok (.if_icmp .ge 24, 3) := by decide +kernel
theorem dX0_roundOf_13 : decode cX0_roundOf 13 = .ok (.iload_n 1, 1) := by decide +kernel
theorem dX0_roundOf_14 : decode cX0_roundOf 14 = .ok (.aload_n 0, 1) := by decide +kernel
theorem dX0_roundOf_15 : decode cX0_roundOf 15 = .ok (.getfield 22, 3) := by decide +kernel
theorem dX0_roundOf_18 : decode cX0_roundOf 18 = .ok (.iload_n 3, 1) := by decide +kernel
theorem dX0_roundOf_19 : decode cX0_roundOf 19 = .ok (.iaload, 1) := by decide +kernel
theorem dX0_roundOf_20 : decode cX0_roundOf 20 = .ok (.invokestatic 40, 3) := by decide +kernel
theorem dX0_roundOf_23 : decode cX0_roundOf 23 = .ok (.ifCond .eq 5, 3) := by decide +kernel
theorem dX0_roundOf_26 : decode cX0_roundOf 26 = .ok (.iload_n 3, 1) := by decide +kernel
theorem dX0_roundOf_27 : decode cX0_roundOf 27 = .ok (.ireturn, 1) := by decide +kernel
theorem dX0_roundOf_28 : decode cX0_roundOf 28 = .ok (.iinc 3 1, 3) := by decide +kernel
theorem dX0_roundOf_31 : decode cX0_roundOf 31 = .ok (.goto (-29), 3) := by decide +kernel
theorem dX0_roundOf_34 : decode cX0_roundOf 34 = .ok (.iconst 0, 1) := by decide +kernel
theorem dX0_roundOf_35 : decode cX0_roundOf 35 = .ok (.ireturn, 1) := by decide +kernel
set_option maxRecDepth 100000 in
set_option maxHeartbeats 4000000 in
theorem M_X0_roundOf (G : zG) (l : Launch) {a1 : Int32} {a2 : Int32} {σ : zS} {r : Int32} (hJ : J_X0_roundOf a1 a2 σ = some r) : zMI G l yX0_roundOf cX0_roundOf 4 (some .int) (zrm 2 41) [.ref (G.1 + 82), .int a1, .int a2] 137 (zen G σ) r 137 (zen G σ) := by
  unfold J_X0_roundOf at hJ
  refine zentI (by decide +kernel) (Nat.le_of_ble_eq_true rfl) ?_
  intro p e s m args below meth c C hret
  refine zr_sub [0, 1, 2] [(0, .ref (G.1 + 82)), (1, .int a1), (2, .int a2)] rfl ?_
  refine zr_iconst C dX0_roundOf_0 (v := (0 : Int32)) (by decide) ?_
  refine zr_istore_n C [(3, .int (0 : Int32)), (0, .ref (G.1 + 82)), (1, .int a1), (2, .int a2)] dX0_roundOf_1 (by decide) rfl ?_
  have hl2 : ∀ (n : Nat) (w3_2 : Int32), L_X0_roundOf_2 a1 a2 σ n w3_2 = some r → zU G 4 p l e (zrm 2 41) s m args below meth c (MQ below (va_Qi (fun x (_ : Unit) => x = r) (fun _ t => zok G 137 (zen G σ) t) (zA G)) args s 0 0 (zA G)) σ 2 [(0, .ref (G.1 + 82)), (1, .int a1), (2, .int a2), (3, .int w3_2)] [] := by
    intro n
    induction n with
    | zero =>
      intro w3_2 hJ
      rw [L_X0_roundOf_2] at hJ
      cases hJ
    | succ n ih =>
      intro w3_2 hJ
      rw [L_X0_roundOf_2] at hJ
      obtain ⟨r_2, hr_2, hJ⟩ := zlet_e hJ
      have ih2 : ∀ (w3_2 : Int32), r_2 w3_2 = some r → zU G 4 p l e (zrm 2 41) s m args below meth c (MQ below (va_Qi (fun x (_ : Unit) => x = r) (fun _ t => zok G 137 (zen G σ) t) (zA G)) args s 0 0 (zA G)) σ 2 [(0, .ref (G.1 + 82)), (1, .int a1), (2, .int a2), (3, .int w3_2)] [] := by
        rw [hr_2]
        exact ih
      refine zr_iload_n C 3 dX0_roundOf_2 rfl ?_
      refine zr_iload_n C 2 dX0_roundOf_3 rfl ?_
      refine zr_icmp_ge C 34 dX0_roundOf_4 (by decide) (fun hc1 => ?_) (fun hc1 => ?_)
      · have hJ := zif hc1 hJ
        refine zr_iconst C dX0_roundOf_34 (v := (0 : Int32)) (by decide) ?_
        exact zr_iret C hret (zs_e hJ) rfl rfl dX0_roundOf_35
      · have hJ := zif' hc1 hJ
        refine zr_iload_n C 3 dX0_roundOf_7 rfl ?_
        refine zr_bipush C dX0_roundOf_8 (v := (8 : Int32)) (by decide) ?_
        refine zr_icmp_ge C 34 dX0_roundOf_10 (by decide) (fun hc2 => ?_) (fun hc2 => ?_)
        · have hJ := zif hc2 hJ
          refine zr_iconst C dX0_roundOf_34 (v := (0 : Int32)) (by decide) ?_
          exact zr_iret C hret (zs_e hJ) rfl rfl dX0_roundOf_35
        · have hJ := zif' hc2 hJ
          refine zr_iload_n C 1 dX0_roundOf_13 rfl ?_
          refine zr_aload_n C 0 dX0_roundOf_14 rfl ?_
          refine zg_0_3 C 82 zk_82 zm_5_12 dX0_roundOf_15 ?_
          refine zr_iload_n C 3 dX0_roundOf_18 rfl ?_
          obtain ⟨hg3, hJ⟩ := zg_e hJ
          refine zu_iald C 85 zk_85 hg3 dX0_roundOf_19 ?_
          obtain ⟨r4, hr4, hJ⟩ := zb_e hJ
          refine zr_callnSI C (M_X10_isOneOf G l hr4) zin_X10_isOneOf zne_X0_40 rfl rfl (Nat.le_of_ble_eq_true rfl) ⟨Nat.le_of_ble_eq_true rfl, Nat.le_of_ble_eq_true rfl⟩ ⟨Nat.le_of_ble_eq_true rfl, Nat.le_of_ble_eq_true rfl⟩ dX0_roundOf_20 ?_
          refine zr_if_eq C 28 dX0_roundOf_23 (by decide) (fun hc5 => ?_) (fun hc5 => ?_)
          · have hJ := zif hc5 hJ
            obtain ⟨v6, hv6, hJ⟩ := zlet_e hJ
            refine zr_iinc C v6 3 [(3, .int v6), (0, .ref (G.1 + 82)), (1, .int a1), (2, .int a2)] dX0_roundOf_28 rfl (hv6.trans (zinc (by decide))) (by decide) rfl ?_
            refine zr_goto C 2 dX0_roundOf_31 (by decide) ?_
            refine zr_sub [1, 2, 3, 0] [(0, .ref (G.1 + 82)), (1, .int a1), (2, .int a2), (3, .int v6)] rfl ?_
            exact ih2 _ hJ
          · have hJ := zif' hc5 hJ
            refine zr_iload_n C 3 dX0_roundOf_26 rfl ?_
            exact zr_iret C hret (zs_e hJ) rfl rfl dX0_roundOf_27
  refine zr_sub [1, 2, 3, 0] [(0, .ref (G.1 + 82)), (1, .int a1), (2, .int a2), (3, .int (0 : Int32))] rfl ?_
  exact hl2 _ _ hJ
theorem dX10_areSamples_0 : decode cX10_areSamples 0 = .ok (.iload_n 0, 1) := by decide +kernel
theorem dX10_areSamples_1 : decode cX10_areSamples 1 = .ok (.invokestatic 120, 3) := by decide +kernel
theorem dX10_areSamples_4 : decode cX10_areSamples 4 = .ok (.ifCond .eq 38, 3) := by decide +kernel
theorem dX10_areSamples_7 : decode cX10_areSamples 7 = .ok (.iload_n 1, 1) := by decide +kernel
theorem dX10_areSamples_8 : decode cX10_areSamples 8 = .ok (.iconst 1, 1) := by decide +kernel
theorem dX10_areSamples_9 : decode cX10_areSamples 9 = .ok (.if_icmp .lt 33, 3) := by decide +kernel
theorem dX10_areSamples_12 : decode cX10_areSamples 12 = .ok (.iload_n 1, 1) := by decide +kernel
theorem dX10_areSamples_13 : decode cX10_areSamples 13 = .ok (.sipush 9999, 3) := by decide +kernel
theorem dX10_areSamples_16 : decode cX10_areSamples 16 = .ok (.if_icmp .gt 26, 3) := by decide +kernel
theorem dX10_areSamples_19 : decode cX10_areSamples 19 = .ok (.iload_n 2, 1) := by decide +kernel
theorem dX10_areSamples_20 : decode cX10_areSamples 20 = .ok (.ifCond .lt 22, 3) := by decide +kernel
theorem dX10_areSamples_23 : decode cX10_areSamples 23 = .ok (.iload_n 2, 1) := by decide +kernel
theorem dX10_areSamples_24 : decode cX10_areSamples 24 = .ok (.iload_n 1, 1) := by decide +kernel
theorem dX10_areSamples_25 : decode cX10_areSamples 25 = .ok (.if_icmp .ge 17, 3) := by decide +kernel
theorem dX10_areSamples_28 : decode cX10_areSamples 28 = .ok (.iload_n 3, 1) := by decide +kernel
theorem dX10_areSamples_29 : decode cX10_areSamples 29 = .ok (.ifCond .lt 13, 3) := by decide +kernel
theorem dX10_areSamples_32 : decode cX10_areSamples 32 = .ok (.iload_n 3, 1) := by decide +kernel
theorem dX10_areSamples_33 : decode cX10_areSamples 33 = .ok (.bipush 9, 2) := by decide +kernel
theorem dX10_areSamples_35 : decode cX10_areSamples 35 = .ok (.if_icmp .gt 7, 3) := by decide +kernel
theorem dX10_areSamples_38 : decode cX10_areSamples 38 = .ok (.iconst 1, 1) := by decide +kernel
theorem dX10_areSamples_39 : decode cX10_areSamples 39 = .ok (.goto 4, 3) := by decide +kernel
theorem dX10_areSamples_42 : decode cX10_areSamples 42 = .ok (.iconst 0, 1) := by decide +kernel
theorem dX10_areSamples_43 : decode cX10_areSamples 43 = .ok (.ireturn, 1) := by decide +kernel
set_option maxRecDepth 100000 in
set_option maxHeartbeats 4000000 in
theorem M_X10_areSamples (G : zG) (l : Launch) {a0 : Int32} {a1 : Int32} {a2 : Int32} {a3 : Int32} {σ : zS} {r : Int32} (hJ : J_X10_areSamples a0 a1 a2 a3 σ = some r) : zMI G l yX10_areSamples cX10_areSamples 4 (some .boolean) (zrm 1 20) [.int a0, .int a1, .int a2, .int a3] 137 (zen G σ) r 137 (zen G σ) := by
  unfold J_X10_areSamples at hJ
  refine zentI (by decide +kernel) (Nat.le_of_ble_eq_true rfl) ?_
  intro p e s m args below meth c C hret
  refine zr_sub [0, 1, 2, 3] [(0, .int a0), (1, .int a1), (2, .int a2), (3, .int a3)] rfl ?_
  refine zr_iload_n C 0 dX10_areSamples_0 rfl ?_
  obtain ⟨r1, hr1, hJ⟩ := zb_e hJ
  refine zr_callSI C (M_X10_isEvent G l hr1) zin_X10_isEvent zm_14_23 rfl rfl (Nat.le_of_ble_eq_true rfl) ⟨Nat.le_of_ble_eq_true rfl, Nat.le_of_ble_eq_true rfl⟩ ⟨Nat.le_of_ble_eq_true rfl, Nat.le_of_ble_eq_true rfl⟩ dX10_areSamples_1 ?_
  refine zr_if_eq C 42 dX10_areSamples_4 (by decide) (fun hc2 => ?_) (fun hc2 => ?_)
  · have hJ := zif hc2 hJ
    refine zr_iconst C dX10_areSamples_42 (v := (0 : Int32)) (by decide) ?_
    exact zr_zret C hret (zs_e hJ) rfl rfl rfl dX10_areSamples_43
  · have hJ := zif' hc2 hJ
    refine zr_iload_n C 1 dX10_areSamples_7 rfl ?_
    refine zr_iconst C dX10_areSamples_8 (v := (1 : Int32)) (by decide) ?_
    refine zr_icmp_lt C 42 dX10_areSamples_9 (by decide) (fun hc3 => ?_) (fun hc3 => ?_)
    · have hJ := zif hc3 hJ
      refine zr_iconst C dX10_areSamples_42 (v := (0 : Int32)) (by decide) ?_
      exact zr_zret C hret (zs_e hJ) rfl rfl rfl dX10_areSamples_43
    · have hJ := zif' hc3 hJ
      refine zr_iload_n C 1 dX10_areSamples_12 rfl ?_
      refine zr_sipush C dX10_areSamples_13 (v := (9999 : Int32)) (by decide) ?_
      refine zr_icmp_gt C 42 dX10_areSamples_16 (by decide) (fun hc4 => ?_) (fun hc4 => ?_)
      · have hJ := zif hc4 hJ
        refine zr_iconst C dX10_areSamples_42 (v := (0 : Int32)) (by decide) ?_
        exact zr_zret C hret (zs_e hJ) rfl rfl rfl dX10_areSamples_43
      · have hJ := zif' hc4 hJ
        refine zr_iload_n C 2 dX10_areSamples_19 rfl ?_
        refine zr_if_lt C 42 dX10_areSamples_20 (by decide) (fun hc5 => ?_) (fun hc5 => ?_)
        · have hJ := zif hc5 hJ
          refine zr_iconst C dX10_areSamples_42 (v := (0 : Int32)) (by decide) ?_
          exact zr_zret C hret (zs_e hJ) rfl rfl rfl dX10_areSamples_43
        · have hJ := zif' hc5 hJ
          refine zr_iload_n C 2 dX10_areSamples_23 rfl ?_
          refine zr_iload_n C 1 dX10_areSamples_24 rfl ?_
          refine zr_icmp_ge C 42 dX10_areSamples_25 (by decide) (fun hc6 => ?_) (fun hc6 => ?_)
          · have hJ := zif hc6 hJ
            refine zr_iconst C dX10_areSamples_42 (v := (0 : Int32)) (by decide) ?_
            exact zr_zret C hret (zs_e hJ) rfl rfl rfl dX10_areSamples_43
          · have hJ := zif' hc6 hJ
            refine zr_iload_n C 3 dX10_areSamples_28 rfl ?_
            refine zr_if_lt C 42 dX10_areSamples_29 (by decide) (fun hc7 => ?_) (fun hc7 => ?_)
            · have hJ := zif hc7 hJ
              refine zr_iconst C dX10_areSamples_42 (v := (0 : Int32)) (by decide) ?_
              exact zr_zret C hret (zs_e hJ) rfl rfl rfl dX10_areSamples_43
            · have hJ := zif' hc7 hJ
              refine zr_iload_n C 3 dX10_areSamples_32 rfl ?_
              refine zr_bipush C dX10_areSamples_33 (v := (9 : Int32)) (by decide) ?_
              refine zr_icmp_gt C 42 dX10_areSamples_35 (by decide) (fun hc8 => ?_) (fun hc8 => ?_)
              · have hJ := zif hc8 hJ
                refine zr_iconst C dX10_areSamples_42 (v := (0 : Int32)) (by decide) ?_
                exact zr_zret C hret (zs_e hJ) rfl rfl rfl dX10_areSamples_43
              · have hJ := zif' hc8 hJ
                refine zr_iconst C dX10_areSamples_38 (v := (1 : Int32)) (by decide) ?_
                refine zr_goto C 43 dX10_areSamples_39 (by decide) ?_
                exact zr_zret C hret (zs_e hJ) rfl rfl rfl dX10_areSamples_43
theorem dX10_commonDivisor_0 : decode cX10_commonDivisor 0 = .ok (.lload_n 0, 1) := by decide +kernel
theorem dX10_commonDivisor_1 : decode cX10_commonDivisor 1 = .ok (.lstore 4, 2) := by decide +kernel
theorem dX10_commonDivisor_3 : decode cX10_commonDivisor 3 = .ok (.lload_n 2, 1) := by decide +kernel
theorem dX10_commonDivisor_4 : decode cX10_commonDivisor 4 = .ok (.lstore 6, 2) := by decide +kernel
theorem dX10_commonDivisor_6 : decode cX10_commonDivisor 6 = .ok (.iconst 0, 1) := by decide +kernel
theorem dX10_commonDivisor_7 : decode cX10_commonDivisor 7 = .ok (.istore 8, 2) := by decide +kernel
theorem dX10_commonDivisor_9 : decode cX10_commonDivisor 9 = .ok (.iload 8, 2) := by decide +kernel
theorem dX10_commonDivisor_11 : decode cX10_commonDivisor 11 = .ok (.sipush 200, 3) := by decide +kernel
theorem dX10_commonDivisor_14 : decode cX10_commonDivisor 14 = .ok (.if_icmp .ge 31, 3) := by decide +kernel
theorem dX10_commonDivisor_17 : decode cX10_commonDivisor 17 = .ok (.lload 6, 2) := by decide +kernel
theorem dX10_commonDivisor_19 : decode cX10_commonDivisor 19 = .ok (.lconst 0, 1) := by decide +kernel
theorem dX10_commonDivisor_20 : decode cX10_commonDivisor 20 = .ok (.lcmp, 1) := by decide +kernel
theorem dX10_commonDivisor_21 : decode cX10_commonDivisor 21 = .ok (.ifCond .eq 24, 3) := by decide +kernel
theorem dX10_commonDivisor_24 : decode cX10_commonDivisor 24 = .ok (.lload 4, 2) := by decide +kernel
theorem dX10_commonDivisor_26 : decode cX10_commonDivisor 26 = .ok (.lload 6, 2) := by decide +kernel
theorem dX10_commonDivisor_28 : decode cX10_commonDivisor 28 = .ok (.lrem, 1) := by decide +kernel
theorem dX10_commonDivisor_29 : decode cX10_commonDivisor 29 = .ok (.lstore 9, 2) := by decide +kernel
theorem dX10_commonDivisor_31 : decode cX10_commonDivisor 31 = .ok (.lload 6, 2) := by decide +kernel
theorem dX10_commonDivisor_33 : decode cX10_commonDivisor 33 = .ok (.lstore 4, 2) := by decide +kernel
theorem dX10_commonDivisor_35 : decode cX10_commonDivisor 35 = .ok (.lload 9, 2) := by decide +kernel
theorem dX10_commonDivisor_37 : decode cX10_commonDivisor 37 = .ok (.lstore 6, 2) := by decide +kernel
theorem dX10_commonDivisor_39 : decode cX10_commonDivisor 39 = .ok (.iinc 8 1, 3) := by decide +kernel
theorem dX10_commonDivisor_42 : decode cX10_commonDivisor 42 = .ok (.goto (-33), 3) := by decide +kernel
theorem dX10_commonDivisor_45 : decode cX10_commonDivisor 45 = .ok (.lload 4, 2) := by decide +kernel
theorem dX10_commonDivisor_47 : decode cX10_commonDivisor 47 = .ok (.lreturn, 1) := by decide +kernel
set_option maxRecDepth 100000 in
set_option maxHeartbeats 4000000 in
theorem M_X10_commonDivisor (G : zG) (l : Launch) {a0 : Int64} {a2 : Int64} {σ : zS} {r : Int64} (hJ : J_X10_commonDivisor a0 a2 σ = some r) : zML G l yX10_commonDivisor cX10_commonDivisor 11 (some .long) (zrm 0 0) [.long a0, .long a2] 137 (zen G σ) r 137 (zen G σ) := by
  unfold J_X10_commonDivisor at hJ
  refine zentL (by decide +kernel) (Nat.le_of_ble_eq_true rfl) ?_
  intro p e s m args below meth c C hret
  refine zr_sub [0, 1] [(0, .long a0), (2, .long a2)] rfl ?_
  refine zr_lload_n C 0 dX10_commonDivisor_0 rfl ?_
  refine zr_lstore C [(4, .long a0), (0, .long a0), (2, .long a2)] dX10_commonDivisor_1 (by decide) rfl ?_
  refine zr_lload_n C 2 dX10_commonDivisor_3 rfl ?_
  refine zr_lstore C [(6, .long a2), (4, .long a0), (0, .long a0), (2, .long a2)] dX10_commonDivisor_4 (by decide) rfl ?_
  refine zr_iconst C dX10_commonDivisor_6 (v := (0 : Int32)) (by decide) ?_
  refine zr_istore C [(8, .int (0 : Int32)), (6, .long a2), (4, .long a0), (0, .long a0), (2, .long a2)] dX10_commonDivisor_7 (by decide) rfl ?_
  have hl9 : ∀ (n : Nat) (w4_9 : Int64) (w6_9 : Int64) (w8_9 : Int32), L_X10_commonDivisor_9 n w4_9 w6_9 w8_9 = some r → zU G 11 p l e (zrm 0 0) s m args below meth c (MQ below (va_Ql (fun x (_ : Unit) => x = r) (fun _ t => zok G 137 (zen G σ) t) (zA G)) args s 0 0 (zA G)) σ 9 [(4, .long w4_9), (6, .long w6_9), (8, .int w8_9)] [] := by
    intro n
    induction n with
    | zero =>
      intro w4_9 w6_9 w8_9 hJ
      rw [L_X10_commonDivisor_9] at hJ
      cases hJ
    | succ n ih =>
      intro w4_9 w6_9 w8_9 hJ
      rw [L_X10_commonDivisor_9] at hJ
      obtain ⟨r_9, hr_9, hJ⟩ := zlet_e hJ
      have ih9 : ∀ (w4_9 : Int64) (w6_9 : Int64) (w8_9 : Int32), r_9 w4_9 w6_9 w8_9 = some r → zU G 11 p l e (zrm 0 0) s m args below meth c (MQ below (va_Ql (fun x (_ : Unit) => x = r) (fun _ t => zok G 137 (zen G σ) t) (zA G)) args s 0 0 (zA G)) σ 9 [(4, .long w4_9), (6, .long w6_9), (8, .int w8_9)] [] := by
        rw [hr_9]
        exact ih
      refine zr_iload C 2 dX10_commonDivisor_9 rfl ?_
      refine zr_sipush C dX10_commonDivisor_11 (v := (200 : Int32)) (by decide) ?_
      refine zr_icmp_ge C 45 dX10_commonDivisor_14 (by decide) (fun hc1 => ?_) (fun hc1 => ?_)
      · have hJ := zif hc1 hJ
        refine zr_lload C 0 dX10_commonDivisor_45 rfl ?_
        exact zr_lret C hret (zs_e hJ) rfl rfl dX10_commonDivisor_47
      · have hJ := zif' hc1 hJ
        refine zr_lload C 1 dX10_commonDivisor_17 rfl ?_
        refine zr_lconst C dX10_commonDivisor_19 (v := (0 : Int64)) (by decide) ?_
        refine zr_lcmp C dX10_commonDivisor_20 ?_
        refine zr_if_eq C 45 dX10_commonDivisor_21 (by decide) (fun hc2 => ?_) (fun hc2 => ?_)
        · have hJ := zif hc2 hJ
          refine zr_lload C 0 dX10_commonDivisor_45 rfl ?_
          exact zr_lret C hret (zs_e hJ) rfl rfl dX10_commonDivisor_47
        · have hJ := zif' hc2 hJ
          refine zr_lload C 0 dX10_commonDivisor_24 rfl ?_
          refine zr_lload C 1 dX10_commonDivisor_26 rfl ?_
          obtain ⟨hn3, hJ⟩ := znl_e hJ
          refine zr_lrem C dX10_commonDivisor_28 hn3 ?_
          obtain ⟨v4, hv4, hJ⟩ := zlet_e hJ
          refine zr_topl hv4 ?_
          refine zr_lstore C [(9, .long v4), (4, .long w4_9), (6, .long w6_9), (8, .int w8_9)] dX10_commonDivisor_29 (by decide) rfl ?_
          refine zr_lload C 2 dX10_commonDivisor_31 rfl ?_
          refine zr_lstore C [(4, .long w6_9), (9, .long v4), (6, .long w6_9), (8, .int w8_9)] dX10_commonDivisor_33 (by decide) rfl ?_
          refine zr_lload C 1 dX10_commonDivisor_35 rfl ?_
          refine zr_lstore C [(6, .long v4), (4, .long w6_9), (9, .long v4), (8, .int w8_9)] dX10_commonDivisor_37 (by decide) rfl ?_
          obtain ⟨v5, hv5, hJ⟩ := zlet_e hJ
          refine zr_iinc C v5 3 [(8, .int v5), (6, .long v4), (4, .long w6_9), (9, .long v4)] dX10_commonDivisor_39 rfl (hv5.trans (zinc (by decide))) (by decide) rfl ?_
          refine zr_goto C 9 dX10_commonDivisor_42 (by decide) ?_
          refine zr_sub [2, 1, 0] [(4, .long w6_9), (6, .long v4), (8, .int v5)] rfl ?_
          exact ih9 _ _ _ hJ
  refine zr_sub [2, 1, 0] [(4, .long a0), (6, .long a2), (8, .int (0 : Int32))] rfl ?_
  exact hl9 _ _ _ _ hJ
theorem dX3_linesThatMake_0 : decode cX3_linesThatMake 0 = .ok (.iconst 0, 1) := by decide +kernel
theorem dX3_linesThatMake_1 : decode cX3_linesThatMake 1 = .ok (.istore_n 2, 1) := by decide +kernel
theorem dX3_linesThatMake_2 : decode cX3_linesThatMake 2 = .ok (.iconst 0, 1) := by decide +kernel
theorem dX3_linesThatMake_3 : decode cX3_linesThatMake 3 = .ok (.istore_n 3, 1) := by decide +kernel
theorem dX3_linesThatMake_4 : decode cX3_linesThatMake 4 = .ok (.iload_n 3, 1) := by decide +kernel
theorem dX3_linesThatMake_5 : decode cX3_linesThatMake 5 = .ok (.aload_n 0, 1) := by decide +kernel
theorem dX3_linesThatMake_6 : decode cX3_linesThatMake 6 = .ok (.getfield 9, 3) := by decide +kernel
theorem dX3_linesThatMake_9 : decode cX3_linesThatMake 9 = .ok (.if_icmp .ge 26, 3) := by decide +kernel
theorem dX3_linesThatMake_12 : decode cX3_linesThatMake 12 = .ok (.aload_n 0, 1) := by decide +kernel
theorem dX3_linesThatMake_13 : decode cX3_linesThatMake 13 = .ok (.getfield 27, 3) := by decide +kernel
theorem dX3_linesThatMake_16 : decode cX3_linesThatMake 16 = .ok (.iload_n 3, 1) := by decide +kernel
theorem dX3_linesThatMake_17 : decode cX3_linesThatMake 17 = .ok (.aaload, 1) := by decide +kernel
theorem dX3_linesThatMake_18 : decode cX3_linesThatMake 18 = .ok (.iload_n 1, 1) := by decide +kernel
theorem dX3_linesThatMake_19 : decode cX3_linesThatMake 19 = .ok (.iaload, 1) := by decide +kernel
theorem dX3_linesThatMake_20 : decode cX3_linesThatMake 20 = .ok (.ifCond .le 9, 3) := by decide +kernel
theorem dX3_linesThatMake_23 : decode cX3_linesThatMake 23 = .ok (.iload_n 2, 1) := by decide +kernel
theorem dX3_linesThatMake_24 : decode cX3_linesThatMake 24 = .ok (.iconst 1, 1) := by decide +kernel
theorem dX3_linesThatMake_25 : decode cX3_linesThatMake 25 = .ok (.iload_n 3, 1) := by decide +kernel
theorem dX3_linesThatMake_26 : decode cX3_linesThatMake 26 = .ok (.ishl, 1) := by decide +kernel
theorem dX3_linesThatMake_27 : decode cX3_linesThatMake 27 = .ok (.ior, 1) := by decide +kernel
theorem dX3_linesThatMake_28 : decode cX3_linesThatMake 28 = .ok (.istore_n 2, 1) := by decide +kernel
theorem dX3_linesThatMake_29 : decode cX3_linesThatMake 29 = .ok (.iinc 3 1, 3) := by decide +kernel
theorem dX3_linesThatMake_32 : decode cX3_linesThatMake 32 = .ok (.goto (-28), 3) := by decide +kernel
theorem dX3_linesThatMake_35 : decode cX3_linesThatMake 35 = .ok (.iload_n 2, 1) := by decide +kernel
theorem dX3_linesThatMake_36 : decode cX3_linesThatMake 36 = .ok (.ireturn, 1) := by decide +kernel
set_option maxRecDepth 100000 in
set_option maxHeartbeats 4000000 in
theorem M_X3_linesThatMake (G : zG) (l : Launch) {p0 : Nat} (hp0 : zP p0 = true) {a1 : Int32} {σ : zS} {r : Int32} (hJ : J_X3_linesThatMake p0 a1 σ = some r) : zMI G l yX3_linesThatMake cX3_linesThatMake 4 (some .int) (zrm 0 0) [.ref (G.1 + p0), .int a1] 137 (zen G σ) r 137 (zen G σ) := by
  unfold J_X3_linesThatMake at hJ
  refine zentI (by decide +kernel) (Nat.le_of_ble_eq_true rfl) ?_
  intro p e s m args below meth c C hret
  refine zr_sub [0, 1] [(0, .ref (G.1 + p0)), (1, .int a1)] rfl ?_
  refine zr_iconst C dX3_linesThatMake_0 (v := (0 : Int32)) (by decide) ?_
  refine zr_istore_n C [(2, .int (0 : Int32)), (0, .ref (G.1 + p0)), (1, .int a1)] dX3_linesThatMake_1 (by decide) rfl ?_
  refine zr_iconst C dX3_linesThatMake_2 (v := (0 : Int32)) (by decide) ?_
  refine zr_istore_n C [(3, .int (0 : Int32)), (2, .int (0 : Int32)), (0, .ref (G.1 + p0)), (1, .int a1)] dX3_linesThatMake_3 (by decide) rfl ?_
  have hl4 : ∀ (n : Nat) (w2_4 : Int32) (w3_4 : Int32), L_X3_linesThatMake_4 p0 a1 σ n w2_4 w3_4 = some r → zU G 4 p l e (zrm 0 0) s m args below meth c (MQ below (va_Qi (fun x (_ : Unit) => x = r) (fun _ t => zok G 137 (zen G σ) t) (zA G)) args s 0 0 (zA G)) σ 4 [(0, .ref (G.1 + p0)), (1, .int a1), (2, .int w2_4), (3, .int w3_4)] [] := by
    intro n
    induction n with
    | zero =>
      intro w2_4 w3_4 hJ
      rw [L_X3_linesThatMake_4] at hJ
      cases hJ
    | succ n ih =>
      intro w2_4 w3_4 hJ
      rw [L_X3_linesThatMake_4] at hJ
      obtain ⟨r_4, hr_4, hJ⟩ := zlet_e hJ
      have ih4 : ∀ (w2_4 : Int32) (w3_4 : Int32), r_4 w2_4 w3_4 = some r → zU G 4 p l e (zrm 0 0) s m args below meth c (MQ below (va_Qi (fun x (_ : Unit) => x = r) (fun _ t => zok G 137 (zen G σ) t) (zA G)) args s 0 0 (zA G)) σ 4 [(0, .ref (G.1 + p0)), (1, .int a1), (2, .int w2_4), (3, .int w3_4)] [] := by
        rw [hr_4]
        exact ih
      refine zr_iload_n C 3 dX3_linesThatMake_4 rfl ?_
      refine zr_aload_n C 0 dX3_linesThatMake_5 rfl ?_
      refine zg_3_0 C p0 (zkP_0 hp0) zm_3_16 dX3_linesThatMake_6 ?_
      refine zr_icmp_ge C 35 dX3_linesThatMake_9 (by decide) (fun hc1 => ?_) (fun hc1 => ?_)
      · have hJ := zif hc1 hJ
        refine zr_iload_n C 2 dX3_linesThatMake_35 rfl ?_
        exact zr_iret C hret (zs_e hJ) rfl rfl dX3_linesThatMake_36
      · have hJ := zif' hc1 hJ
        refine zr_aload_n C 0 dX3_linesThatMake_12 rfl ?_
        refine zg_3_4 C p0 (zkP_0 hp0) zm_3_22 dX3_linesThatMake_13 ?_
        refine zr_iload_n C 3 dX3_linesThatMake_16 rfl ?_
        obtain ⟨hg2, hJ⟩ := zg_e hJ
        refine zu_aald C (p0 + 4) (zkP_4 hp0) hg2 dX3_linesThatMake_17 ?_
        refine zr_iload_n C 1 dX3_linesThatMake_18 rfl ?_
        obtain ⟨hg3, hJ⟩ := zg_e hJ
        refine zu_iald C ((p0 + 4) + 1 + w3_4.toNatClampNeg) (zk_rowP hp0 (zi_lt hg2)) hg3 dX3_linesThatMake_19 ?_
        obtain ⟨v4, hv4, hJ⟩ := zlet_e hJ
        have hf6 : zU G 4 p l e (zrm 0 0) s m args below meth c (MQ below (va_Qi (fun x (_ : Unit) => x = r) (fun _ t => zok G 137 (zen G σ) t) (zA G)) args s 0 0 (zA G)) σ 29 [(0, .ref (G.1 + p0)), (1, .int a1), (2, .int v4), (3, .int w3_4)] [] := by
          obtain ⟨v5, hv5, hJ⟩ := zlet_e hJ
          refine zr_iinc C v5 3 [(3, .int v5), (0, .ref (G.1 + p0)), (1, .int a1), (2, .int v4)] dX3_linesThatMake_29 rfl (hv5.trans (zinc (by decide))) (by decide) rfl ?_
          refine zr_goto C 4 dX3_linesThatMake_32 (by decide) ?_
          refine zr_sub [1, 2, 3, 0] [(0, .ref (G.1 + p0)), (1, .int a1), (2, .int v4), (3, .int v5)] rfl ?_
          exact ih4 _ _ hJ
        refine zr_if_le C 29 dX3_linesThatMake_20 (by decide) (fun hc7 => ?_) (fun hc7 => ?_)
        · have hv4 := hv4.trans (if_pos hc7)
          rw [hv4] at hf6
          exact hf6
        · have hv4 := hv4.trans (if_neg hc7)
          refine zr_iload_n C 2 dX3_linesThatMake_23 rfl ?_
          refine zr_iconst C dX3_linesThatMake_24 (v := (1 : Int32)) (by decide) ?_
          refine zr_iload_n C 3 dX3_linesThatMake_25 rfl ?_
          refine zr_ishl C dX3_linesThatMake_26 ?_
          refine zr_ior C dX3_linesThatMake_27 ?_
          refine zr_istore_n C [(2, .int (w2_4 ||| ((1 : Int32) <<< (w3_4 &&& 31)))), (0, .ref (G.1 + p0)), (1, .int a1), (3, .int w3_4)] dX3_linesThatMake_28 (by decide) rfl ?_
          refine zr_sub [1, 2, 0, 3] [(0, .ref (G.1 + p0)), (1, .int a1), (2, .int (w2_4 ||| ((1 : Int32) <<< (w3_4 &&& 31)))), (3, .int w3_4)] rfl ?_
          rw [hv4] at hf6
          exact hf6
  refine zr_sub [2, 3, 1, 0] [(0, .ref (G.1 + p0)), (1, .int a1), (2, .int (0 : Int32)), (3, .int (0 : Int32))] rfl ?_
  exact hl4 _ _ _ hJ
theorem dX3_totalBetween_0 : decode cX3_totalBetween 0 = .ok (.iconst 0, 1) := by decide +kernel
theorem dX3_totalBetween_1 : decode cX3_totalBetween 1 = .ok (.istore 4, 2) := by decide +kernel
theorem dX3_totalBetween_3 : decode cX3_totalBetween 3 = .ok (.iload_n 1, 1) := by decide +kernel
theorem dX3_totalBetween_4 : decode cX3_totalBetween 4 = .ok (.istore 5, 2) := by decide +kernel
theorem dX3_totalBetween_6 : decode cX3_totalBetween 6 = .ok (.iload 5, 2) := by decide +kernel
theorem dX3_totalBetween_8 : decode cX3_totalBetween 8 = .ok (.iload_n 2, 1) := by decide +kernel
theorem dX3_totalBetween_9 : decode cX3_totalBetween 9 = .ok (.if_icmp .ge 31, 3) := by decide +kernel
theorem dX3_totalBetween_12 : decode cX3_totalBetween 12 = .ok (.iload 4, 2) := by decide +kernel
theorem dX3_totalBetween_14 : decode cX3_totalBetween 14 = .ok (.aload_n 0, 1) := by decide +kernel
theorem dX3_totalBetween_15 : decode cX3_totalBetween 15 = .ok (.getfield 19, 3) := by decide +kernel
theorem dX3_totalBetween_18 : decode cX3_totalBetween 18 = .ok (.iload 5, 2) := by decide +kernel
theorem dX3_totalBetween_20 : decode cX3_totalBetween 20 = .ok (.iaload, 1) := by decide +kernel
theorem dX3_totalBetween_21 : decode cX3_totalBetween 21 = .ok (.aload_n 0, 1) := by decide +kernel
theorem dX3_totalBetween_22 : decode cX3_totalBetween 22 = .ok (.getfield 27, 3) := by decide +kernel
theorem dX3_totalBetween_25 : decode cX3_totalBetween 25 = .ok (.iload 5, 2) := by decide +kernel
theorem dX3_totalBetween_27 : decode cX3_totalBetween 27 = .ok (.aaload, 1) := by decide +kernel
theorem dX3_totalBetween_28 : decode cX3_totalBetween 28 = .ok (.iload_n 3, 1) := by decide +kernel
theorem dX3_totalBetween_29 : decode cX3_totalBetween 29 = .ok (.iaload, 1) := by decide +kernel
theorem dX3_totalBetween_30 : decode cX3_totalBetween 30 = .ok (.imul, 1) := by decide +kernel
theorem dX3_totalBetween_31 : decode cX3_totalBetween 31 = .ok (.iadd, 1) := by decide +kernel
theorem dX3_totalBetween_32 : decode cX3_totalBetween 32 = .ok (.istore 4, 2) := by decide +kernel
theorem dX3_totalBetween_34 : decode cX3_totalBetween 34 = .ok (.iinc 5 1, 3) := by decide +kernel
theorem dX3_totalBetween_37 : decode cX3_totalBetween 37 = .ok (.goto (-31), 3) := by decide +kernel
theorem dX3_totalBetween_40 : decode cX3_totalBetween 40 = .ok (.iload 4, 2) := by decide +kernel
theorem dX3_totalBetween_42 : decode cX3_totalBetween 42 = .ok (.ireturn, 1) := by decide +kernel
set_option maxRecDepth 100000 in
set_option maxHeartbeats 4000000 in
theorem M_X3_totalBetween (G : zG) (l : Launch) {p0 : Nat} (hp0 : zP p0 = true) {a1 : Int32} {a2 : Int32} {a3 : Int32} {σ : zS} {r : Int32} (hJ : J_X3_totalBetween p0 a1 a2 a3 σ = some r) : zMI G l yX3_totalBetween cX3_totalBetween 6 (some .int) (zrm 0 0) [.ref (G.1 + p0), .int a1, .int a2, .int a3] 137 (zen G σ) r 137 (zen G σ) := by
  unfold J_X3_totalBetween at hJ
  refine zentI (by decide +kernel) (Nat.le_of_ble_eq_true rfl) ?_
  intro p e s m args below meth c C hret
  refine zr_sub [0, 1, 2, 3] [(0, .ref (G.1 + p0)), (1, .int a1), (2, .int a2), (3, .int a3)] rfl ?_
  refine zr_iconst C dX3_totalBetween_0 (v := (0 : Int32)) (by decide) ?_
  refine zr_istore C [(4, .int (0 : Int32)), (0, .ref (G.1 + p0)), (1, .int a1), (2, .int a2), (3, .int a3)] dX3_totalBetween_1 (by decide) rfl ?_
  refine zr_iload_n C 2 dX3_totalBetween_3 rfl ?_
  refine zr_istore C [(5, .int a1), (4, .int (0 : Int32)), (0, .ref (G.1 + p0)), (1, .int a1), (2, .int a2), (3, .int a3)] dX3_totalBetween_4 (by decide) rfl ?_
  have hl6 : ∀ (n : Nat) (w4_6 : Int32) (w5_6 : Int32), L_X3_totalBetween_6 p0 a2 a3 σ n w4_6 w5_6 = some r → zU G 6 p l e (zrm 0 0) s m args below meth c (MQ below (va_Qi (fun x (_ : Unit) => x = r) (fun _ t => zok G 137 (zen G σ) t) (zA G)) args s 0 0 (zA G)) σ 6 [(0, .ref (G.1 + p0)), (2, .int a2), (3, .int a3), (4, .int w4_6), (5, .int w5_6)] [] := by
    intro n
    induction n with
    | zero =>
      intro w4_6 w5_6 hJ
      rw [L_X3_totalBetween_6] at hJ
      cases hJ
    | succ n ih =>
      intro w4_6 w5_6 hJ
      rw [L_X3_totalBetween_6] at hJ
      obtain ⟨r_6, hr_6, hJ⟩ := zlet_e hJ
      have ih6 : ∀ (w4_6 : Int32) (w5_6 : Int32), r_6 w4_6 w5_6 = some r → zU G 6 p l e (zrm 0 0) s m args below meth c (MQ below (va_Qi (fun x (_ : Unit) => x = r) (fun _ t => zok G 137 (zen G σ) t) (zA G)) args s 0 0 (zA G)) σ 6 [(0, .ref (G.1 + p0)), (2, .int a2), (3, .int a3), (4, .int w4_6), (5, .int w5_6)] [] := by
        rw [hr_6]
        exact ih
      refine zr_iload C 4 dX3_totalBetween_6 rfl ?_
      refine zr_iload_n C 1 dX3_totalBetween_8 rfl ?_
      refine zr_icmp_ge C 40 dX3_totalBetween_9 (by decide) (fun hc1 => ?_) (fun hc1 => ?_)
      · have hJ := zif hc1 hJ
        refine zr_iload C 3 dX3_totalBetween_40 rfl ?_
        exact zr_iret C hret (zs_e hJ) rfl rfl dX3_totalBetween_42
      · have hJ := zif' hc1 hJ
        refine zr_iload C 3 dX3_totalBetween_12 rfl ?_
        refine zr_aload_n C 0 dX3_totalBetween_14 rfl ?_
        refine zg_3_2 C p0 (zkP_0 hp0) zm_3_19 dX3_totalBetween_15 ?_
        refine zr_iload C 4 dX3_totalBetween_18 rfl ?_
        obtain ⟨hg2, hJ⟩ := zg_e hJ
        refine zu_iald C (p0 + 2) (zkP_2 hp0) hg2 dX3_totalBetween_20 ?_
        refine zr_aload_n C 0 dX3_totalBetween_21 rfl ?_
        refine zg_3_4 C p0 (zkP_0 hp0) zm_3_22 dX3_totalBetween_22 ?_
        refine zr_iload C 4 dX3_totalBetween_25 rfl ?_
        obtain ⟨hg3, hJ⟩ := zg_e hJ
        refine zu_aald C (p0 + 4) (zkP_4 hp0) hg3 dX3_totalBetween_27 ?_
        refine zr_iload_n C 2 dX3_totalBetween_28 rfl ?_
        obtain ⟨hg4, hJ⟩ := zg_e hJ
        refine zu_iald C ((p0 + 4) + 1 + w5_6.toNatClampNeg) (zk_rowP hp0 (zi_lt hg3)) hg4 dX3_totalBetween_29 ?_
        refine zr_imul C dX3_totalBetween_30 ?_
        refine zr_iadd C dX3_totalBetween_31 ?_
        obtain ⟨v5, hv5, hJ⟩ := zlet_e hJ
        refine zr_topi hv5 ?_
        refine zr_istore C [(4, .int v5), (0, .ref (G.1 + p0)), (2, .int a2), (3, .int a3), (5, .int w5_6)] dX3_totalBetween_32 (by decide) rfl ?_
        obtain ⟨v6, hv6, hJ⟩ := zlet_e hJ
        refine zr_iinc C v6 4 [(5, .int v6), (4, .int v5), (0, .ref (G.1 + p0)), (2, .int a2), (3, .int a3)] dX3_totalBetween_34 rfl (hv6.trans (zinc (by decide))) (by decide) rfl ?_
        refine zr_goto C 6 dX3_totalBetween_37 (by decide) ?_
        refine zr_sub [2, 3, 4, 1, 0] [(0, .ref (G.1 + p0)), (2, .int a2), (3, .int a3), (4, .int v5), (5, .int v6)] rfl ?_
        exact ih6 _ _ hJ
  refine zr_sub [2, 4, 5, 1, 0] [(0, .ref (G.1 + p0)), (2, .int a2), (3, .int a3), (4, .int (0 : Int32)), (5, .int a1)] rfl ?_
  exact hl6 _ _ _ hJ
theorem dX3_total_0 : decode cX3_total 0 = .ok (.aload_n 0, 1) := by decide +kernel
theorem dX3_total_1 : decode cX3_total 1 = .ok (.iconst 0, 1) := by decide +kernel
theorem dX3_total_2 : decode cX3_total 2 = .ok (.aload_n 0, 1) := by decide +kernel
theorem dX3_total_3 : decode cX3_total 3 = .ok (.getfield 9, 3) := by decide +kernel
theorem dX3_total_6 : decode cX3_total 6 = .ok (.iload_n 1, 1) := by decide +kernel
theorem dX3_total_7 : decode cX3_total 7 = .ok (.invokevirtual 78, 3) := by decide +kernel
theorem dX3_total_10 : decode cX3_total 10 = .ok (.ireturn, 1) := by decide +kernel
set_option maxRecDepth 100000 in
set_option maxHeartbeats 4000000 in
theorem M_X3_total (G : zG) (l : Launch) {p0 : Nat} (hp0 : zP p0 = true) {a1 : Int32} {σ : zS} {r : Int32} (hJ : J_X3_total p0 a1 σ = some r) : zMI G l yX3_total cX3_total 2 (some .int) (zrm 1 25) [.ref (G.1 + p0), .int a1] 137 (zen G σ) r 137 (zen G σ) := by
  unfold J_X3_total at hJ
  refine zentI (by decide +kernel) (Nat.le_of_ble_eq_true rfl) ?_
  intro p e s m args below meth c C hret
  refine zr_sub [0, 1] [(0, .ref (G.1 + p0)), (1, .int a1)] rfl ?_
  refine zr_aload_n C 0 dX3_total_0 rfl ?_
  refine zr_iconst C dX3_total_1 (v := (0 : Int32)) (by decide) ?_
  refine zr_aload_n C 0 dX3_total_2 rfl ?_
  refine zg_3_0 C p0 (zkP_0 hp0) zm_3_16 dX3_total_3 ?_
  refine zr_iload_n C 1 dX3_total_6 rfl ?_
  obtain ⟨r1, hr1, hJ⟩ := zb_e hJ
  refine zr_callVI C p0 (zk_lt (zkP_0 hp0) (by decide)) (zen_obj (zkP_0 hp0)) (rfl : zcl[3]? = some (RX3, TX3, 19)) (M_X3_totalBetween G l hp0 hr1) zin_X3_totalBetween zm_22_15 rfl rfl (Nat.le_of_ble_eq_true rfl) ⟨Nat.le_of_ble_eq_true rfl, Nat.le_of_ble_eq_true rfl⟩ ⟨Nat.le_of_ble_eq_true rfl, Nat.le_of_ble_eq_true rfl⟩ dX3_total_7 ?_
  exact zr_iret C hret (zs_e hJ) rfl rfl dX3_total_10
theorem dX6_linesShown_0 : decode cX6_linesShown 0 = .ok (.iconst 0, 1) := by decide +kernel
theorem dX6_linesShown_1 : decode cX6_linesShown 1 = .ok (.istore_n 1, 1) := by decide +kernel
theorem dX6_linesShown_2 : decode cX6_linesShown 2 = .ok (.iconst 0, 1) := by decide +kernel
theorem dX6_linesShown_3 : decode cX6_linesShown 3 = .ok (.istore_n 2, 1) := by decide +kernel
theorem dX6_linesShown_4 : decode cX6_linesShown 4 = .ok (.iload_n 2, 1) := by decide +kernel
theorem dX6_linesShown_5 : decode cX6_linesShown 5 = .ok (.bipush 16, 2) := by decide +kernel
theorem dX6_linesShown_7 : decode cX6_linesShown 7 = .ok (.if_icmp .ge 24, 3) := by decide +kernel
theorem dX6_linesShown_10 : decode cX6_linesShown 10 = .ok (.aload_n 0, 1) := by decide +kernel
theorem dX6_linesShown_11 : decode cX6_linesShown 11 = .ok (.getfield 9, 3) := by decide +kernel
theorem dX6_linesShown_14 : decode cX6_linesShown 14 = .ok (.iload_n 2, 1) := by decide +kernel
theorem dX6_linesShown_15 : decode cX6_linesShown 15 = .ok (.iaload, 1) := by decide +kernel
theorem dX6_linesShown_16 : decode cX6_linesShown 16 = .ok (.ifCond .le 9, 3) := by decide +kernel
theorem dX6_linesShown_19 : decode cX6_linesShown 19 = .ok (.iload_n 1, 1) := by decide +kernel
theorem dX6_linesShown_20 : decode cX6_linesShown 20 = .ok (.iconst 1, 1) := by decide +kernel
theorem dX6_linesShown_21 : decode cX6_linesShown 21 = .ok (.iload_n 2, 1) := by decide +kernel
theorem dX6_linesShown_22 : decode cX6_linesShown 22 = .ok (.ishl, 1) := by decide +kernel
theorem dX6_linesShown_23 : decode cX6_linesShown 23 = .ok (.ior, 1) := by decide +kernel
theorem dX6_linesShown_24 : decode cX6_linesShown 24 = .ok (.istore_n 1, 1) := by decide +kernel
theorem dX6_linesShown_25 : decode cX6_linesShown 25 = .ok (.iinc 2 1, 3) := by decide +kernel
theorem dX6_linesShown_28 : decode cX6_linesShown 28 = .ok (.goto (-24), 3) := by decide +kernel
theorem dX6_linesShown_31 : decode cX6_linesShown 31 = .ok (.iload_n 1, 1) := by decide +kernel
theorem dX6_linesShown_32 : decode cX6_linesShown 32 = .ok (.ireturn, 1) := by decide +kernel
set_option maxRecDepth 100000 in
set_option maxHeartbeats 4000000 in
theorem M_X6_linesShown (G : zG) (l : Launch) {σ : zS} {r : Int32} (hJ : J_X6_linesShown σ = some r) : zMI G l yX6_linesShown cX6_linesShown 3 (some .int) (zrm 0 0) [.ref (G.1 + 89)] 137 (zen G σ) r 137 (zen G σ) := by
  unfold J_X6_linesShown at hJ
  refine zentI (by decide +kernel) (Nat.le_of_ble_eq_true rfl) ?_
  intro p e s m args below meth c C hret
  refine zr_sub [0] [(0, .ref (G.1 + 89))] rfl ?_
  refine zr_iconst C dX6_linesShown_0 (v := (0 : Int32)) (by decide) ?_
  refine zr_istore_n C [(1, .int (0 : Int32)), (0, .ref (G.1 + 89))] dX6_linesShown_1 (by decide) rfl ?_
  refine zr_iconst C dX6_linesShown_2 (v := (0 : Int32)) (by decide) ?_
  refine zr_istore_n C [(2, .int (0 : Int32)), (1, .int (0 : Int32)), (0, .ref (G.1 + 89))] dX6_linesShown_3 (by decide) rfl ?_
  have hl4 : ∀ (n : Nat) (w1_4 : Int32) (w2_4 : Int32), L_X6_linesShown_4 σ n w1_4 w2_4 = some r → zU G 3 p l e (zrm 0 0) s m args below meth c (MQ below (va_Qi (fun x (_ : Unit) => x = r) (fun _ t => zok G 137 (zen G σ) t) (zA G)) args s 0 0 (zA G)) σ 4 [(0, .ref (G.1 + 89)), (1, .int w1_4), (2, .int w2_4)] [] := by
    intro n
    induction n with
    | zero =>
      intro w1_4 w2_4 hJ
      rw [L_X6_linesShown_4] at hJ
      cases hJ
    | succ n ih =>
      intro w1_4 w2_4 hJ
      rw [L_X6_linesShown_4] at hJ
      obtain ⟨r_4, hr_4, hJ⟩ := zlet_e hJ
      have ih4 : ∀ (w1_4 : Int32) (w2_4 : Int32), r_4 w1_4 w2_4 = some r → zU G 3 p l e (zrm 0 0) s m args below meth c (MQ below (va_Qi (fun x (_ : Unit) => x = r) (fun _ t => zok G 137 (zen G σ) t) (zA G)) args s 0 0 (zA G)) σ 4 [(0, .ref (G.1 + 89)), (1, .int w1_4), (2, .int w2_4)] [] := by
        rw [hr_4]
        exact ih
      refine zr_iload_n C 2 dX6_linesShown_4 rfl ?_
      refine zr_bipush C dX6_linesShown_5 (v := (16 : Int32)) (by decide) ?_
      refine zr_icmp_ge C 31 dX6_linesShown_7 (by decide) (fun hc1 => ?_) (fun hc1 => ?_)
      · have hJ := zif hc1 hJ
        refine zr_iload_n C 1 dX6_linesShown_31 rfl ?_
        exact zr_iret C hret (zs_e hJ) rfl rfl dX6_linesShown_32
      · have hJ := zif' hc1 hJ
        refine zr_aload_n C 0 dX6_linesShown_10 rfl ?_
        refine zg_6_0 C 89 zk_89 zm_6_1 dX6_linesShown_11 ?_
        refine zr_iload_n C 2 dX6_linesShown_14 rfl ?_
        obtain ⟨hg2, hJ⟩ := zg_e hJ
        refine zu_iald C 90 zk_90 hg2 dX6_linesShown_15 ?_
        obtain ⟨v3, hv3, hJ⟩ := zlet_e hJ
        have hf5 : zU G 3 p l e (zrm 0 0) s m args below meth c (MQ below (va_Qi (fun x (_ : Unit) => x = r) (fun _ t => zok G 137 (zen G σ) t) (zA G)) args s 0 0 (zA G)) σ 25 [(0, .ref (G.1 + 89)), (1, .int v3), (2, .int w2_4)] [] := by
          obtain ⟨v4, hv4, hJ⟩ := zlet_e hJ
          refine zr_iinc C v4 2 [(2, .int v4), (0, .ref (G.1 + 89)), (1, .int v3)] dX6_linesShown_25 rfl (hv4.trans (zinc (by decide))) (by decide) rfl ?_
          refine zr_goto C 4 dX6_linesShown_28 (by decide) ?_
          refine zr_sub [1, 2, 0] [(0, .ref (G.1 + 89)), (1, .int v3), (2, .int v4)] rfl ?_
          exact ih4 _ _ hJ
        refine zr_if_le C 25 dX6_linesShown_16 (by decide) (fun hc6 => ?_) (fun hc6 => ?_)
        · have hv3 := hv3.trans (if_pos hc6)
          rw [hv3] at hf5
          exact hf5
        · have hv3 := hv3.trans (if_neg hc6)
          refine zr_iload_n C 1 dX6_linesShown_19 rfl ?_
          refine zr_iconst C dX6_linesShown_20 (v := (1 : Int32)) (by decide) ?_
          refine zr_iload_n C 2 dX6_linesShown_21 rfl ?_
          refine zr_ishl C dX6_linesShown_22 ?_
          refine zr_ior C dX6_linesShown_23 ?_
          refine zr_istore_n C [(1, .int (w1_4 ||| ((1 : Int32) <<< (w2_4 &&& 31)))), (0, .ref (G.1 + 89)), (2, .int w2_4)] dX6_linesShown_24 (by decide) rfl ?_
          refine zr_sub [1, 0, 2] [(0, .ref (G.1 + 89)), (1, .int (w1_4 ||| ((1 : Int32) <<< (w2_4 &&& 31)))), (2, .int w2_4)] rfl ?_
          rw [hv3] at hf5
          exact hf5
  refine zr_sub [2, 1, 0] [(0, .ref (G.1 + 89)), (1, .int (0 : Int32)), (2, .int (0 : Int32))] rfl ?_
  exact hl4 _ _ _ hJ
theorem dX6_show_0 : decode cX6_show 0 = .ok (.iload_n 2, 1) := by decide +kernel
theorem dX6_show_1 : decode cX6_show 1 = .ok (.aload_n 1, 1) := by decide +kernel
theorem dX6_show_2 : decode cX6_show 2 = .ok (.getfield 22, 3) := by decide +kernel
theorem dX6_show_5 : decode cX6_show 5 = .ok (.if_icmp .ge 31, 3) := by decide +kernel
theorem dX6_show_8 : decode cX6_show 8 = .ok (.aload_n 0, 1) := by decide +kernel
theorem dX6_show_9 : decode cX6_show 9 = .ok (.getfield 9, 3) := by decide +kernel
theorem dX6_show_12 : decode cX6_show 12 = .ok (.aload_n 1, 1) := by decide +kernel
theorem dX6_show_13 : decode cX6_show 13 = .ok (.getfield 31, 3) := by decide +kernel
theorem dX6_show_16 : decode cX6_show 16 = .ok (.iload_n 2, 1) := by decide +kernel
theorem dX6_show_17 : decode cX6_show 17 = .ok (.baload, 1) := by decide +kernel
theorem dX6_show_18 : decode cX6_show 18 = .ok (.dup2, 1) := by decide +kernel
theorem dX6_show_19 : decode cX6_show 19 = .ok (.iaload, 1) := by decide +kernel
theorem dX6_show_20 : decode cX6_show 20 = .ok (.iload_n 3, 1) := by decide +kernel
theorem dX6_show_21 : decode cX6_show 21 = .ok (.iadd, 1) := by decide +kernel
theorem dX6_show_22 : decode cX6_show 22 = .ok (.iastore, 1) := by decide +kernel
theorem dX6_show_23 : decode cX6_show 23 = .ok (.aload_n 0, 1) := by decide +kernel
theorem dX6_show_24 : decode cX6_show 24 = .ok (.dup, 1) := by decide +kernel
theorem dX6_show_25 : decode cX6_show 25 = .ok (.getfield 15, 3) := by decide +kernel
theorem dX6_show_28 : decode cX6_show 28 = .ok (.iload_n 3, 1) := by decide +kernel
theorem dX6_show_29 : decode cX6_show 29 = .ok (.iadd, 1) := by decide +kernel
theorem dX6_show_30 : decode cX6_show 30 = .ok (.putfield 15, 3) := by decide +kernel
theorem dX6_show_33 : decode cX6_show 33 = .ok (.goto 13, 3) := by decide +kernel
theorem dX6_show_36 : decode cX6_show 36 = .ok (.aload_n 0, 1) := by decide +kernel
theorem dX6_show_37 : decode cX6_show 37 = .ok (.dup, 1) := by decide +kernel
theorem dX6_show_38 : decode cX6_show 38 = .ok (.getfield 19, 3) := by decide +kernel
theorem dX6_show_41 : decode cX6_show 41 = .ok (.iload_n 3, 1) := by decide +kernel
theorem dX6_show_42 : decode cX6_show 42 = .ok (.iadd, 1) := by decide +kernel
theorem dX6_show_43 : decode cX6_show 43 = .ok (.putfield 19, 3) := by decide +kernel
theorem dX6_show_46 : decode cX6_show 46 = .ok (.return_, 1) := by decide +kernel
set_option maxRecDepth 100000 in
set_option maxHeartbeats 4000000 in
theorem M_X6_show (G : zG) (l : Launch) {p1 : Nat} (hp1 : zP p1 = true) {a2 : Int32} {a3 : Int32} {σ : zS} {σ' : zS} (hJ : J_X6_show p1 a2 a3 σ = some σ') : zMV G l yX6_show cX6_show 4 none (zrm 0 0) [.ref (G.1 + 89), .ref (G.1 + p1), .int a2, .int a3] 137 (zen G σ) 137 (zen G σ') := by
  unfold J_X6_show at hJ
  refine zentV (by decide +kernel) (Nat.le_of_ble_eq_true rfl) ?_
  intro p e s m args below meth c C hret
  refine zr_sub [0, 1, 2, 3] [(0, .ref (G.1 + 89)), (1, .ref (G.1 + p1)), (2, .int a2), (3, .int a3)] rfl ?_
  refine zr_iload_n C 2 dX6_show_0 rfl ?_
  refine zr_aload_n C 1 dX6_show_1 rfl ?_
  refine zg_3_15 C p1 (zkP_0 hp1) zm_37_20 dX6_show_2 ?_
  refine zr_icmp_ge C 36 dX6_show_5 (by decide) (fun hc1 => ?_) (fun hc1 => ?_)
  · have hJ := zif hc1 hJ
    refine zr_aload_n C 0 dX6_show_36 rfl ?_
    refine zr_dup C dX6_show_37 rfl ?_
    refine zg_6_2 C 89 zk_89 zm_6_3 dX6_show_38 ?_
    refine zr_iload_n C 3 dX6_show_41 rfl ?_
    refine zr_iadd C dX6_show_42 ?_
    obtain ⟨σ2, hσ2, hJ⟩ := zlet_e hJ
    refine zp_6_2 C 89 zk_89 zm_6_3 hσ2 dX6_show_43 ?_
    exact zr_vret C hret rfl (congrArg (zen G) (zs_e hJ)) dX6_show_46
  · have hJ := zif' hc1 hJ
    refine zr_aload_n C 0 dX6_show_8 rfl ?_
    refine zg_6_0 C 89 zk_89 zm_6_1 dX6_show_9 ?_
    refine zr_aload_n C 1 dX6_show_12 rfl ?_
    refine zg_3_17 C p1 (zkP_0 hp1) zm_37_22 dX6_show_13 ?_
    refine zr_iload_n C 2 dX6_show_16 rfl ?_
    obtain ⟨hg3, hJ⟩ := zg_e hJ
    refine zu_bald C (p1 + 28) (zkP_28 hp1) hg3 dX6_show_17 ?_
    refine zr_dup2 C dX6_show_18 rfl rfl ?_
    obtain ⟨hg4, hJ⟩ := zg_e hJ
    refine zu_iald C 90 zk_90 hg4 dX6_show_19 ?_
    refine zr_iload_n C 3 dX6_show_20 rfl ?_
    refine zr_iadd C dX6_show_21 ?_
    obtain ⟨hg5, hJ⟩ := zg_e hJ
    obtain ⟨σ6, hσ6, hJ⟩ := zlet_e hJ
    refine zv_iast C 90 zk_90 hg5 hσ6 dX6_show_22 ?_
    refine zr_aload_n C 0 dX6_show_23 rfl ?_
    refine zr_dup C dX6_show_24 rfl ?_
    refine zg_6_1 C 89 zk_89 zm_6_2 dX6_show_25 ?_
    refine zr_iload_n C 3 dX6_show_28 rfl ?_
    refine zr_iadd C dX6_show_29 ?_
    obtain ⟨σ7, hσ7, hJ⟩ := zlet_e hJ
    refine zp_6_1 C 89 zk_89 zm_6_2 hσ7 dX6_show_30 ?_
    refine zr_goto C 46 dX6_show_33 (by decide) ?_
    exact zr_vret C hret rfl (congrArg (zen G) (zs_e hJ)) dX6_show_46
theorem dX6_take_0 : decode cX6_take 0 = .ok (.iconst 0, 1) := by decide +kernel
theorem dX6_take_1 : decode cX6_take 1 = .ok (.istore 6, 2) := by decide +kernel
theorem dX6_take_3 : decode cX6_take 3 = .ok (.iload 6, 2) := by decide +kernel
theorem dX6_take_5 : decode cX6_take 5 = .ok (.bipush 16, 2) := by decide +kernel
theorem dX6_take_7 : decode cX6_take 7 = .ok (.if_icmp .ge 17, 3) := by decide +kernel
theorem dX6_take_10 : decode cX6_take 10 = .ok (.aload_n 0, 1) := by decide +kernel
theorem dX6_take_11 : decode cX6_take 11 = .ok (.getfield 9, 3) := by decide +kernel
theorem dX6_take_14 : decode cX6_take 14 = .ok (.iload 6, 2) := by decide +kernel
theorem dX6_take_16 : decode cX6_take 16 = .ok (.iconst 0, 1) := by decide +kernel
theorem dX6_take_17 : decode cX6_take 17 = .ok (.iastore, 1) := by decide +kernel
theorem dX6_take_18 : decode cX6_take 18 = .ok (.iinc 6 1, 3) := by decide +kernel
theorem dX6_take_21 : decode cX6_take 21 = .ok (.goto (-18), 3) := by decide +kernel
theorem dX6_take_24 : decode cX6_take 24 = .ok (.aload_n 0, 1) := by decide +kernel
theorem dX6_take_25 : decode cX6_take 25 = .ok (.iconst 0, 1) := by decide +kernel
theorem dX6_take_26 : decode cX6_take 26 = .ok (.putfield 15, 3) := by decide +kernel
theorem dX6_take_29 : decode cX6_take 29 = .ok (.aload_n 0, 1) := by decide +kernel
theorem dX6_take_30 : decode cX6_take 30 = .ok (.iconst 0, 1) := by decide +kernel
theorem dX6_take_31 : decode cX6_take 31 = .ok (.putfield 19, 3) := by decide +kernel
theorem dX6_take_34 : decode cX6_take 34 = .ok (.iload_n 3, 1) := by decide +kernel
theorem dX6_take_35 : decode cX6_take 35 = .ok (.iconst 1, 1) := by decide +kernel
theorem dX6_take_36 : decode cX6_take 36 = .ok (.if_icmp .ge 4, 3) := by decide +kernel
theorem dX6_take_39 : decode cX6_take 39 = .ok (.return_, 1) := by decide +kernel
theorem dX6_take_40 : decode cX6_take 40 = .ok (.iload 4, 2) := by decide +kernel
theorem dX6_take_42 : decode cX6_take 42 = .ok (.istore 6, 2) := by decide +kernel
theorem dX6_take_44 : decode cX6_take 44 = .ok (.iconst 0, 1) := by decide +kernel
theorem dX6_take_45 : decode cX6_take 45 = .ok (.istore 7, 2) := by decide +kernel
theorem dX6_take_47 : decode cX6_take 47 = .ok (.iload 7, 2) := by decide +kernel
theorem dX6_take_49 : decode cX6_take 49 = .ok (.aload_n 1, 1) := by decide +kernel
theorem dX6_take_50 : decode cX6_take 50 = .ok (.getfield 22, 3) := by decide +kernel
theorem dX6_take_53 : decode cX6_take 53 = .ok (.if_icmp .ge 54, 3) := by decide +kernel
theorem dX6_take_56 : decode cX6_take 56 = .ok (.iload 6, 2) := by decide +kernel
theorem dX6_take_58 : decode cX6_take 58 = .ok (.aload_n 1, 1) := by decide +kernel
theorem dX6_take_59 : decode cX6_take 59 = .ok (.getfield 27, 3) := by decide +kernel
theorem dX6_take_62 : decode cX6_take 62 = .ok (.aload_n 1, 1) := by decide +kernel
theorem dX6_take_63 : decode cX6_take 63 = .ok (.getfield 31, 3) := by decide +kernel
theorem dX6_take_66 : decode cX6_take 66 = .ok (.iload 7, 2) := by decide +kernel
theorem dX6_take_68 : decode cX6_take 68 = .ok (.baload, 1) := by decide +kernel
theorem dX6_take_69 : decode cX6_take 69 = .ok (.aaload, 1) := by decide +kernel
theorem dX6_take_70 : decode cX6_take 70 = .ok (.iload_n 2, 1) := by decide +kernel
theorem dX6_take_71 : decode cX6_take 71 = .ok (.iaload, 1) := by decide +kernel
theorem dX6_take_72 : decode cX6_take 72 = .ok (.iadd, 1) := by decide +kernel
theorem dX6_take_73 : decode cX6_take 73 = .ok (.istore 6, 2) := by decide +kernel
theorem dX6_take_75 : decode cX6_take 75 = .ok (.iload 6, 2) := by decide +kernel
theorem dX6_take_77 : decode cX6_take 77 = .ok (.iload_n 3, 1) := by decide +kernel
theorem dX6_take_78 : decode cX6_take 78 = .ok (.if_icmp .lt 23, 3) := by decide +kernel
theorem dX6_take_81 : decode cX6_take 81 = .ok (.aload_n 0, 1) := by decide +kernel
theorem dX6_take_82 : decode cX6_take 82 = .ok (.aload_n 1, 1) := by decide +kernel
theorem dX6_take_83 : decode cX6_take 83 = .ok (.iload 7, 2) := by decide +kernel
theorem dX6_take_85 : decode cX6_take 85 = .ok (.iload 5, 2) := by decide +kernel
theorem dX6_take_87 : decode cX6_take 87 = .ok (.iadd, 1) := by decide +kernel
theorem dX6_take_88 : decode cX6_take 88 = .ok (.iload 6, 2) := by decide +kernel
theorem dX6_take_90 : decode cX6_take 90 = .ok (.iload_n 3, 1) := by decide +kernel
theorem dX6_take_91 : decode cX6_take 91 = .ok (.idiv, 1) := by decide +kernel
theorem dX6_take_92 : decode cX6_take 92 = .ok (.invokevirtual 35, 3) := by decide +kernel
theorem dX6_take_95 : decode cX6_take 95 = .ok (.iload 6, 2) := by decide +kernel
theorem dX6_take_97 : decode cX6_take 97 = .ok (.iload_n 3, 1) := by decide +kernel
theorem dX6_take_98 : decode cX6_take 98 = .ok (.irem, 1) := by decide +kernel
theorem dX6_take_99 : decode cX6_take 99 = .ok (.istore 6, 2) := by decide +kernel
theorem dX6_take_101 : decode cX6_take 101 = .ok (.iinc 7 1, 3) := by decide +kernel
theorem dX6_take_104 : decode cX6_take 104 = .ok (.goto (-57), 3) := by decide +kernel
theorem dX6_take_107 : decode cX6_take 107 = .ok (.return_, 1) := by decide +kernel
set_option maxRecDepth 100000 in
set_option maxHeartbeats 4000000 in
theorem M_X6_take (G : zG) (l : Launch) {p1 : Nat} (hp1 : zP p1 = true) {a2 : Int32} {a3 : Int32} {a4 : Int32} {a5 : Int32} {σ : zS} {σ' : zS} (hJ : J_X6_take p1 a2 a3 a4 a5 σ = some σ') : zMV G l yX6_take cX6_take 8 none (zrm 1 23) [.ref (G.1 + 89), .ref (G.1 + p1), .int a2, .int a3, .int a4, .int a5] 137 (zen G σ) 137 (zen G σ') := by
  unfold J_X6_take at hJ
  refine zentV (by decide +kernel) (Nat.le_of_ble_eq_true rfl) ?_
  intro p e s m args below meth c C hret
  refine zr_sub [0, 1, 2, 3, 4, 5] [(0, .ref (G.1 + 89)), (1, .ref (G.1 + p1)), (2, .int a2), (3, .int a3), (4, .int a4), (5, .int a5)] rfl ?_
  refine zr_iconst C dX6_take_0 (v := (0 : Int32)) (by decide) ?_
  refine zr_istore C [(6, .int (0 : Int32)), (0, .ref (G.1 + 89)), (1, .ref (G.1 + p1)), (2, .int a2), (3, .int a3), (4, .int a4), (5, .int a5)] dX6_take_1 (by decide) rfl ?_
  obtain ⟨k24, hk24, hJ⟩ := zlet_e hJ
  have hj24 : ∀ (σ_24 : zS), k24 σ_24 = some σ' → zU G 8 p l e (zrm 1 23) s m args below meth c (MQ below (va_Qv (fun (_ : Unit) => True) (fun _ t => zok G 137 (zen G σ') t) (zA G)) args s 0 0 (zA G)) σ_24 24 [(0, .ref (G.1 + 89)), (1, .ref (G.1 + p1)), (2, .int a2), (3, .int a3), (4, .int a4), (5, .int a5)] [] := by
    intro σ_24 hJ
    rw [hk24] at hJ
    unfold D_X6_take_24 at hJ
    refine zr_aload_n C 0 dX6_take_24 rfl ?_
    refine zr_iconst C dX6_take_25 (v := (0 : Int32)) (by decide) ?_
    obtain ⟨σ1, hσ1, hJ⟩ := zlet_e hJ
    refine zp_6_1 C 89 zk_89 zm_6_2 hσ1 dX6_take_26 ?_
    refine zr_aload_n C 0 dX6_take_29 rfl ?_
    refine zr_iconst C dX6_take_30 (v := (0 : Int32)) (by decide) ?_
    obtain ⟨σ2, hσ2, hJ⟩ := zlet_e hJ
    refine zp_6_2 C 89 zk_89 zm_6_3 hσ2 dX6_take_31 ?_
    refine zr_iload_n C 3 dX6_take_34 rfl ?_
    refine zr_iconst C dX6_take_35 (v := (1 : Int32)) (by decide) ?_
    refine zr_icmp_ge C 40 dX6_take_36 (by decide) (fun hc3 => ?_) (fun hc3 => ?_)
    · have hJ := zif hc3 hJ
      refine zr_iload C 4 dX6_take_40 rfl ?_
      refine zr_istore C [(6, .int a4), (0, .ref (G.1 + 89)), (1, .ref (G.1 + p1)), (2, .int a2), (3, .int a3), (4, .int a4), (5, .int a5)] dX6_take_42 (by decide) rfl ?_
      refine zr_iconst C dX6_take_44 (v := (0 : Int32)) (by decide) ?_
      refine zr_istore C [(7, .int (0 : Int32)), (6, .int a4), (0, .ref (G.1 + 89)), (1, .ref (G.1 + p1)), (2, .int a2), (3, .int a3), (4, .int a4), (5, .int a5)] dX6_take_45 (by decide) rfl ?_
      have hl47 : ∀ (n : Nat) (w6_47 : Int32) (w7_47 : Int32) (σ_47 : zS), L_X6_take_47 p1 a2 a3 a5 n w6_47 w7_47 σ_47 = some σ' → zU G 8 p l e (zrm 1 23) s m args below meth c (MQ below (va_Qv (fun (_ : Unit) => True) (fun _ t => zok G 137 (zen G σ') t) (zA G)) args s 0 0 (zA G)) σ_47 47 [(0, .ref (G.1 + 89)), (1, .ref (G.1 + p1)), (2, .int a2), (3, .int a3), (5, .int a5), (6, .int w6_47), (7, .int w7_47)] [] := by
        intro n
        induction n with
        | zero =>
          intro w6_47 w7_47 σ_47 hJ
          rw [L_X6_take_47] at hJ
          cases hJ
        | succ n ih =>
          intro w6_47 w7_47 σ_47 hJ
          rw [L_X6_take_47] at hJ
          obtain ⟨r_47, hr_47, hJ⟩ := zlet_e hJ
          have ih47 : ∀ (w6_47 : Int32) (w7_47 : Int32) (σ_47 : zS), r_47 w6_47 w7_47 σ_47 = some σ' → zU G 8 p l e (zrm 1 23) s m args below meth c (MQ below (va_Qv (fun (_ : Unit) => True) (fun _ t => zok G 137 (zen G σ') t) (zA G)) args s 0 0 (zA G)) σ_47 47 [(0, .ref (G.1 + 89)), (1, .ref (G.1 + p1)), (2, .int a2), (3, .int a3), (5, .int a5), (6, .int w6_47), (7, .int w7_47)] [] := by
            rw [hr_47]
            exact ih
          refine zr_iload C 6 dX6_take_47 rfl ?_
          refine zr_aload_n C 1 dX6_take_49 rfl ?_
          refine zg_3_15 C p1 (zkP_0 hp1) zm_37_20 dX6_take_50 ?_
          refine zr_icmp_ge C 107 dX6_take_53 (by decide) (fun hc4 => ?_) (fun hc4 => ?_)
          · have hJ := zif hc4 hJ
            exact zr_vret C hret rfl (congrArg (zen G) (zs_e hJ)) dX6_take_107
          · have hJ := zif' hc4 hJ
            refine zr_iload C 5 dX6_take_56 rfl ?_
            refine zr_aload_n C 1 dX6_take_58 rfl ?_
            refine zg_3_4 C p1 (zkP_0 hp1) zm_37_21 dX6_take_59 ?_
            refine zr_aload_n C 1 dX6_take_62 rfl ?_
            refine zg_3_17 C p1 (zkP_0 hp1) zm_37_22 dX6_take_63 ?_
            refine zr_iload C 6 dX6_take_66 rfl ?_
            obtain ⟨hg5, hJ⟩ := zg_e hJ
            refine zu_bald C (p1 + 28) (zkP_28 hp1) hg5 dX6_take_68 ?_
            obtain ⟨hg6, hJ⟩ := zg_e hJ
            refine zu_aald C (p1 + 4) (zkP_4 hp1) hg6 dX6_take_69 ?_
            refine zr_iload_n C 2 dX6_take_70 rfl ?_
            obtain ⟨hg7, hJ⟩ := zg_e hJ
            refine zu_iald C ((p1 + 4) + 1 + (σ_47.1 (p1 + 28) w7_47.toNatClampNeg).toNatClampNeg) (zk_rowP hp1 (zi_lt hg6)) hg7 dX6_take_71 ?_
            refine zr_iadd C dX6_take_72 ?_
            obtain ⟨v8, hv8, hJ⟩ := zlet_e hJ
            refine zr_topi hv8 ?_
            refine zr_istore C [(6, .int v8), (0, .ref (G.1 + 89)), (1, .ref (G.1 + p1)), (2, .int a2), (3, .int a3), (5, .int a5), (7, .int w7_47)] dX6_take_73 (by decide) rfl ?_
            refine zr_iload C 0 dX6_take_75 rfl ?_
            refine zr_iload_n C 4 dX6_take_77 rfl ?_
            refine zr_icmp_lt C 101 dX6_take_78 (by decide) (fun hc9 => ?_) (fun hc9 => ?_)
            · have hJ := zif hc9 hJ
              obtain ⟨v10, hv10, hJ⟩ := zlet_e hJ
              refine zr_iinc C v10 6 [(7, .int v10), (6, .int v8), (0, .ref (G.1 + 89)), (1, .ref (G.1 + p1)), (2, .int a2), (3, .int a3), (5, .int a5)] dX6_take_101 rfl (hv10.trans (zinc (by decide))) (by decide) rfl ?_
              refine zr_goto C 47 dX6_take_104 (by decide) ?_
              refine zr_sub [2, 3, 4, 5, 6, 1, 0] [(0, .ref (G.1 + 89)), (1, .ref (G.1 + p1)), (2, .int a2), (3, .int a3), (5, .int a5), (6, .int v8), (7, .int v10)] rfl ?_
              exact ih47 _ _ _ hJ
            · have hJ := zif' hc9 hJ
              refine zr_aload_n C 1 dX6_take_81 rfl ?_
              refine zr_aload_n C 2 dX6_take_82 rfl ?_
              refine zr_iload C 6 dX6_take_83 rfl ?_
              refine zr_iload C 5 dX6_take_85 rfl ?_
              refine zr_iadd C dX6_take_87 ?_
              refine zr_iload C 0 dX6_take_88 rfl ?_
              refine zr_iload_n C 4 dX6_take_90 rfl ?_
              obtain ⟨hn11, hJ⟩ := zn_e hJ
              refine zr_idiv C dX6_take_91 hn11 ?_
              obtain ⟨σ13, hr12, hJ⟩ := zb_e hJ
              refine zr_callVV C 89 (zk_lt zk_89 (by decide)) (zen_obj zk_89) (rfl : zcl[6]? = some (RX6, TX6, 3)) (M_X6_show G l hp1 hr12) zin_X6_show zm_37_23 rfl rfl (Nat.le_of_ble_eq_true rfl) ⟨Nat.le_of_ble_eq_true rfl, Nat.le_of_ble_eq_true rfl⟩ ⟨Nat.le_of_ble_eq_true rfl, Nat.le_of_ble_eq_true rfl⟩ dX6_take_92 ?_
              refine zr_iload C 0 dX6_take_95 rfl ?_
              refine zr_iload_n C 4 dX6_take_97 rfl ?_
              obtain ⟨hn14, hJ⟩ := zn_e hJ
              refine zr_irem C dX6_take_98 hn14 ?_
              obtain ⟨v15, hv15, hJ⟩ := zlet_e hJ
              refine zr_topi hv15 ?_
              refine zr_istore C [(6, .int v15), (0, .ref (G.1 + 89)), (1, .ref (G.1 + p1)), (2, .int a2), (3, .int a3), (5, .int a5), (7, .int w7_47)] dX6_take_99 (by decide) rfl ?_
              obtain ⟨v16, hv16, hJ⟩ := zlet_e hJ
              refine zr_iinc C v16 6 [(7, .int v16), (6, .int v15), (0, .ref (G.1 + 89)), (1, .ref (G.1 + p1)), (2, .int a2), (3, .int a3), (5, .int a5)] dX6_take_101 rfl (hv16.trans (zinc (by decide))) (by decide) rfl ?_
              refine zr_goto C 47 dX6_take_104 (by decide) ?_
              refine zr_sub [2, 3, 4, 5, 6, 1, 0] [(0, .ref (G.1 + 89)), (1, .ref (G.1 + p1)), (2, .int a2), (3, .int a3), (5, .int a5), (6, .int v15), (7, .int v16)] rfl ?_
              exact ih47 _ _ _ hJ
      refine zr_sub [2, 3, 4, 5, 7, 1, 0] [(0, .ref (G.1 + 89)), (1, .ref (G.1 + p1)), (2, .int a2), (3, .int a3), (5, .int a5), (6, .int a4), (7, .int (0 : Int32))] rfl ?_
      exact hl47 _ _ _ _ hJ
    · have hJ := zif' hc3 hJ
      exact zr_vret C hret rfl (congrArg (zen G) (zs_e hJ)) dX6_take_39
  have hl3 : ∀ (n : Nat) (w6_3 : Int32) (σ_3 : zS), L_X6_take_3 k24 n w6_3 σ_3 = some σ' → zU G 8 p l e (zrm 1 23) s m args below meth c (MQ below (va_Qv (fun (_ : Unit) => True) (fun _ t => zok G 137 (zen G σ') t) (zA G)) args s 0 0 (zA G)) σ_3 3 [(0, .ref (G.1 + 89)), (1, .ref (G.1 + p1)), (2, .int a2), (3, .int a3), (4, .int a4), (5, .int a5), (6, .int w6_3)] [] := by
    intro n
    induction n with
    | zero =>
      intro w6_3 σ_3 hJ
      rw [L_X6_take_3] at hJ
      cases hJ
    | succ n ih =>
      intro w6_3 σ_3 hJ
      rw [L_X6_take_3] at hJ
      obtain ⟨r_3, hr_3, hJ⟩ := zlet_e hJ
      have ih3 : ∀ (w6_3 : Int32) (σ_3 : zS), r_3 w6_3 σ_3 = some σ' → zU G 8 p l e (zrm 1 23) s m args below meth c (MQ below (va_Qv (fun (_ : Unit) => True) (fun _ t => zok G 137 (zen G σ') t) (zA G)) args s 0 0 (zA G)) σ_3 3 [(0, .ref (G.1 + 89)), (1, .ref (G.1 + p1)), (2, .int a2), (3, .int a3), (4, .int a4), (5, .int a5), (6, .int w6_3)] [] := by
        rw [hr_3]
        exact ih
      refine zr_iload C 6 dX6_take_3 rfl ?_
      refine zr_bipush C dX6_take_5 (v := (16 : Int32)) (by decide) ?_
      refine zr_icmp_ge C 24 dX6_take_7 (by decide) (fun hc17 => ?_) (fun hc17 => ?_)
      · have hJ := zif hc17 hJ
        refine zr_sub [0, 1, 2, 3, 4, 5] [(0, .ref (G.1 + 89)), (1, .ref (G.1 + p1)), (2, .int a2), (3, .int a3), (4, .int a4), (5, .int a5)] rfl ?_
        exact hj24 _ hJ
      · have hJ := zif' hc17 hJ
        refine zr_aload_n C 0 dX6_take_10 rfl ?_
        refine zg_6_0 C 89 zk_89 zm_6_1 dX6_take_11 ?_
        refine zr_iload C 6 dX6_take_14 rfl ?_
        refine zr_iconst C dX6_take_16 (v := (0 : Int32)) (by decide) ?_
        obtain ⟨hg18, hJ⟩ := zg_e hJ
        obtain ⟨σ19, hσ19, hJ⟩ := zlet_e hJ
        refine zv_iast C 90 zk_90 hg18 hσ19 dX6_take_17 ?_
        obtain ⟨v20, hv20, hJ⟩ := zlet_e hJ
        refine zr_iinc C v20 6 [(6, .int v20), (0, .ref (G.1 + 89)), (1, .ref (G.1 + p1)), (2, .int a2), (3, .int a3), (4, .int a4), (5, .int a5)] dX6_take_18 rfl (hv20.trans (zinc (by decide))) (by decide) rfl ?_
        refine zr_goto C 3 dX6_take_21 (by decide) ?_
        refine zr_sub [1, 2, 3, 4, 5, 6, 0] [(0, .ref (G.1 + 89)), (1, .ref (G.1 + p1)), (2, .int a2), (3, .int a3), (4, .int a4), (5, .int a5), (6, .int v20)] rfl ?_
        exact ih3 _ _ hJ
  refine zr_sub [1, 2, 3, 4, 5, 6, 0] [(0, .ref (G.1 + 89)), (1, .ref (G.1 + p1)), (2, .int a2), (3, .int a3), (4, .int a4), (5, .int a5), (6, .int (0 : Int32))] rfl ?_
  exact hl3 _ _ _ hJ
theorem dX10_beats_0 : decode cX10_beats 0 = .ok (.iload_n 1, 1) := by decide +kernel
theorem dX10_beats_1 : decode cX10_beats 1 = .ok (.iload_n 2, 1) := by decide +kernel
theorem dX10_beats_2 : decode cX10_beats 2 = .ok (.iload_n 3, 1) := by decide +kernel
theorem dX10_beats_3 : decode cX10_beats 3 = .ok (.iconst 0, 1) := by decide +kernel
theorem dX10_beats_4 : decode cX10_beats 4 = .ok (.invokestatic 279, 3) := by decide +kernel
theorem dX10_beats_7 : decode cX10_beats 7 = .ok (.ifCond .eq 14, 3) := by decide +kernel
theorem dX10_beats_10 : decode cX10_beats 10 = .ok (.iload 4, 2) := by decide +kernel
theorem dX10_beats_12 : decode cX10_beats 12 = .ok (.ifCond .lt 9, 3) := by decide +kernel
theorem dX10_beats_15 : decode cX10_beats 15 = .ok (.iload 4, 2) := by decide +kernel
theorem dX10_beats_17 : decode cX10_beats 17 = .ok (.iconst 2, 1) := by decide +kernel
theorem dX10_beats_18 : decode cX10_beats 18 = .ok (.if_icmp .le 5, 3) := by decide +kernel
theorem dX10_beats_21 : decode cX10_beats 21 = .ok (.iconst (-1), 1) := by decide +kernel
theorem dX10_beats_22 : decode cX10_beats 22 = .ok (.ireturn, 1) := by decide +kernel
theorem dX10_beats_23 : decode cX10_beats 23 = .ok (.aload_n 0, 1) := by decide +kernel
theorem dX10_beats_24 : decode cX10_beats 24 = .ok (.getfield 19, 3) := by decide +kernel
theorem dX10_beats_27 : decode cX10_beats 27 = .ok (.iload_n 1, 1) := by decide +kernel
theorem dX10_beats_28 : decode cX10_beats 28 = .ok (.invokevirtual 148, 3) := by decide +kernel
theorem dX10_beats_31 : decode cX10_beats 31 = .ok (.istore 5, 2) := by decide +kernel
theorem dX10_beats_33 : decode cX10_beats 33 = .ok (.iload 5, 2) := by decide +kernel
theorem dX10_beats_35 : decode cX10_beats 35 = .ok (.i2l, 1) := by decide +kernel
theorem dX10_beats_36 : decode cX10_beats 36 = .ok (.iload_n 2, 1) := by decide +kernel
theorem dX10_beats_37 : decode cX10_beats 37 = .ok (.i2l, 1) := by decide +kernel
theorem dX10_beats_38 : decode cX10_beats 38 = .ok (.invokestatic 309, 3) := by decide +kernel
theorem dX10_beats_41 : decode cX10_beats 41 = .ok (.l2i, 1) := by decide +kernel
theorem dX10_beats_42 : decode cX10_beats 42 = .ok (.istore 6, 2) := by decide +kernel
theorem dX10_beats_44 : decode cX10_beats 44 = .ok (.iload 5, 2) := by decide +kernel
theorem dX10_beats_46 : decode cX10_beats 46 = .ok (.iconst 1, 1) := by decide +kernel
theorem dX10_beats_47 : decode cX10_beats 47 = .ok (.if_icmp .lt 9, 3) := by decide +kernel
theorem dX10_beats_50 : decode cX10_beats 50 = .ok (.iload 6, 2) := by decide +kernel
theorem dX10_beats_52 : decode cX10_beats 52 = .ok (.iconst 1, 1) := by decide +kernel
theorem dX10_beats_53 : decode cX10_beats 53 = .ok (.if_icmp .ge 5, 3) := by decide +kernel
theorem dX10_beats_56 : decode cX10_beats 56 = .ok (.iconst 0, 1) := by decide +kernel
theorem dX10_beats_57 : decode cX10_beats 57 = .ok (.ireturn, 1) := by decide +kernel
theorem dX10_beats_58 : decode cX10_beats 58 = .ok (.iload 4, 2) := by decide +kernel
theorem dX10_beats_60 : decode cX10_beats 60 = .ok (.iconst 2, 1) := by decide +kernel
theorem dX10_beats_61 : decode cX10_beats 61 = .ok (.if_icmp .ne 8, 3) := by decide +kernel
theorem dX10_beats_64 : decode cX10_beats 64 = .ok (.iload_n 2, 1) := by decide +kernel
theorem dX10_beats_65 : decode cX10_beats 65 = .ok (.iload 6, 2) := by decide +kernel
theorem dX10_beats_67 : decode cX10_beats 67 = .ok (.idiv, 1) := by decide +kernel
theorem dX10_beats_68 : decode cX10_beats 68 = .ok (.ireturn, 1) := by decide +kernel
theorem dX10_beats_69 : decode cX10_beats 69 = .ok (.aload_n 0, 1) := by decide +kernel
theorem dX10_beats_70 : decode cX10_beats 70 = .ok (.getfield 59, 3) := by decide +kernel
theorem dX10_beats_73 : decode cX10_beats 73 = .ok (.aload_n 0, 1) := by decide +kernel
theorem dX10_beats_74 : decode cX10_beats 74 = .ok (.getfield 19, 3) := by decide +kernel
theorem dX10_beats_77 : decode cX10_beats 77 = .ok (.iload_n 1, 1) := by decide +kernel
theorem dX10_beats_78 : decode cX10_beats 78 = .ok (.iload 6, 2) := by decide +kernel
theorem dX10_beats_80 : decode cX10_beats 80 = .ok (.iload_n 3, 1) := by decide +kernel
theorem dX10_beats_81 : decode cX10_beats 81 = .ok (.iload 6, 2) := by decide +kernel
theorem dX10_beats_83 : decode cX10_beats 83 = .ok (.irem, 1) := by decide +kernel
theorem dX10_beats_84 : decode cX10_beats 84 = .ok (.iconst 0, 1) := by decide +kernel
theorem dX10_beats_85 : decode cX10_beats 85 = .ok (.invokevirtual 283, 3) := by decide +kernel
theorem dX10_beats_88 : decode cX10_beats 88 = .ok (.aload_n 0, 1) := by decide +kernel
theorem dX10_beats_89 : decode cX10_beats 89 = .ok (.getfield 59, 3) := by decide +kernel
theorem dX10_beats_92 : decode cX10_beats 92 = .ok (.invokevirtual 293, 3) := by decide +kernel
theorem dX10_beats_95 : decode cX10_beats 95 = .ok (.istore 7, 2) := by decide +kernel
theorem dX10_beats_97 : decode cX10_beats 97 = .ok (.iload 4, 2) := by decide +kernel
theorem dX10_beats_99 : decode cX10_beats 99 = .ok (.ifCond .ne 8, 3) := by decide +kernel
theorem dX10_beats_102 : decode cX10_beats 102 = .ok (.iload 7, 2) := by decide +kernel
theorem dX10_beats_104 : decode cX10_beats 104 = .ok (.goto 16, 3) := by decide +kernel
theorem dX10_beats_107 : decode cX10_beats 107 = .ok (.aload_n 0, 1) := by decide +kernel
theorem dX10_beats_108 : decode cX10_beats 108 = .ok (.getfield 19, 3) := by decide +kernel
theorem dX10_beats_111 : decode cX10_beats 111 = .ok (.iload_n 1, 1) := by decide +kernel
theorem dX10_beats_112 : decode cX10_beats 112 = .ok (.invokevirtual 296, 3) := by decide +kernel
theorem dX10_beats_115 : decode cX10_beats 115 = .ok (.iload 7, 2) := by decide +kernel
theorem dX10_beats_117 : decode cX10_beats 117 = .ok (.iconst (-1), 1) := by decide +kernel
theorem dX10_beats_118 : decode cX10_beats 118 = .ok (.ixor, 1) := by decide +kernel
theorem dX10_beats_119 : decode cX10_beats 119 = .ok (.iand, 1) := by decide +kernel
theorem dX10_beats_120 : decode cX10_beats 120 = .ok (.ireturn, 1) := by decide +kernel
set_option maxRecDepth 100000 in
set_option maxHeartbeats 4000000 in
theorem M_X10_beats (G : zG) (l : Launch) {a1 : Int32} {a2 : Int32} {a3 : Int32} {a4 : Int32} {σ : zS} {r : Int32} {σ' : zS} (hJ : J_X10_beats a1 a2 a3 a4 σ = some (r, σ')) : zMI G l yX10_beats cX10_beats 8 (some .int) (zrm 2 50) [.ref (G.1 + 0), .int a1, .int a2, .int a3, .int a4] 137 (zen G σ) r 137 (zen G σ') := by
  unfold J_X10_beats at hJ
  refine zentI (by decide +kernel) (Nat.le_of_ble_eq_true rfl) ?_
  intro p e s m args below meth c C hret
  refine zr_sub [0, 1, 2, 3, 4] [(0, .ref (G.1 + 0)), (1, .int a1), (2, .int a2), (3, .int a3), (4, .int a4)] rfl ?_
  refine zr_iload_n C 1 dX10_beats_0 rfl ?_
  refine zr_iload_n C 2 dX10_beats_1 rfl ?_
  refine zr_iload_n C 3 dX10_beats_2 rfl ?_
  refine zr_iconst C dX10_beats_3 (v := (0 : Int32)) (by decide) ?_
  obtain ⟨r1, hr1, hJ⟩ := zb_e hJ
  refine zr_callSI C (M_X10_areSamples G l hr1) zin_X10_areSamples zm_37_13 rfl rfl (Nat.le_of_ble_eq_true rfl) ⟨Nat.le_of_ble_eq_true rfl, Nat.le_of_ble_eq_true rfl⟩ ⟨Nat.le_of_ble_eq_true rfl, Nat.le_of_ble_eq_true rfl⟩ dX10_beats_4 ?_
  refine zr_if_eq C 21 dX10_beats_7 (by decide) (fun hc2 => ?_) (fun hc2 => ?_)
  · have hJ := zif hc2 hJ
    refine zr_iconst C dX10_beats_21 (v := (-1 : Int32)) (by decide) ?_
    exact zr_iret C hret (Prod.mk.inj (zs_e hJ)).1 rfl (congrArg (zen G) (Prod.mk.inj (zs_e hJ)).2) dX10_beats_22
  · have hJ := zif' hc2 hJ
    refine zr_iload C 4 dX10_beats_10 rfl ?_
    refine zr_if_lt C 21 dX10_beats_12 (by decide) (fun hc3 => ?_) (fun hc3 => ?_)
    · have hJ := zif hc3 hJ
      refine zr_iconst C dX10_beats_21 (v := (-1 : Int32)) (by decide) ?_
      exact zr_iret C hret (Prod.mk.inj (zs_e hJ)).1 rfl (congrArg (zen G) (Prod.mk.inj (zs_e hJ)).2) dX10_beats_22
    · have hJ := zif' hc3 hJ
      refine zr_iload C 4 dX10_beats_15 rfl ?_
      refine zr_iconst C dX10_beats_17 (v := (2 : Int32)) (by decide) ?_
      refine zr_icmp_le C 23 dX10_beats_18 (by decide) (fun hc4 => ?_) (fun hc4 => ?_)
      · have hJ := zif hc4 hJ
        refine zr_aload_n C 0 dX10_beats_23 rfl ?_
        obtain ⟨p5, hp5, hJ⟩ := zlet_e hJ
        obtain ⟨hp6, hJ⟩ := zg_e hJ
        refine zg_10_1 C 0 zk_0 zm_1_20 dX10_beats_24 ?_
        refine zr_topr hp5 ?_
        refine zr_iload_n C 1 dX10_beats_27 rfl ?_
        obtain ⟨r7, hr7, hJ⟩ := zb_e hJ
        refine zr_callVI C p5 (zk_lt (zkP_0 hp6) (by decide)) (zen_obj (zkP_0 hp6)) (rfl : zcl[3]? = some (RX3, TX3, 19)) (M_X3_total G l hp6 hr7) zin_X3_total zm_22_11 rfl rfl (Nat.le_of_ble_eq_true rfl) ⟨Nat.le_of_ble_eq_true rfl, Nat.le_of_ble_eq_true rfl⟩ ⟨Nat.le_of_ble_eq_true rfl, Nat.le_of_ble_eq_true rfl⟩ dX10_beats_28 ?_
        refine zr_istore C [(5, .int r7), (0, .ref (G.1 + 0)), (1, .int a1), (2, .int a2), (3, .int a3), (4, .int a4)] dX10_beats_31 (by decide) rfl ?_
        refine zr_iload C 0 dX10_beats_33 rfl ?_
        refine zr_i2l C dX10_beats_35 ?_
        refine zr_iload_n C 3 dX10_beats_36 rfl ?_
        refine zr_i2l C dX10_beats_37 ?_
        obtain ⟨r8, hr8, hJ⟩ := zb_e hJ
        refine zr_callSL C (M_X10_commonDivisor G l hr8) zin_X10_commonDivisor zm_23_17 rfl rfl (Nat.le_of_ble_eq_true rfl) ⟨Nat.le_of_ble_eq_true rfl, Nat.le_of_ble_eq_true rfl⟩ ⟨Nat.le_of_ble_eq_true rfl, Nat.le_of_ble_eq_true rfl⟩ dX10_beats_38 ?_
        refine zr_l2i C dX10_beats_41 ?_
        obtain ⟨v9, hv9, hJ⟩ := zlet_e hJ
        refine zr_topi hv9 ?_
        refine zr_istore C [(6, .int v9), (5, .int r7), (0, .ref (G.1 + 0)), (1, .int a1), (2, .int a2), (3, .int a3), (4, .int a4)] dX10_beats_42 (by decide) rfl ?_
        refine zr_iload C 1 dX10_beats_44 rfl ?_
        refine zr_iconst C dX10_beats_46 (v := (1 : Int32)) (by decide) ?_
        refine zr_icmp_lt C 56 dX10_beats_47 (by decide) (fun hc10 => ?_) (fun hc10 => ?_)
        · have hJ := zif hc10 hJ
          refine zr_iconst C dX10_beats_56 (v := (0 : Int32)) (by decide) ?_
          exact zr_iret C hret (Prod.mk.inj (zs_e hJ)).1 rfl (congrArg (zen G) (Prod.mk.inj (zs_e hJ)).2) dX10_beats_57
        · have hJ := zif' hc10 hJ
          refine zr_iload C 0 dX10_beats_50 rfl ?_
          refine zr_iconst C dX10_beats_52 (v := (1 : Int32)) (by decide) ?_
          refine zr_icmp_ge C 58 dX10_beats_53 (by decide) (fun hc11 => ?_) (fun hc11 => ?_)
          · have hJ := zif hc11 hJ
            refine zr_iload C 6 dX10_beats_58 rfl ?_
            refine zr_iconst C dX10_beats_60 (v := (2 : Int32)) (by decide) ?_
            refine zr_icmp_ne C 69 dX10_beats_61 (by decide) (fun hc12 => ?_) (fun hc12 => ?_)
            · have hJ := zif' hc12 hJ
              refine zr_aload_n C 2 dX10_beats_69 rfl ?_
              refine zg_10_7 C 0 zk_0 zm_2_17 dX10_beats_70 ?_
              refine zr_aload_n C 2 dX10_beats_73 rfl ?_
              obtain ⟨p13, hp13, hJ⟩ := zlet_e hJ
              obtain ⟨hp14, hJ⟩ := zg_e hJ
              refine zg_10_1 C 0 zk_0 zm_1_20 dX10_beats_74 ?_
              refine zr_topr hp13 ?_
              refine zr_iload_n C 3 dX10_beats_77 rfl ?_
              refine zr_iload C 0 dX10_beats_78 rfl ?_
              refine zr_iload_n C 5 dX10_beats_80 rfl ?_
              refine zr_iload C 0 dX10_beats_81 rfl ?_
              obtain ⟨hn15, hJ⟩ := zn_e hJ
              refine zr_irem C dX10_beats_83 hn15 ?_
              refine zr_iconst C dX10_beats_84 (v := (0 : Int32)) (by decide) ?_
              obtain ⟨σ17, hr16, hJ⟩ := zb_e hJ
              refine zr_callVV C 89 (zk_lt zk_89 (by decide)) (zen_obj zk_89) (rfl : zcl[6]? = some (RX6, TX6, 3)) (M_X6_take G l hp14 hr16) zin_X6_take zm_37_16 rfl rfl (Nat.le_of_ble_eq_true rfl) ⟨Nat.le_of_ble_eq_true rfl, Nat.le_of_ble_eq_true rfl⟩ ⟨Nat.le_of_ble_eq_true rfl, Nat.le_of_ble_eq_true rfl⟩ dX10_beats_85 ?_
              refine zr_aload_n C 2 dX10_beats_88 rfl ?_
              refine zg_10_7 C 0 zk_0 zm_2_17 dX10_beats_89 ?_
              obtain ⟨r18, hr18, hJ⟩ := zb_e hJ
              refine zr_callVI C 89 (zk_lt zk_89 (by decide)) (zen_obj zk_89) (rfl : zcl[6]? = some (RX6, TX6, 3)) (M_X6_linesShown G l hr18) zin_X6_linesShown zm_39_0 rfl rfl (Nat.le_of_ble_eq_true rfl) ⟨Nat.le_of_ble_eq_true rfl, Nat.le_of_ble_eq_true rfl⟩ ⟨Nat.le_of_ble_eq_true rfl, Nat.le_of_ble_eq_true rfl⟩ dX10_beats_92 ?_
              refine zr_istore C [(7, .int r18), (6, .int v9), (5, .int r7), (0, .ref (G.1 + 0)), (1, .int a1), (2, .int a2), (3, .int a3), (4, .int a4)] dX10_beats_95 (by decide) rfl ?_
              refine zr_iload C 7 dX10_beats_97 rfl ?_
              refine zr_if_ne C 107 dX10_beats_99 (by decide) (fun hc19 => ?_) (fun hc19 => ?_)
              · have hJ := zif' hc19 hJ
                refine zr_aload_n C 3 dX10_beats_107 rfl ?_
                obtain ⟨p20, hp20, hJ⟩ := zlet_e hJ
                obtain ⟨hp21, hJ⟩ := zg_e hJ
                refine zg_10_1 C 0 zk_0 zm_1_20 dX10_beats_108 ?_
                refine zr_topr hp20 ?_
                refine zr_iload_n C 4 dX10_beats_111 rfl ?_
                obtain ⟨r22, hr22, hJ⟩ := zb_e hJ
                refine zr_callVI C p20 (zk_lt (zkP_0 hp21) (by decide)) (zen_obj (zkP_0 hp21)) (rfl : zcl[3]? = some (RX3, TX3, 19)) (M_X3_linesThatMake G l hp21 hr22) zin_X3_linesThatMake zm_39_4 rfl rfl (Nat.le_of_ble_eq_true rfl) ⟨Nat.le_of_ble_eq_true rfl, Nat.le_of_ble_eq_true rfl⟩ ⟨Nat.le_of_ble_eq_true rfl, Nat.le_of_ble_eq_true rfl⟩ dX10_beats_112 ?_
                refine zr_iload C 0 dX10_beats_115 rfl ?_
                refine zr_iconst C dX10_beats_117 (v := (-1 : Int32)) (by decide) ?_
                refine zr_ixor C dX10_beats_118 ?_
                refine zr_iand C dX10_beats_119 ?_
                exact zr_iret C hret (Prod.mk.inj (zs_e hJ)).1 rfl (congrArg (zen G) (Prod.mk.inj (zs_e hJ)).2) dX10_beats_120
              · have hJ := zif hc19 hJ
                refine zr_iload C 0 dX10_beats_102 rfl ?_
                refine zr_goto C 120 dX10_beats_104 (by decide) ?_
                exact zr_iret C hret (Prod.mk.inj (zs_e hJ)).1 rfl (congrArg (zen G) (Prod.mk.inj (zs_e hJ)).2) dX10_beats_120
            · have hJ := zif hc12 hJ
              refine zr_iload_n C 4 dX10_beats_64 rfl ?_
              refine zr_iload C 0 dX10_beats_65 rfl ?_
              obtain ⟨hn23, hJ⟩ := zn_e hJ
              refine zr_idiv C dX10_beats_67 hn23 ?_
              exact zr_iret C hret (Prod.mk.inj (zs_e hJ)).1 rfl (congrArg (zen G) (Prod.mk.inj (zs_e hJ)).2) dX10_beats_68
          · have hJ := zif' hc11 hJ
            refine zr_iconst C dX10_beats_56 (v := (0 : Int32)) (by decide) ?_
            exact zr_iret C hret (Prod.mk.inj (zs_e hJ)).1 rfl (congrArg (zen G) (Prod.mk.inj (zs_e hJ)).2) dX10_beats_57
      · have hJ := zif' hc4 hJ
        refine zr_iconst C dX10_beats_21 (v := (-1 : Int32)) (by decide) ?_
        exact zr_iret C hret (Prod.mk.inj (zs_e hJ)).1 rfl (congrArg (zen G) (Prod.mk.inj (zs_e hJ)).2) dX10_beats_22
theorem dX3_made_0 : decode cX3_made 0 = .ok (.iload_n 1, 1) := by decide +kernel
theorem dX3_made_1 : decode cX3_made 1 = .ok (.aload_n 0, 1) := by decide +kernel
theorem dX3_made_2 : decode cX3_made 2 = .ok (.getfield 9, 3) := by decide +kernel
theorem dX3_made_5 : decode cX3_made 5 = .ok (.if_icmp .ge 21, 3) := by decide +kernel
theorem dX3_made_8 : decode cX3_made 8 = .ok (.aload_n 0, 1) := by decide +kernel
theorem dX3_made_9 : decode cX3_made 9 = .ok (.getfield 19, 3) := by decide +kernel
theorem dX3_made_12 : decode cX3_made 12 = .ok (.iload_n 1, 1) := by decide +kernel
theorem dX3_made_13 : decode cX3_made 13 = .ok (.iaload, 1) := by decide +kernel
theorem dX3_made_14 : decode cX3_made 14 = .ok (.aload_n 0, 1) := by decide +kernel
theorem dX3_made_15 : decode cX3_made 15 = .ok (.getfield 27, 3) := by decide +kernel
theorem dX3_made_18 : decode cX3_made 18 = .ok (.iload_n 1, 1) := by decide +kernel
theorem dX3_made_19 : decode cX3_made 19 = .ok (.aaload, 1) := by decide +kernel
theorem dX3_made_20 : decode cX3_made 20 = .ok (.iload_n 2, 1) := by decide +kernel
theorem dX3_made_21 : decode cX3_made 21 = .ok (.iaload, 1) := by decide +kernel
theorem dX3_made_22 : decode cX3_made 22 = .ok (.imul, 1) := by decide +kernel
theorem dX3_made_23 : decode cX3_made 23 = .ok (.goto 4, 3) := by decide +kernel
theorem dX3_made_26 : decode cX3_made 26 = .ok (.iconst 0, 1) := by decide +kernel
theorem dX3_made_27 : decode cX3_made 27 = .ok (.ireturn, 1) := by decide +kernel
set_option maxRecDepth 100000 in
set_option maxHeartbeats 4000000 in
theorem M_X3_made (G : zG) (l : Launch) {p0 : Nat} (hp0 : zP p0 = true) {a1 : Int32} {a2 : Int32} {σ : zS} {r : Int32} (hJ : J_X3_made p0 a1 a2 σ = some r) : zMI G l yX3_made cX3_made 3 (some .int) (zrm 0 0) [.ref (G.1 + p0), .int a1, .int a2] 137 (zen G σ) r 137 (zen G σ) := by
  unfold J_X3_made at hJ
  refine zentI (by decide +kernel) (Nat.le_of_ble_eq_true rfl) ?_
  intro p e s m args below meth c C hret
  refine zr_sub [0, 1, 2] [(0, .ref (G.1 + p0)), (1, .int a1), (2, .int a2)] rfl ?_
  refine zr_iload_n C 1 dX3_made_0 rfl ?_
  refine zr_aload_n C 0 dX3_made_1 rfl ?_
  refine zg_3_0 C p0 (zkP_0 hp0) zm_3_16 dX3_made_2 ?_
  refine zr_icmp_ge C 26 dX3_made_5 (by decide) (fun hc1 => ?_) (fun hc1 => ?_)
  · have hJ := zif hc1 hJ
    refine zr_iconst C dX3_made_26 (v := (0 : Int32)) (by decide) ?_
    exact zr_iret C hret (zs_e hJ) rfl rfl dX3_made_27
  · have hJ := zif' hc1 hJ
    refine zr_aload_n C 0 dX3_made_8 rfl ?_
    refine zg_3_2 C p0 (zkP_0 hp0) zm_3_19 dX3_made_9 ?_
    refine zr_iload_n C 1 dX3_made_12 rfl ?_
    obtain ⟨hg2, hJ⟩ := zg_e hJ
    refine zu_iald C (p0 + 2) (zkP_2 hp0) hg2 dX3_made_13 ?_
    refine zr_aload_n C 0 dX3_made_14 rfl ?_
    refine zg_3_4 C p0 (zkP_0 hp0) zm_3_22 dX3_made_15 ?_
    refine zr_iload_n C 1 dX3_made_18 rfl ?_
    obtain ⟨hg3, hJ⟩ := zg_e hJ
    refine zu_aald C (p0 + 4) (zkP_4 hp0) hg3 dX3_made_19 ?_
    refine zr_iload_n C 2 dX3_made_20 rfl ?_
    obtain ⟨hg4, hJ⟩ := zg_e hJ
    refine zu_iald C ((p0 + 4) + 1 + a1.toNatClampNeg) (zk_rowP hp0 (zi_lt hg3)) hg4 dX3_made_21 ?_
    refine zr_imul C dX3_made_22 ?_
    refine zr_goto C 27 dX3_made_23 (by decide) ?_
    exact zr_iret C hret (zs_e hJ) rfl rfl dX3_made_27
theorem dX1_difference_0 : decode cX1_difference 0 = .ok (.aload_n 1, 1) := by decide +kernel
theorem dX1_difference_1 : decode cX1_difference 1 = .ok (.iload_n 2, 1) := by decide +kernel
theorem dX1_difference_2 : decode cX1_difference 2 = .ok (.iload_n 3, 1) := by decide +kernel
theorem dX1_difference_3 : decode cX1_difference 3 = .ok (.invokevirtual 16, 3) := by decide +kernel
theorem dX1_difference_6 : decode cX1_difference 6 = .ok (.aload_n 0, 1) := by decide +kernel
theorem dX1_difference_7 : decode cX1_difference 7 = .ok (.getfield 11, 3) := by decide +kernel
theorem dX1_difference_10 : decode cX1_difference 10 = .ok (.iload_n 2, 1) := by decide +kernel
theorem dX1_difference_11 : decode cX1_difference 11 = .ok (.aaload, 1) := by decide +kernel
theorem dX1_difference_12 : decode cX1_difference 12 = .ok (.iload_n 3, 1) := by decide +kernel
theorem dX1_difference_13 : decode cX1_difference 13 = .ok (.iaload, 1) := by decide +kernel
theorem dX1_difference_14 : decode cX1_difference 14 = .ok (.isub, 1) := by decide +kernel
theorem dX1_difference_15 : decode cX1_difference 15 = .ok (.ireturn, 1) := by decide +kernel
set_option maxRecDepth 100000 in
set_option maxHeartbeats 4000000 in
theorem M_X1_difference (G : zG) (l : Launch) {p1 : Nat} (hp1 : zP p1 = true) {a2 : Int32} {a3 : Int32} {σ : zS} {r : Int32} (hJ : J_X1_difference p1 a2 a3 σ = some r) : zMI G l yX1_difference cX1_difference 4 (some .int) (zrm 1 22) [.ref (G.1 + 64), .ref (G.1 + p1), .int a2, .int a3] 137 (zen G σ) r 137 (zen G σ) := by
  unfold J_X1_difference at hJ
  refine zentI (by decide +kernel) (Nat.le_of_ble_eq_true rfl) ?_
  intro p e s m args below meth c C hret
  refine zr_sub [0, 1, 2, 3] [(0, .ref (G.1 + 64)), (1, .ref (G.1 + p1)), (2, .int a2), (3, .int a3)] rfl ?_
  refine zr_aload_n C 1 dX1_difference_0 rfl ?_
  refine zr_iload_n C 2 dX1_difference_1 rfl ?_
  refine zr_iload_n C 3 dX1_difference_2 rfl ?_
  obtain ⟨r1, hr1, hJ⟩ := zb_e hJ
  refine zr_callVI C p1 (zk_lt (zkP_0 hp1) (by decide)) (zen_obj (zkP_0 hp1)) (rfl : zcl[3]? = some (RX3, TX3, 19)) (M_X3_made G l hp1 hr1) zin_X3_made zm_27_19 rfl rfl (Nat.le_of_ble_eq_true rfl) ⟨Nat.le_of_ble_eq_true rfl, Nat.le_of_ble_eq_true rfl⟩ ⟨Nat.le_of_ble_eq_true rfl, Nat.le_of_ble_eq_true rfl⟩ dX1_difference_3 ?_
  refine zr_aload_n C 0 dX1_difference_6 rfl ?_
  refine zg_1_0 C 64 zk_64 zm_5_5 dX1_difference_7 ?_
  refine zr_iload_n C 2 dX1_difference_10 rfl ?_
  obtain ⟨hg2, hJ⟩ := zg_e hJ
  refine zu_aald C 65 zk_65 hg2 dX1_difference_11 ?_
  refine zr_iload_n C 3 dX1_difference_12 rfl ?_
  obtain ⟨hg3, hJ⟩ := zg_e hJ
  refine zu_iald C (65 + 1 + a2.toNatClampNeg) (zk_rowK (zi_lt hg2)) hg3 dX1_difference_13 ?_
  refine zr_isub C dX1_difference_14 ?_
  exact zr_iret C hret (zs_e hJ) rfl rfl dX1_difference_15
theorem dX1_farthestLine_0 : decode cX1_farthestLine 0 = .ok (.bipush (-4), 2) := by decide +kernel
theorem dX1_farthestLine_2 : decode cX1_farthestLine 2 = .ok (.istore_n 3, 1) := by decide +kernel
theorem dX1_farthestLine_3 : decode cX1_farthestLine 3 = .ok (.iconst 0, 1) := by decide +kernel
theorem dX1_farthestLine_4 : decode cX1_farthestLine 4 = .ok (.istore 4, 2) := by decide +kernel
theorem dX1_farthestLine_6 : decode cX1_farthestLine 6 = .ok (.iconst 0, 1) := by decide +kernel
theorem dX1_farthestLine_7 : decode cX1_farthestLine 7 = .ok (.istore 5, 2) := by decide +kernel
theorem dX1_farthestLine_9 : decode cX1_farthestLine 9 = .ok (.iload 5, 2) := by decide +kernel
theorem dX1_farthestLine_11 : decode cX1_farthestLine 11 = .ok (.bipush 16, 2) := by decide +kernel
theorem dX1_farthestLine_13 : decode cX1_farthestLine 13 = .ok (.if_icmp .ge 36, 3) := by decide +kernel
theorem dX1_farthestLine_16 : decode cX1_farthestLine 16 = .ok (.aload_n 0, 1) := by decide +kernel
theorem dX1_farthestLine_17 : decode cX1_farthestLine 17 = .ok (.aload_n 1, 1) := by decide +kernel
theorem dX1_farthestLine_18 : decode cX1_farthestLine 18 = .ok (.iload 5, 2) := by decide +kernel
theorem dX1_farthestLine_20 : decode cX1_farthestLine 20 = .ok (.iload_n 2, 1) := by decide +kernel
theorem dX1_farthestLine_21 : decode cX1_farthestLine 21 = .ok (.invokevirtual 21, 3) := by decide +kernel
theorem dX1_farthestLine_24 : decode cX1_farthestLine 24 = .ok (.invokestatic 25, 3) := by decide +kernel
theorem dX1_farthestLine_27 : decode cX1_farthestLine 27 = .ok (.istore 6, 2) := by decide +kernel
theorem dX1_farthestLine_29 : decode cX1_farthestLine 29 = .ok (.iload 6, 2) := by decide +kernel
theorem dX1_farthestLine_31 : decode cX1_farthestLine 31 = .ok (.iload 4, 2) := by decide +kernel
theorem dX1_farthestLine_33 : decode cX1_farthestLine 33 = .ok (.if_icmp .le 10, 3) := by decide +kernel
theorem dX1_farthestLine_36 : decode cX1_farthestLine 36 = .ok (.iload 5, 2) := by decide +kernel
theorem dX1_farthestLine_38 : decode cX1_farthestLine 38 = .ok (.istore_n 3, 1) := by decide +kernel
theorem dX1_farthestLine_39 : decode cX1_farthestLine 39 = .ok (.iload 6, 2) := by decide +kernel
theorem dX1_farthestLine_41 : decode cX1_farthestLine 41 = .ok (.istore 4, 2) := by decide +kernel
theorem dX1_farthestLine_43 : decode cX1_farthestLine 43 = .ok (.iinc 5 1, 3) := by decide +kernel
theorem dX1_farthestLine_46 : decode cX1_farthestLine 46 = .ok (.goto (-37), 3) := by decide +kernel
theorem dX1_farthestLine_49 : decode cX1_farthestLine 49 = .ok (.iload_n 3, 1) := by decide +kernel
theorem dX1_farthestLine_50 : decode cX1_farthestLine 50 = .ok (.ireturn, 1) := by decide +kernel
set_option maxRecDepth 100000 in
set_option maxHeartbeats 4000000 in
theorem M_X1_farthestLine (G : zG) (l : Launch) {p1 : Nat} (hp1 : zP p1 = true) {a2 : Int32} {σ : zS} {r : Int32} (hJ : J_X1_farthestLine p1 a2 σ = some r) : zMI G l yX1_farthestLine cX1_farthestLine 7 (some .int) (zrm 2 45) [.ref (G.1 + 64), .ref (G.1 + p1), .int a2] 137 (zen G σ) r 137 (zen G σ) := by
  unfold J_X1_farthestLine at hJ
  refine zentI (by decide +kernel) (Nat.le_of_ble_eq_true rfl) ?_
  intro p e s m args below meth c C hret
  refine zr_sub [0, 1, 2] [(0, .ref (G.1 + 64)), (1, .ref (G.1 + p1)), (2, .int a2)] rfl ?_
  refine zr_bipush C dX1_farthestLine_0 (v := (-4 : Int32)) (by decide) ?_
  refine zr_istore_n C [(3, .int (-4 : Int32)), (0, .ref (G.1 + 64)), (1, .ref (G.1 + p1)), (2, .int a2)] dX1_farthestLine_2 (by decide) rfl ?_
  refine zr_iconst C dX1_farthestLine_3 (v := (0 : Int32)) (by decide) ?_
  refine zr_istore C [(4, .int (0 : Int32)), (3, .int (-4 : Int32)), (0, .ref (G.1 + 64)), (1, .ref (G.1 + p1)), (2, .int a2)] dX1_farthestLine_4 (by decide) rfl ?_
  refine zr_iconst C dX1_farthestLine_6 (v := (0 : Int32)) (by decide) ?_
  refine zr_istore C [(5, .int (0 : Int32)), (4, .int (0 : Int32)), (3, .int (-4 : Int32)), (0, .ref (G.1 + 64)), (1, .ref (G.1 + p1)), (2, .int a2)] dX1_farthestLine_7 (by decide) rfl ?_
  have hl9 : ∀ (n : Nat) (w3_9 : Int32) (w4_9 : Int32) (w5_9 : Int32), L_X1_farthestLine_9 p1 a2 σ n w3_9 w4_9 w5_9 = some r → zU G 7 p l e (zrm 2 45) s m args below meth c (MQ below (va_Qi (fun x (_ : Unit) => x = r) (fun _ t => zok G 137 (zen G σ) t) (zA G)) args s 0 0 (zA G)) σ 9 [(0, .ref (G.1 + 64)), (1, .ref (G.1 + p1)), (2, .int a2), (3, .int w3_9), (4, .int w4_9), (5, .int w5_9)] [] := by
    intro n
    induction n with
    | zero =>
      intro w3_9 w4_9 w5_9 hJ
      rw [L_X1_farthestLine_9] at hJ
      cases hJ
    | succ n ih =>
      intro w3_9 w4_9 w5_9 hJ
      rw [L_X1_farthestLine_9] at hJ
      obtain ⟨r_9, hr_9, hJ⟩ := zlet_e hJ
      have ih9 : ∀ (w3_9 : Int32) (w4_9 : Int32) (w5_9 : Int32), r_9 w3_9 w4_9 w5_9 = some r → zU G 7 p l e (zrm 2 45) s m args below meth c (MQ below (va_Qi (fun x (_ : Unit) => x = r) (fun _ t => zok G 137 (zen G σ) t) (zA G)) args s 0 0 (zA G)) σ 9 [(0, .ref (G.1 + 64)), (1, .ref (G.1 + p1)), (2, .int a2), (3, .int w3_9), (4, .int w4_9), (5, .int w5_9)] [] := by
        rw [hr_9]
        exact ih
      refine zr_iload C 5 dX1_farthestLine_9 rfl ?_
      refine zr_bipush C dX1_farthestLine_11 (v := (16 : Int32)) (by decide) ?_
      refine zr_icmp_ge C 49 dX1_farthestLine_13 (by decide) (fun hc1 => ?_) (fun hc1 => ?_)
      · have hJ := zif hc1 hJ
        refine zr_iload_n C 3 dX1_farthestLine_49 rfl ?_
        exact zr_iret C hret (zs_e hJ) rfl rfl dX1_farthestLine_50
      · have hJ := zif' hc1 hJ
        refine zr_aload_n C 0 dX1_farthestLine_16 rfl ?_
        refine zr_aload_n C 1 dX1_farthestLine_17 rfl ?_
        refine zr_iload C 5 dX1_farthestLine_18 rfl ?_
        refine zr_iload_n C 2 dX1_farthestLine_20 rfl ?_
        obtain ⟨r2, hr2, hJ⟩ := zb_e hJ
        refine zr_callVI C 64 (zk_lt zk_64 (by decide)) (zen_obj zk_64) (rfl : zcl[1]? = some (RX1, TX1, 1)) (M_X1_difference G l hp1 hr2) zin_X1_difference zm_28_13 rfl rfl (Nat.le_of_ble_eq_true rfl) ⟨Nat.le_of_ble_eq_true rfl, Nat.le_of_ble_eq_true rfl⟩ ⟨Nat.le_of_ble_eq_true rfl, Nat.le_of_ble_eq_true rfl⟩ dX1_farthestLine_21 ?_
        refine zr_mabs C zm_28_21 zMs_abs zMi zMc_abs (Nat.le_of_ble_eq_true rfl) (Nat.le_of_ble_eq_true rfl) ⟨Nat.le_of_ble_eq_true rfl, Nat.le_of_ble_eq_true rfl⟩ dX1_farthestLine_24 ?_
        obtain ⟨v3, hv3, hJ⟩ := zlet_e hJ
        refine zr_topi hv3 ?_
        refine zr_istore C [(6, .int v3), (0, .ref (G.1 + 64)), (1, .ref (G.1 + p1)), (2, .int a2), (3, .int w3_9), (4, .int w4_9), (5, .int w5_9)] dX1_farthestLine_27 (by decide) rfl ?_
        refine zr_iload C 0 dX1_farthestLine_29 rfl ?_
        refine zr_iload C 5 dX1_farthestLine_31 rfl ?_
        obtain ⟨v4, hv4, hJ⟩ := zlet_e hJ
        obtain ⟨v5, hv5, hJ⟩ := zlet_e hJ
        have hf7 : zU G 7 p l e (zrm 2 45) s m args below meth c (MQ below (va_Qi (fun x (_ : Unit) => x = r) (fun _ t => zok G 137 (zen G σ) t) (zA G)) args s 0 0 (zA G)) σ 43 [(0, .ref (G.1 + 64)), (1, .ref (G.1 + p1)), (2, .int a2), (3, .int v4), (4, .int v5), (5, .int w5_9)] [] := by
          obtain ⟨v6, hv6, hJ⟩ := zlet_e hJ
          refine zr_iinc C v6 5 [(5, .int v6), (0, .ref (G.1 + 64)), (1, .ref (G.1 + p1)), (2, .int a2), (3, .int v4), (4, .int v5)] dX1_farthestLine_43 rfl (hv6.trans (zinc (by decide))) (by decide) rfl ?_
          refine zr_goto C 9 dX1_farthestLine_46 (by decide) ?_
          refine zr_sub [1, 2, 3, 4, 5, 0] [(0, .ref (G.1 + 64)), (1, .ref (G.1 + p1)), (2, .int a2), (3, .int v4), (4, .int v5), (5, .int v6)] rfl ?_
          exact ih9 _ _ _ hJ
        refine zr_icmp_le C 43 dX1_farthestLine_33 (by decide) (fun hc8 => ?_) (fun hc8 => ?_)
        · have hv4 := hv4.trans (if_pos hc8)
          have hv5 := hv5.trans (if_pos hc8)
          refine zr_sub [1, 2, 3, 4, 5, 6] [(0, .ref (G.1 + 64)), (1, .ref (G.1 + p1)), (2, .int a2), (3, .int w3_9), (4, .int w4_9), (5, .int w5_9)] rfl ?_
          rw [hv4, hv5] at hf7
          exact hf7
        · have hv4 := hv4.trans (if_neg hc8)
          have hv5 := hv5.trans (if_neg hc8)
          refine zr_iload C 6 dX1_farthestLine_36 rfl ?_
          refine zr_istore_n C [(3, .int w5_9), (6, .int v3), (0, .ref (G.1 + 64)), (1, .ref (G.1 + p1)), (2, .int a2), (4, .int w4_9), (5, .int w5_9)] dX1_farthestLine_38 (by decide) rfl ?_
          refine zr_iload C 1 dX1_farthestLine_39 rfl ?_
          refine zr_istore C [(4, .int v3), (3, .int w5_9), (6, .int v3), (0, .ref (G.1 + 64)), (1, .ref (G.1 + p1)), (2, .int a2), (5, .int w5_9)] dX1_farthestLine_41 (by decide) rfl ?_
          refine zr_sub [3, 4, 5, 1, 0, 6] [(0, .ref (G.1 + 64)), (1, .ref (G.1 + p1)), (2, .int a2), (3, .int w5_9), (4, .int v3), (5, .int w5_9)] rfl ?_
          rw [hv4, hv5] at hf7
          exact hf7
  refine zr_sub [3, 4, 5, 2, 1, 0] [(0, .ref (G.1 + 64)), (1, .ref (G.1 + p1)), (2, .int a2), (3, .int (-4 : Int32)), (4, .int (0 : Int32)), (5, .int (0 : Int32))] rfl ?_
  exact hl9 _ _ _ _ hJ
theorem dX1_linesThatDiffer_0 : decode cX1_linesThatDiffer 0 = .ok (.iconst 0, 1) := by decide +kernel
theorem dX1_linesThatDiffer_1 : decode cX1_linesThatDiffer 1 = .ok (.istore 4, 2) := by decide +kernel
theorem dX1_linesThatDiffer_3 : decode cX1_linesThatDiffer 3 = .ok (.iconst 0, 1) := by decide +kernel
theorem dX1_linesThatDiffer_4 : decode cX1_linesThatDiffer 4 = .ok (.istore 5, 2) := by decide +kernel
theorem dX1_linesThatDiffer_6 : decode cX1_linesThatDiffer 6 = .ok (.iload 5, 2) := by decide +kernel
theorem dX1_linesThatDiffer_8 : decode cX1_linesThatDiffer 8 = .ok (.bipush 16, 2) := by decide +kernel
theorem dX1_linesThatDiffer_10 : decode cX1_linesThatDiffer 10 = .ok (.if_icmp .ge 31, 3) := by decide +kernel
theorem dX1_linesThatDiffer_13 : decode cX1_linesThatDiffer 13 = .ok (.aload_n 0, 1) := by decide +kernel
theorem dX1_linesThatDiffer_14 : decode cX1_linesThatDiffer 14 = .ok (.aload_n 1, 1) := by decide +kernel
theorem dX1_linesThatDiffer_15 : decode cX1_linesThatDiffer 15 = .ok (.iload 5, 2) := by decide +kernel
theorem dX1_linesThatDiffer_17 : decode cX1_linesThatDiffer 17 = .ok (.iload_n 2, 1) := by decide +kernel
theorem dX1_linesThatDiffer_18 : decode cX1_linesThatDiffer 18 = .ok (.invokevirtual 21, 3) := by decide +kernel
theorem dX1_linesThatDiffer_21 : decode cX1_linesThatDiffer 21 = .ok (.iload_n 3, 1) := by decide +kernel
theorem dX1_linesThatDiffer_22 : decode cX1_linesThatDiffer 22 = .ok (.imul, 1) := by decide +kernel
theorem dX1_linesThatDiffer_23 : decode cX1_linesThatDiffer 23 = .ok (.ifCond .le 12, 3) := by decide +kernel
theorem dX1_linesThatDiffer_26 : decode cX1_linesThatDiffer 26 = .ok (.iload 4, 2) := by decide +kernel
theorem dX1_linesThatDiffer_28 : decode cX1_linesThatDiffer 28 = .ok (.iconst 1, 1) := by decide +kernel
theorem dX1_linesThatDiffer_29 : decode cX1_linesThatDiffer 29 = .ok (.iload 5, 2) := by decide +kernel
theorem dX1_linesThatDiffer_31 : decode cX1_linesThatDiffer 31 = .ok (.ishl, 1) := by decide +kernel
theorem dX1_linesThatDiffer_32 : decode cX1_linesThatDiffer 32 = .ok (.ior, 1) := by decide +kernel
theorem dX1_linesThatDiffer_33 : decode cX1_linesThatDiffer 33 = .ok (.istore 4, 2) := by decide +kernel
theorem dX1_linesThatDiffer_35 : decode cX1_linesThatDiffer 35 = .ok (.iinc 5 1, 3) := by decide +kernel
theorem dX1_linesThatDiffer_38 : decode cX1_linesThatDiffer 38 = .ok (.goto (-32), 3) := by decide +kernel
theorem dX1_linesThatDiffer_41 : decode cX1_linesThatDiffer 41 = .ok (.iload 4, 2) := by decide +kernel
theorem dX1_linesThatDiffer_43 : decode cX1_linesThatDiffer 43 = .ok (.ireturn, 1) := by decide +kernel
set_option maxRecDepth 100000 in
set_option maxHeartbeats 4000000 in
theorem M_X1_linesThatDiffer (G : zG) (l : Launch) {p1 : Nat} (hp1 : zP p1 = true) {a2 : Int32} {a3 : Int32} {σ : zS} {r : Int32} (hJ : J_X1_linesThatDiffer p1 a2 a3 σ = some r) : zMI G l yX1_linesThatDiffer cX1_linesThatDiffer 6 (some .int) (zrm 2 45) [.ref (G.1 + 64), .ref (G.1 + p1), .int a2, .int a3] 137 (zen G σ) r 137 (zen G σ) := by
  unfold J_X1_linesThatDiffer at hJ
  refine zentI (by decide +kernel) (Nat.le_of_ble_eq_true rfl) ?_
  intro p e s m args below meth c C hret
  refine zr_sub [0, 1, 2, 3] [(0, .ref (G.1 + 64)), (1, .ref (G.1 + p1)), (2, .int a2), (3, .int a3)] rfl ?_
  refine zr_iconst C dX1_linesThatDiffer_0 (v := (0 : Int32)) (by decide) ?_
  refine zr_istore C [(4, .int (0 : Int32)), (0, .ref (G.1 + 64)), (1, .ref (G.1 + p1)), (2, .int a2), (3, .int a3)] dX1_linesThatDiffer_1 (by decide) rfl ?_
  refine zr_iconst C dX1_linesThatDiffer_3 (v := (0 : Int32)) (by decide) ?_
  refine zr_istore C [(5, .int (0 : Int32)), (4, .int (0 : Int32)), (0, .ref (G.1 + 64)), (1, .ref (G.1 + p1)), (2, .int a2), (3, .int a3)] dX1_linesThatDiffer_4 (by decide) rfl ?_
  have hl6 : ∀ (n : Nat) (w4_6 : Int32) (w5_6 : Int32), L_X1_linesThatDiffer_6 p1 a2 a3 σ n w4_6 w5_6 = some r → zU G 6 p l e (zrm 2 45) s m args below meth c (MQ below (va_Qi (fun x (_ : Unit) => x = r) (fun _ t => zok G 137 (zen G σ) t) (zA G)) args s 0 0 (zA G)) σ 6 [(0, .ref (G.1 + 64)), (1, .ref (G.1 + p1)), (2, .int a2), (3, .int a3), (4, .int w4_6), (5, .int w5_6)] [] := by
    intro n
    induction n with
    | zero =>
      intro w4_6 w5_6 hJ
      rw [L_X1_linesThatDiffer_6] at hJ
      cases hJ
    | succ n ih =>
      intro w4_6 w5_6 hJ
      rw [L_X1_linesThatDiffer_6] at hJ
      obtain ⟨r_6, hr_6, hJ⟩ := zlet_e hJ
      have ih6 : ∀ (w4_6 : Int32) (w5_6 : Int32), r_6 w4_6 w5_6 = some r → zU G 6 p l e (zrm 2 45) s m args below meth c (MQ below (va_Qi (fun x (_ : Unit) => x = r) (fun _ t => zok G 137 (zen G σ) t) (zA G)) args s 0 0 (zA G)) σ 6 [(0, .ref (G.1 + 64)), (1, .ref (G.1 + p1)), (2, .int a2), (3, .int a3), (4, .int w4_6), (5, .int w5_6)] [] := by
        rw [hr_6]
        exact ih
      refine zr_iload C 5 dX1_linesThatDiffer_6 rfl ?_
      refine zr_bipush C dX1_linesThatDiffer_8 (v := (16 : Int32)) (by decide) ?_
      refine zr_icmp_ge C 41 dX1_linesThatDiffer_10 (by decide) (fun hc1 => ?_) (fun hc1 => ?_)
      · have hJ := zif hc1 hJ
        refine zr_iload C 4 dX1_linesThatDiffer_41 rfl ?_
        exact zr_iret C hret (zs_e hJ) rfl rfl dX1_linesThatDiffer_43
      · have hJ := zif' hc1 hJ
        refine zr_aload_n C 0 dX1_linesThatDiffer_13 rfl ?_
        refine zr_aload_n C 1 dX1_linesThatDiffer_14 rfl ?_
        refine zr_iload C 5 dX1_linesThatDiffer_15 rfl ?_
        refine zr_iload_n C 2 dX1_linesThatDiffer_17 rfl ?_
        obtain ⟨r2, hr2, hJ⟩ := zb_e hJ
        refine zr_callVI C 64 (zk_lt zk_64 (by decide)) (zen_obj zk_64) (rfl : zcl[1]? = some (RX1, TX1, 1)) (M_X1_difference G l hp1 hr2) zin_X1_difference zm_28_13 rfl rfl (Nat.le_of_ble_eq_true rfl) ⟨Nat.le_of_ble_eq_true rfl, Nat.le_of_ble_eq_true rfl⟩ ⟨Nat.le_of_ble_eq_true rfl, Nat.le_of_ble_eq_true rfl⟩ dX1_linesThatDiffer_18 ?_
        refine zr_iload_n C 3 dX1_linesThatDiffer_21 rfl ?_
        refine zr_imul C dX1_linesThatDiffer_22 ?_
        obtain ⟨v3, hv3, hJ⟩ := zlet_e hJ
        have hf5 : zU G 6 p l e (zrm 2 45) s m args below meth c (MQ below (va_Qi (fun x (_ : Unit) => x = r) (fun _ t => zok G 137 (zen G σ) t) (zA G)) args s 0 0 (zA G)) σ 35 [(0, .ref (G.1 + 64)), (1, .ref (G.1 + p1)), (2, .int a2), (3, .int a3), (4, .int v3), (5, .int w5_6)] [] := by
          obtain ⟨v4, hv4, hJ⟩ := zlet_e hJ
          refine zr_iinc C v4 5 [(5, .int v4), (0, .ref (G.1 + 64)), (1, .ref (G.1 + p1)), (2, .int a2), (3, .int a3), (4, .int v3)] dX1_linesThatDiffer_35 rfl (hv4.trans (zinc (by decide))) (by decide) rfl ?_
          refine zr_goto C 6 dX1_linesThatDiffer_38 (by decide) ?_
          refine zr_sub [1, 2, 3, 4, 5, 0] [(0, .ref (G.1 + 64)), (1, .ref (G.1 + p1)), (2, .int a2), (3, .int a3), (4, .int v3), (5, .int v4)] rfl ?_
          exact ih6 _ _ hJ
        refine zr_if_le C 35 dX1_linesThatDiffer_23 (by decide) (fun hc6 => ?_) (fun hc6 => ?_)
        · have hv3 := hv3.trans (if_pos hc6)
          rw [hv3] at hf5
          exact hf5
        · have hv3 := hv3.trans (if_neg hc6)
          refine zr_iload C 4 dX1_linesThatDiffer_26 rfl ?_
          refine zr_iconst C dX1_linesThatDiffer_28 (v := (1 : Int32)) (by decide) ?_
          refine zr_iload C 5 dX1_linesThatDiffer_29 rfl ?_
          refine zr_ishl C dX1_linesThatDiffer_31 ?_
          refine zr_ior C dX1_linesThatDiffer_32 ?_
          refine zr_istore C [(4, .int (w4_6 ||| ((1 : Int32) <<< (w5_6 &&& 31)))), (0, .ref (G.1 + 64)), (1, .ref (G.1 + p1)), (2, .int a2), (3, .int a3), (5, .int w5_6)] dX1_linesThatDiffer_33 (by decide) rfl ?_
          refine zr_sub [1, 2, 3, 4, 0, 5] [(0, .ref (G.1 + 64)), (1, .ref (G.1 + p1)), (2, .int a2), (3, .int a3), (4, .int (w4_6 ||| ((1 : Int32) <<< (w5_6 &&& 31)))), (5, .int w5_6)] rfl ?_
          rw [hv3] at hf5
          exact hf5
  refine zr_sub [2, 3, 4, 5, 1, 0] [(0, .ref (G.1 + 64)), (1, .ref (G.1 + p1)), (2, .int a2), (3, .int a3), (4, .int (0 : Int32)), (5, .int (0 : Int32))] rfl ?_
  exact hl6 _ _ _ hJ
theorem dX1_total_0 : decode cX1_total 0 = .ok (.iconst 0, 1) := by decide +kernel
theorem dX1_total_1 : decode cX1_total 1 = .ok (.istore_n 2, 1) := by decide +kernel
theorem dX1_total_2 : decode cX1_total 2 = .ok (.iconst 0, 1) := by decide +kernel
theorem dX1_total_3 : decode cX1_total 3 = .ok (.istore_n 3, 1) := by decide +kernel
theorem dX1_total_4 : decode cX1_total 4 = .ok (.iload_n 3, 1) := by decide +kernel
theorem dX1_total_5 : decode cX1_total 5 = .ok (.bipush 16, 2) := by decide +kernel
theorem dX1_total_7 : decode cX1_total 7 = .ok (.if_icmp .ge 20, 3) := by decide +kernel
theorem dX1_total_10 : decode cX1_total 10 = .ok (.iload_n 2, 1) := by decide +kernel
theorem dX1_total_11 : decode cX1_total 11 = .ok (.aload_n 0, 1) := by decide +kernel
theorem dX1_total_12 : decode cX1_total 12 = .ok (.getfield 11, 3) := by decide +kernel
theorem dX1_total_15 : decode cX1_total 15 = .ok (.iload_n 3, 1) := by decide +kernel
theorem dX1_total_16 : decode cX1_total 16 = .ok (.aaload, 1) := by decide +kernel
theorem dX1_total_17 : decode cX1_total 17 = .ok (.iload_n 1, 1) := by decide +kernel
theorem dX1_total_18 : decode cX1_total 18 = .ok (.iaload, 1) := by decide +kernel
theorem dX1_total_19 : decode cX1_total 19 = .ok (.iadd, 1) := by decide +kernel
theorem dX1_total_20 : decode cX1_total 20 = .ok (.istore_n 2, 1) := by decide +kernel
theorem dX1_total_21 : decode cX1_total 21 = .ok (.iinc 3 1, 3) := by decide +kernel
theorem dX1_total_24 : decode cX1_total 24 = .ok (.goto (-20), 3) := by decide +kernel
theorem dX1_total_27 : decode cX1_total 27 = .ok (.iload_n 2, 1) := by decide +kernel
theorem dX1_total_28 : decode cX1_total 28 = .ok (.ireturn, 1) := by decide +kernel
set_option maxRecDepth 100000 in
set_option maxHeartbeats 4000000 in
theorem M_X1_total (G : zG) (l : Launch) {a1 : Int32} {σ : zS} {r : Int32} (hJ : J_X1_total a1 σ = some r) : zMI G l yX1_total cX1_total 4 (some .int) (zrm 0 0) [.ref (G.1 + 64), .int a1] 137 (zen G σ) r 137 (zen G σ) := by
  unfold J_X1_total at hJ
  refine zentI (by decide +kernel) (Nat.le_of_ble_eq_true rfl) ?_
  intro p e s m args below meth c C hret
  refine zr_sub [0, 1] [(0, .ref (G.1 + 64)), (1, .int a1)] rfl ?_
  refine zr_iconst C dX1_total_0 (v := (0 : Int32)) (by decide) ?_
  refine zr_istore_n C [(2, .int (0 : Int32)), (0, .ref (G.1 + 64)), (1, .int a1)] dX1_total_1 (by decide) rfl ?_
  refine zr_iconst C dX1_total_2 (v := (0 : Int32)) (by decide) ?_
  refine zr_istore_n C [(3, .int (0 : Int32)), (2, .int (0 : Int32)), (0, .ref (G.1 + 64)), (1, .int a1)] dX1_total_3 (by decide) rfl ?_
  have hl4 : ∀ (n : Nat) (w2_4 : Int32) (w3_4 : Int32), L_X1_total_4 a1 σ n w2_4 w3_4 = some r → zU G 4 p l e (zrm 0 0) s m args below meth c (MQ below (va_Qi (fun x (_ : Unit) => x = r) (fun _ t => zok G 137 (zen G σ) t) (zA G)) args s 0 0 (zA G)) σ 4 [(0, .ref (G.1 + 64)), (1, .int a1), (2, .int w2_4), (3, .int w3_4)] [] := by
    intro n
    induction n with
    | zero =>
      intro w2_4 w3_4 hJ
      rw [L_X1_total_4] at hJ
      cases hJ
    | succ n ih =>
      intro w2_4 w3_4 hJ
      rw [L_X1_total_4] at hJ
      obtain ⟨r_4, hr_4, hJ⟩ := zlet_e hJ
      have ih4 : ∀ (w2_4 : Int32) (w3_4 : Int32), r_4 w2_4 w3_4 = some r → zU G 4 p l e (zrm 0 0) s m args below meth c (MQ below (va_Qi (fun x (_ : Unit) => x = r) (fun _ t => zok G 137 (zen G σ) t) (zA G)) args s 0 0 (zA G)) σ 4 [(0, .ref (G.1 + 64)), (1, .int a1), (2, .int w2_4), (3, .int w3_4)] [] := by
        rw [hr_4]
        exact ih
      refine zr_iload_n C 3 dX1_total_4 rfl ?_
      refine zr_bipush C dX1_total_5 (v := (16 : Int32)) (by decide) ?_
      refine zr_icmp_ge C 27 dX1_total_7 (by decide) (fun hc1 => ?_) (fun hc1 => ?_)
      · have hJ := zif hc1 hJ
        refine zr_iload_n C 2 dX1_total_27 rfl ?_
        exact zr_iret C hret (zs_e hJ) rfl rfl dX1_total_28
      · have hJ := zif' hc1 hJ
        refine zr_iload_n C 2 dX1_total_10 rfl ?_
        refine zr_aload_n C 0 dX1_total_11 rfl ?_
        refine zg_1_0 C 64 zk_64 zm_5_5 dX1_total_12 ?_
        refine zr_iload_n C 3 dX1_total_15 rfl ?_
        obtain ⟨hg2, hJ⟩ := zg_e hJ
        refine zu_aald C 65 zk_65 hg2 dX1_total_16 ?_
        refine zr_iload_n C 1 dX1_total_17 rfl ?_
        obtain ⟨hg3, hJ⟩ := zg_e hJ
        refine zu_iald C (65 + 1 + w3_4.toNatClampNeg) (zk_rowK (zi_lt hg2)) hg3 dX1_total_18 ?_
        refine zr_iadd C dX1_total_19 ?_
        obtain ⟨v4, hv4, hJ⟩ := zlet_e hJ
        refine zr_topi hv4 ?_
        refine zr_istore_n C [(2, .int v4), (0, .ref (G.1 + 64)), (1, .int a1), (3, .int w3_4)] dX1_total_20 (by decide) rfl ?_
        obtain ⟨v5, hv5, hJ⟩ := zlet_e hJ
        refine zr_iinc C v5 3 [(3, .int v5), (2, .int v4), (0, .ref (G.1 + 64)), (1, .int a1)] dX1_total_21 rfl (hv5.trans (zinc (by decide))) (by decide) rfl ?_
        refine zr_goto C 4 dX1_total_24 (by decide) ?_
        refine zr_sub [2, 3, 1, 0] [(0, .ref (G.1 + 64)), (1, .int a1), (2, .int v4), (3, .int v5)] rfl ?_
        exact ih4 _ _ hJ
  refine zr_sub [2, 3, 1, 0] [(0, .ref (G.1 + 64)), (1, .int a1), (2, .int (0 : Int32)), (3, .int (0 : Int32))] rfl ?_
  exact hl4 _ _ _ hJ
theorem dX10_beside_0 : decode cX10_beside 0 = .ok (.iload_n 1, 1) := by decide +kernel
theorem dX10_beside_1 : decode cX10_beside 1 = .ok (.invokestatic 120, 3) := by decide +kernel
theorem dX10_beside_4 : decode cX10_beside 4 = .ok (.ifCond .ne 5, 3) := by decide +kernel
theorem dX10_beside_7 : decode cX10_beside 7 = .ok (.iconst (-1), 1) := by decide +kernel
theorem dX10_beside_8 : decode cX10_beside 8 = .ok (.ireturn, 1) := by decide +kernel
theorem dX10_beside_9 : decode cX10_beside 9 = .ok (.iload_n 2, 1) := by decide +kernel
theorem dX10_beside_10 : decode cX10_beside 10 = .ok (.tableswitch 93 0 4 #[34, 43, 52, 66, 80], 34) := by decide +kernel
theorem dX10_beside_44 : decode cX10_beside 44 = .ok (.aload_n 0, 1) := by decide +kernel
theorem dX10_beside_45 : decode cX10_beside 45 = .ok (.getfield 19, 3) := by decide +kernel
theorem dX10_beside_48 : decode cX10_beside 48 = .ok (.iload_n 1, 1) := by decide +kernel
theorem dX10_beside_49 : decode cX10_beside 49 = .ok (.invokevirtual 148, 3) := by decide +kernel
theorem dX10_beside_52 : decode cX10_beside 52 = .ok (.ireturn, 1) := by decide +kernel
theorem dX10_beside_53 : decode cX10_beside 53 = .ok (.aload_n 0, 1) := by decide +kernel
theorem dX10_beside_54 : decode cX10_beside 54 = .ok (.getfield 38, 3) := by decide +kernel
theorem dX10_beside_57 : decode cX10_beside 57 = .ok (.iload_n 1, 1) := by decide +kernel
theorem dX10_beside_58 : decode cX10_beside 58 = .ok (.invokevirtual 198, 3) := by decide +kernel
theorem dX10_beside_61 : decode cX10_beside 61 = .ok (.ireturn, 1) := by decide +kernel
theorem dX10_beside_62 : decode cX10_beside 62 = .ok (.aload_n 0, 1) := by decide +kernel
theorem dX10_beside_63 : decode cX10_beside 63 = .ok (.getfield 38, 3) := by decide +kernel
theorem dX10_beside_66 : decode cX10_beside 66 = .ok (.aload_n 0, 1) := by decide +kernel
theorem dX10_beside_67 : decode cX10_beside 67 = .ok (.getfield 19, 3) := by decide +kernel
theorem dX10_beside_70 : decode cX10_beside 70 = .ok (.iload_n 1, 1) := by decide +kernel
theorem dX10_beside_71 : decode cX10_beside 71 = .ok (.iconst 1, 1) := by decide +kernel
theorem dX10_beside_72 : decode cX10_beside 72 = .ok (.invokevirtual 199, 3) := by decide +kernel
theorem dX10_beside_75 : decode cX10_beside 75 = .ok (.ireturn, 1) := by decide +kernel
theorem dX10_beside_76 : decode cX10_beside 76 = .ok (.aload_n 0, 1) := by decide +kernel
theorem dX10_beside_77 : decode cX10_beside 77 = .ok (.getfield 38, 3) := by decide +kernel
theorem dX10_beside_80 : decode cX10_beside 80 = .ok (.aload_n 0, 1) := by decide +kernel
theorem dX10_beside_81 : decode cX10_beside 81 = .ok (.getfield 19, 3) := by decide +kernel
theorem dX10_beside_84 : decode cX10_beside 84 = .ok (.iload_n 1, 1) := by decide +kernel
theorem dX10_beside_85 : decode cX10_beside 85 = .ok (.iconst (-1), 1) := by decide +kernel
theorem dX10_beside_86 : decode cX10_beside 86 = .ok (.invokevirtual 199, 3) := by decide +kernel
theorem dX10_beside_89 : decode cX10_beside 89 = .ok (.ireturn, 1) := by decide +kernel
theorem dX10_beside_90 : decode cX10_beside 90 = .ok (.aload_n 0, 1) := by decide +kernel
theorem dX10_beside_91 : decode cX10_beside 91 = .ok (.getfield 38, 3) := by decide +kernel
theorem dX10_beside_94 : decode cX10_beside 94 = .ok (.aload_n 0, 1) := by decide +kernel
theorem dX10_beside_95 : decode cX10_beside 95 = .ok (.getfield 19, 3) := by decide +kernel
theorem dX10_beside_98 : decode cX10_beside 98 = .ok (.iload_n 1, 1) := by decide +kernel
theorem dX10_beside_99 : decode cX10_beside 99 = .ok (.invokevirtual 203, 3) := by decide +kernel
theorem dX10_beside_102 : decode cX10_beside 102 = .ok (.ireturn, 1) := by decide +kernel
theorem dX10_beside_103 : decode cX10_beside 103 = .ok (.iconst (-1), 1) := by decide +kernel
theorem dX10_beside_104 : decode cX10_beside 104 = .ok (.ireturn, 1) := by decide +kernel
set_option maxRecDepth 100000 in
set_option maxHeartbeats 4000000 in
theorem M_X10_beside (G : zG) (l : Launch) {a1 : Int32} {a2 : Int32} {σ : zS} {r : Int32} (hJ : J_X10_beside a1 a2 σ = some r) : zMI G l yX10_beside cX10_beside 3 (some .int) (zrm 3 71) [.ref (G.1 + 0), .int a1, .int a2] 137 (zen G σ) r 137 (zen G σ) := by
  unfold J_X10_beside at hJ
  refine zentI (by decide +kernel) (Nat.le_of_ble_eq_true rfl) ?_
  intro p e s m args below meth c C hret
  refine zr_sub [0, 1, 2] [(0, .ref (G.1 + 0)), (1, .int a1), (2, .int a2)] rfl ?_
  refine zr_iload_n C 1 dX10_beside_0 rfl ?_
  obtain ⟨r1, hr1, hJ⟩ := zb_e hJ
  refine zr_callSI C (M_X10_isEvent G l hr1) zin_X10_isEvent zm_14_23 rfl rfl (Nat.le_of_ble_eq_true rfl) ⟨Nat.le_of_ble_eq_true rfl, Nat.le_of_ble_eq_true rfl⟩ ⟨Nat.le_of_ble_eq_true rfl, Nat.le_of_ble_eq_true rfl⟩ dX10_beside_1 ?_
  refine zr_if_ne C 9 dX10_beside_4 (by decide) (fun hc2 => ?_) (fun hc2 => ?_)
  · have hJ := zif' hc2 hJ
    refine zr_iload_n C 2 dX10_beside_9 rfl ?_
    by_cases hs3 : a2 = (0 : Int32)
    · have hJ := zif hs3 hJ
      refine zr_tin C 44 dX10_beside_10 (by rw [hs3]; decide) (by rw [hs3]; decide) (by rw [hs3]; rfl) (by decide) ?_
      refine zr_aload_n C 0 dX10_beside_44 rfl ?_
      obtain ⟨p4, hp4, hJ⟩ := zlet_e hJ
      obtain ⟨hp5, hJ⟩ := zg_e hJ
      refine zg_10_1 C 0 zk_0 zm_1_20 dX10_beside_45 ?_
      refine zr_topr hp4 ?_
      refine zr_iload_n C 1 dX10_beside_48 rfl ?_
      obtain ⟨r6, hr6, hJ⟩ := zb_e hJ
      refine zr_callVI C p4 (zk_lt (zkP_0 hp5) (by decide)) (zen_obj (zkP_0 hp5)) (rfl : zcl[3]? = some (RX3, TX3, 19)) (M_X3_total G l hp5 hr6) zin_X3_total zm_22_11 rfl rfl (Nat.le_of_ble_eq_true rfl) ⟨Nat.le_of_ble_eq_true rfl, Nat.le_of_ble_eq_true rfl⟩ ⟨Nat.le_of_ble_eq_true rfl, Nat.le_of_ble_eq_true rfl⟩ dX10_beside_49 ?_
      exact zr_iret C hret (zs_e hJ) rfl rfl dX10_beside_52
    have hJ := zif' hs3 hJ
    by_cases hs7 : a2 = (1 : Int32)
    · have hJ := zif hs7 hJ
      refine zr_tin C 53 dX10_beside_10 (by rw [hs7]; decide) (by rw [hs7]; decide) (by rw [hs7]; rfl) (by decide) ?_
      refine zr_aload_n C 0 dX10_beside_53 rfl ?_
      refine zg_10_4 C 0 zk_0 zm_2_5 dX10_beside_54 ?_
      refine zr_iload_n C 1 dX10_beside_57 rfl ?_
      obtain ⟨r8, hr8, hJ⟩ := zb_e hJ
      refine zr_callVI C 64 (zk_lt zk_64 (by decide)) (zen_obj zk_64) (rfl : zcl[1]? = some (RX1, TX1, 1)) (M_X1_total G l hr8) zin_X1_total zm_28_5 rfl rfl (Nat.le_of_ble_eq_true rfl) ⟨Nat.le_of_ble_eq_true rfl, Nat.le_of_ble_eq_true rfl⟩ ⟨Nat.le_of_ble_eq_true rfl, Nat.le_of_ble_eq_true rfl⟩ dX10_beside_58 ?_
      exact zr_iret C hret (zs_e hJ) rfl rfl dX10_beside_61
    have hJ := zif' hs7 hJ
    by_cases hs9 : a2 = (2 : Int32)
    · have hJ := zif hs9 hJ
      refine zr_tin C 62 dX10_beside_10 (by rw [hs9]; decide) (by rw [hs9]; decide) (by rw [hs9]; rfl) (by decide) ?_
      refine zr_aload_n C 0 dX10_beside_62 rfl ?_
      refine zg_10_4 C 0 zk_0 zm_2_5 dX10_beside_63 ?_
      refine zr_aload_n C 0 dX10_beside_66 rfl ?_
      obtain ⟨p10, hp10, hJ⟩ := zlet_e hJ
      obtain ⟨hp11, hJ⟩ := zg_e hJ
      refine zg_10_1 C 0 zk_0 zm_1_20 dX10_beside_67 ?_
      refine zr_topr hp10 ?_
      refine zr_iload_n C 1 dX10_beside_70 rfl ?_
      refine zr_iconst C dX10_beside_71 (v := (1 : Int32)) (by decide) ?_
      obtain ⟨r12, hr12, hJ⟩ := zb_e hJ
      refine zr_callVI C 64 (zk_lt zk_64 (by decide)) (zen_obj zk_64) (rfl : zcl[1]? = some (RX1, TX1, 1)) (M_X1_linesThatDiffer G l hp11 hr12) zin_X1_linesThatDiffer zm_28_9 rfl rfl (Nat.le_of_ble_eq_true rfl) ⟨Nat.le_of_ble_eq_true rfl, Nat.le_of_ble_eq_true rfl⟩ ⟨Nat.le_of_ble_eq_true rfl, Nat.le_of_ble_eq_true rfl⟩ dX10_beside_72 ?_
      exact zr_iret C hret (zs_e hJ) rfl rfl dX10_beside_75
    have hJ := zif' hs9 hJ
    by_cases hs13 : a2 = (3 : Int32)
    · have hJ := zif hs13 hJ
      refine zr_tin C 76 dX10_beside_10 (by rw [hs13]; decide) (by rw [hs13]; decide) (by rw [hs13]; rfl) (by decide) ?_
      refine zr_aload_n C 0 dX10_beside_76 rfl ?_
      refine zg_10_4 C 0 zk_0 zm_2_5 dX10_beside_77 ?_
      refine zr_aload_n C 0 dX10_beside_80 rfl ?_
      obtain ⟨p14, hp14, hJ⟩ := zlet_e hJ
      obtain ⟨hp15, hJ⟩ := zg_e hJ
      refine zg_10_1 C 0 zk_0 zm_1_20 dX10_beside_81 ?_
      refine zr_topr hp14 ?_
      refine zr_iload_n C 1 dX10_beside_84 rfl ?_
      refine zr_iconst C dX10_beside_85 (v := (-1 : Int32)) (by decide) ?_
      obtain ⟨r16, hr16, hJ⟩ := zb_e hJ
      refine zr_callVI C 64 (zk_lt zk_64 (by decide)) (zen_obj zk_64) (rfl : zcl[1]? = some (RX1, TX1, 1)) (M_X1_linesThatDiffer G l hp15 hr16) zin_X1_linesThatDiffer zm_28_9 rfl rfl (Nat.le_of_ble_eq_true rfl) ⟨Nat.le_of_ble_eq_true rfl, Nat.le_of_ble_eq_true rfl⟩ ⟨Nat.le_of_ble_eq_true rfl, Nat.le_of_ble_eq_true rfl⟩ dX10_beside_86 ?_
      exact zr_iret C hret (zs_e hJ) rfl rfl dX10_beside_89
    have hJ := zif' hs13 hJ
    by_cases hs17 : a2 = (4 : Int32)
    · have hJ := zif hs17 hJ
      refine zr_tin C 90 dX10_beside_10 (by rw [hs17]; decide) (by rw [hs17]; decide) (by rw [hs17]; rfl) (by decide) ?_
      refine zr_aload_n C 0 dX10_beside_90 rfl ?_
      refine zg_10_4 C 0 zk_0 zm_2_5 dX10_beside_91 ?_
      refine zr_aload_n C 0 dX10_beside_94 rfl ?_
      obtain ⟨p18, hp18, hJ⟩ := zlet_e hJ
      obtain ⟨hp19, hJ⟩ := zg_e hJ
      refine zg_10_1 C 0 zk_0 zm_1_20 dX10_beside_95 ?_
      refine zr_topr hp18 ?_
      refine zr_iload_n C 1 dX10_beside_98 rfl ?_
      obtain ⟨r20, hr20, hJ⟩ := zb_e hJ
      refine zr_callVI C 64 (zk_lt zk_64 (by decide)) (zen_obj zk_64) (rfl : zcl[1]? = some (RX1, TX1, 1)) (M_X1_farthestLine G l hp19 hr20) zin_X1_farthestLine zm_28_17 rfl rfl (Nat.le_of_ble_eq_true rfl) ⟨Nat.le_of_ble_eq_true rfl, Nat.le_of_ble_eq_true rfl⟩ ⟨Nat.le_of_ble_eq_true rfl, Nat.le_of_ble_eq_true rfl⟩ dX10_beside_99 ?_
      exact zr_iret C hret (zs_e hJ) rfl rfl dX10_beside_102
    have hJ := zif' hs17 hJ
    refine zr_tout C 103 dX10_beside_10 (by have ghs3 := lv_neT hs3 (show ((0 : Int32)).toInt = 0 by decide); have ghs7 := lv_neT hs7 (show ((1 : Int32)).toInt = 1 by decide); have ghs9 := lv_neT hs9 (show ((2 : Int32)).toInt = 2 by decide); have ghs13 := lv_neT hs13 (show ((3 : Int32)).toInt = 3 by decide); have ghs17 := lv_neT hs17 (show ((4 : Int32)).toInt = 4 by decide); omega) (by decide) ?_
    refine zr_iconst C dX10_beside_103 (v := (-1 : Int32)) (by decide) ?_
    exact zr_iret C hret (zs_e hJ) rfl rfl dX10_beside_104
  · have hJ := zif hc2 hJ
    refine zr_iconst C dX10_beside_7 (v := (-1 : Int32)) (by decide) ?_
    exact zr_iret C hret (zs_e hJ) rfl rfl dX10_beside_8
theorem dX10_count_0 : decode cX10_count 0 = .ok (.aload_n 0, 1) := by decide +kernel
theorem dX10_count_1 : decode cX10_count 1 = .ok (.getfield 45, 3) := by decide +kernel
theorem dX10_count_4 : decode cX10_count 4 = .ok (.iload_n 1, 1) := by decide +kernel
theorem dX10_count_5 : decode cX10_count 5 = .ok (.bipush 10, 2) := by decide +kernel
theorem dX10_count_7 : decode cX10_count 7 = .ok (.isub, 1) := by decide +kernel
theorem dX10_count_8 : decode cX10_count 8 = .ok (.invokevirtual 208, 3) := by decide +kernel
theorem dX10_count_11 : decode cX10_count 11 = .ok (.ifCond .eq 16, 3) := by decide +kernel
theorem dX10_count_14 : decode cX10_count 14 = .ok (.aload_n 0, 1) := by decide +kernel
theorem dX10_count_15 : decode cX10_count 15 = .ok (.getfield 45, 3) := by decide +kernel
theorem dX10_count_18 : decode cX10_count 18 = .ok (.getfield 214, 3) := by decide +kernel
theorem dX10_count_21 : decode cX10_count 21 = .ok (.iload_n 1, 1) := by decide +kernel
theorem dX10_count_22 : decode cX10_count 22 = .ok (.bipush 10, 2) := by decide +kernel
theorem dX10_count_24 : decode cX10_count 24 = .ok (.isub, 1) := by decide +kernel
theorem dX10_count_25 : decode cX10_count 25 = .ok (.iaload, 1) := by decide +kernel
theorem dX10_count_26 : decode cX10_count 26 = .ok (.ireturn, 1) := by decide +kernel
theorem dX10_count_27 : decode cX10_count 27 = .ok (.aload_n 0, 1) := by decide +kernel
theorem dX10_count_28 : decode cX10_count 28 = .ok (.getfield 45, 3) := by decide +kernel
theorem dX10_count_31 : decode cX10_count 31 = .ok (.iload_n 1, 1) := by decide +kernel
theorem dX10_count_32 : decode cX10_count 32 = .ok (.bipush 20, 2) := by decide +kernel
theorem dX10_count_34 : decode cX10_count 34 = .ok (.isub, 1) := by decide +kernel
theorem dX10_count_35 : decode cX10_count 35 = .ok (.invokevirtual 208, 3) := by decide +kernel
theorem dX10_count_38 : decode cX10_count 38 = .ok (.ifCond .eq 16, 3) := by decide +kernel
theorem dX10_count_41 : decode cX10_count 41 = .ok (.aload_n 0, 1) := by decide +kernel
theorem dX10_count_42 : decode cX10_count 42 = .ok (.getfield 45, 3) := by decide +kernel
theorem dX10_count_45 : decode cX10_count 45 = .ok (.getfield 221, 3) := by decide +kernel
theorem dX10_count_48 : decode cX10_count 48 = .ok (.iload_n 1, 1) := by decide +kernel
theorem dX10_count_49 : decode cX10_count 49 = .ok (.bipush 20, 2) := by decide +kernel
theorem dX10_count_51 : decode cX10_count 51 = .ok (.isub, 1) := by decide +kernel
theorem dX10_count_52 : decode cX10_count 52 = .ok (.iaload, 1) := by decide +kernel
theorem dX10_count_53 : decode cX10_count 53 = .ok (.ireturn, 1) := by decide +kernel
theorem dX10_count_54 : decode cX10_count 54 = .ok (.iload_n 1, 1) := by decide +kernel
theorem dX10_count_55 : decode cX10_count 55 = .ok (.tableswitch 104 0 5 #[37, 45, 53, 61, 69, 96], 37) := by decide +kernel
theorem dX10_count_92 : decode cX10_count 92 = .ok (.aload_n 0, 1) := by decide +kernel
theorem dX10_count_93 : decode cX10_count 93 = .ok (.getfield 19, 3) := by decide +kernel
theorem dX10_count_96 : decode cX10_count 96 = .ok (.getfield 113, 3) := by decide +kernel
theorem dX10_count_99 : decode cX10_count 99 = .ok (.ireturn, 1) := by decide +kernel
theorem dX10_count_100 : decode cX10_count 100 = .ok (.aload_n 0, 1) := by decide +kernel
theorem dX10_count_101 : decode cX10_count 101 = .ok (.getfield 45, 3) := by decide +kernel
theorem dX10_count_104 : decode cX10_count 104 = .ok (.getfield 207, 3) := by decide +kernel
theorem dX10_count_107 : decode cX10_count 107 = .ok (.ireturn, 1) := by decide +kernel
theorem dX10_count_108 : decode cX10_count 108 = .ok (.aload_n 0, 1) := by decide +kernel
theorem dX10_count_109 : decode cX10_count 109 = .ok (.getfield 73, 3) := by decide +kernel
theorem dX10_count_112 : decode cX10_count 112 = .ok (.getfield 112, 3) := by decide +kernel
theorem dX10_count_115 : decode cX10_count 115 = .ok (.ireturn, 1) := by decide +kernel
theorem dX10_count_116 : decode cX10_count 116 = .ok (.aload_n 0, 1) := by decide +kernel
theorem dX10_count_117 : decode cX10_count 117 = .ok (.getfield 10, 3) := by decide +kernel
theorem dX10_count_120 : decode cX10_count 120 = .ok (.getfield 96, 3) := by decide +kernel
theorem dX10_count_123 : decode cX10_count 123 = .ok (.ireturn, 1) := by decide +kernel
theorem dX10_count_124 : decode cX10_count 124 = .ok (.aload_n 0, 1) := by decide +kernel
theorem dX10_count_125 : decode cX10_count 125 = .ok (.getfield 80, 3) := by decide +kernel
theorem dX10_count_128 : decode cX10_count 128 = .ok (.getfield 366, 3) := by decide +kernel
theorem dX10_count_131 : decode cX10_count 131 = .ok (.iconst 0, 1) := by decide +kernel
theorem dX10_count_132 : decode cX10_count 132 = .ok (.iaload, 1) := by decide +kernel
theorem dX10_count_133 : decode cX10_count 133 = .ok (.ifCond .ge 8, 3) := by decide +kernel
theorem dX10_count_136 : decode cX10_count 136 = .ok (.bipush (-4), 2) := by decide +kernel
theorem dX10_count_138 : decode cX10_count 138 = .ok (.goto 12, 3) := by decide +kernel
theorem dX10_count_141 : decode cX10_count 141 = .ok (.aload_n 0, 1) := by decide +kernel
theorem dX10_count_142 : decode cX10_count 142 = .ok (.getfield 80, 3) := by decide +kernel
theorem dX10_count_145 : decode cX10_count 145 = .ok (.getfield 366, 3) := by decide +kernel
theorem dX10_count_148 : decode cX10_count 148 = .ok (.iconst 0, 1) := by decide +kernel
theorem dX10_count_149 : decode cX10_count 149 = .ok (.iaload, 1) := by decide +kernel
theorem dX10_count_150 : decode cX10_count 150 = .ok (.ireturn, 1) := by decide +kernel
theorem dX10_count_151 : decode cX10_count 151 = .ok (.aload_n 0, 1) := by decide +kernel
theorem dX10_count_152 : decode cX10_count 152 = .ok (.getfield 19, 3) := by decide +kernel
theorem dX10_count_155 : decode cX10_count 155 = .ok (.getfield 369, 3) := by decide +kernel
theorem dX10_count_158 : decode cX10_count 158 = .ok (.ireturn, 1) := by decide +kernel
theorem dX10_count_159 : decode cX10_count 159 = .ok (.iconst (-1), 1) := by decide +kernel
theorem dX10_count_160 : decode cX10_count 160 = .ok (.ireturn, 1) := by decide +kernel
set_option maxRecDepth 100000 in
set_option maxHeartbeats 4000000 in
theorem M_X10_count (G : zG) (l : Launch) {a1 : Int32} {σ : zS} {r : Int32} (hJ : J_X10_count a1 σ = some r) : zMI G l yX10_count cX10_count 2 (some .int) (zrm 1 21) [.ref (G.1 + 0), .int a1] 137 (zen G σ) r 137 (zen G σ) := by
  unfold J_X10_count at hJ
  refine zentI (by decide +kernel) (Nat.le_of_ble_eq_true rfl) ?_
  intro p e s m args below meth c C hret
  refine zr_sub [0, 1] [(0, .ref (G.1 + 0)), (1, .int a1)] rfl ?_
  refine zr_aload_n C 0 dX10_count_0 rfl ?_
  refine zg_10_5 C 0 zk_0 zm_2_9 dX10_count_1 ?_
  refine zr_iload_n C 1 dX10_count_4 rfl ?_
  refine zr_bipush C dX10_count_5 (v := (10 : Int32)) (by decide) ?_
  refine zr_isub C dX10_count_7 ?_
  obtain ⟨r1, hr1, hJ⟩ := zb_e hJ
  refine zr_callVI C 82 (zk_lt zk_82 (by decide)) (zen_obj zk_82) (rfl : zcl[0]? = some (RX0, TX0, 7)) (M_X0_has G l hr1) zin_X0_has zm_29_19 rfl rfl (Nat.le_of_ble_eq_true rfl) ⟨Nat.le_of_ble_eq_true rfl, Nat.le_of_ble_eq_true rfl⟩ ⟨Nat.le_of_ble_eq_true rfl, Nat.le_of_ble_eq_true rfl⟩ dX10_count_8 ?_
  refine zr_if_eq C 27 dX10_count_11 (by decide) (fun hc2 => ?_) (fun hc2 => ?_)
  · have hJ := zif hc2 hJ
    refine zr_aload_n C 0 dX10_count_27 rfl ?_
    refine zg_10_5 C 0 zk_0 zm_2_9 dX10_count_28 ?_
    refine zr_iload_n C 1 dX10_count_31 rfl ?_
    refine zr_bipush C dX10_count_32 (v := (20 : Int32)) (by decide) ?_
    refine zr_isub C dX10_count_34 ?_
    obtain ⟨r3, hr3, hJ⟩ := zb_e hJ
    refine zr_callVI C 82 (zk_lt zk_82 (by decide)) (zen_obj zk_82) (rfl : zcl[0]? = some (RX0, TX0, 7)) (M_X0_has G l hr3) zin_X0_has zm_29_19 rfl rfl (Nat.le_of_ble_eq_true rfl) ⟨Nat.le_of_ble_eq_true rfl, Nat.le_of_ble_eq_true rfl⟩ ⟨Nat.le_of_ble_eq_true rfl, Nat.le_of_ble_eq_true rfl⟩ dX10_count_35 ?_
    refine zr_if_eq C 54 dX10_count_38 (by decide) (fun hc4 => ?_) (fun hc4 => ?_)
    · have hJ := zif hc4 hJ
      refine zr_iload_n C 1 dX10_count_54 rfl ?_
      by_cases hs5 : a1 = (0 : Int32)
      · have hJ := zif hs5 hJ
        refine zr_tin C 92 dX10_count_55 (by rw [hs5]; decide) (by rw [hs5]; decide) (by rw [hs5]; rfl) (by decide) ?_
        refine zr_aload_n C 0 dX10_count_92 rfl ?_
        obtain ⟨p6, hp6, hJ⟩ := zlet_e hJ
        obtain ⟨hp7, hJ⟩ := zg_e hJ
        refine zg_10_1 C 0 zk_0 zm_1_20 dX10_count_93 ?_
        refine zr_topr hp6 ?_
        refine zg_3_0 C p6 (zkP_0 hp7) zm_10_8 dX10_count_96 ?_
        exact zr_iret C hret (zs_e hJ) rfl rfl dX10_count_99
      have hJ := zif' hs5 hJ
      by_cases hs8 : a1 = (1 : Int32)
      · have hJ := zif hs8 hJ
        refine zr_tin C 100 dX10_count_55 (by rw [hs8]; decide) (by rw [hs8]; decide) (by rw [hs8]; rfl) (by decide) ?_
        refine zr_aload_n C 0 dX10_count_100 rfl ?_
        refine zg_10_5 C 0 zk_0 zm_2_9 dX10_count_101 ?_
        refine zg_0_0 C 82 zk_82 zm_29_8 dX10_count_104 ?_
        exact zr_iret C hret (zs_e hJ) rfl rfl dX10_count_107
      have hJ := zif' hs8 hJ
      by_cases hs9 : a1 = (2 : Int32)
      · have hJ := zif hs9 hJ
        refine zr_tin C 108 dX10_count_55 (by rw [hs9]; decide) (by rw [hs9]; decide) (by rw [hs9]; rfl) (by decide) ?_
        refine zr_aload_n C 0 dX10_count_108 rfl ?_
        refine zg_10_9 C 0 zk_0 zm_3_1 dX10_count_109 ?_
        refine zg_5_0 C 92 zk_92 zm_10_7 dX10_count_112 ?_
        exact zr_iret C hret (zs_e hJ) rfl rfl dX10_count_115
      have hJ := zif' hs9 hJ
      by_cases hs10 : a1 = (3 : Int32)
      · have hJ := zif hs10 hJ
        refine zr_tin C 116 dX10_count_55 (by rw [hs10]; decide) (by rw [hs10]; decide) (by rw [hs10]; rfl) (by decide) ?_
        refine zr_aload_n C 0 dX10_count_116 rfl ?_
        refine zg_10_0 C 0 zk_0 zm_1_16 dX10_count_117 ?_
        refine zg_8_1 C 1 zk_1 zm_9_3 dX10_count_120 ?_
        exact zr_iret C hret (zs_e hJ) rfl rfl dX10_count_123
      have hJ := zif' hs10 hJ
      by_cases hs11 : a1 = (4 : Int32)
      · have hJ := zif hs11 hJ
        refine zr_tin C 124 dX10_count_55 (by rw [hs11]; decide) (by rw [hs11]; decide) (by rw [hs11]; rfl) (by decide) ?_
        refine zr_aload_n C 0 dX10_count_124 rfl ?_
        refine zg_10_10 C 0 zk_0 zm_3_5 dX10_count_125 ?_
        refine zg_7_1 C 97 zk_97 zm_49_3 dX10_count_128 ?_
        refine zr_iconst C dX10_count_131 (v := (0 : Int32)) (by decide) ?_
        obtain ⟨hg12, hJ⟩ := zg_e hJ
        refine zu_iald C 99 zk_99 hg12 dX10_count_132 ?_
        refine zr_if_ge C 141 dX10_count_133 (by decide) (fun hc13 => ?_) (fun hc13 => ?_)
        · have hJ := zif hc13 hJ
          refine zr_aload_n C 0 dX10_count_141 rfl ?_
          refine zg_10_10 C 0 zk_0 zm_3_5 dX10_count_142 ?_
          refine zg_7_1 C 97 zk_97 zm_49_3 dX10_count_145 ?_
          refine zr_iconst C dX10_count_148 (v := (0 : Int32)) (by decide) ?_
          obtain ⟨hg14, hJ⟩ := zg_e hJ
          refine zu_iald C 99 zk_99 hg14 dX10_count_149 ?_
          exact zr_iret C hret (zs_e hJ) rfl rfl dX10_count_150
        · have hJ := zif' hc13 hJ
          refine zr_bipush C dX10_count_136 (v := (-4 : Int32)) (by decide) ?_
          refine zr_goto C 150 dX10_count_138 (by decide) ?_
          exact zr_iret C hret (zs_e hJ) rfl rfl dX10_count_150
      have hJ := zif' hs11 hJ
      by_cases hs15 : a1 = (5 : Int32)
      · have hJ := zif hs15 hJ
        refine zr_tin C 151 dX10_count_55 (by rw [hs15]; decide) (by rw [hs15]; decide) (by rw [hs15]; rfl) (by decide) ?_
        refine zr_aload_n C 0 dX10_count_151 rfl ?_
        obtain ⟨p16, hp16, hJ⟩ := zlet_e hJ
        obtain ⟨hp17, hJ⟩ := zg_e hJ
        refine zg_10_1 C 0 zk_0 zm_1_20 dX10_count_152 ?_
        refine zr_topr hp16 ?_
        refine zg_3_5 C p16 (zkP_0 hp17) zm_49_4 dX10_count_155 ?_
        exact zr_iret C hret (zs_e hJ) rfl rfl dX10_count_158
      have hJ := zif' hs15 hJ
      refine zr_tout C 159 dX10_count_55 (by have ghs5 := lv_neT hs5 (show ((0 : Int32)).toInt = 0 by decide); have ghs8 := lv_neT hs8 (show ((1 : Int32)).toInt = 1 by decide); have ghs9 := lv_neT hs9 (show ((2 : Int32)).toInt = 2 by decide); have ghs10 := lv_neT hs10 (show ((3 : Int32)).toInt = 3 by decide); have ghs11 := lv_neT hs11 (show ((4 : Int32)).toInt = 4 by decide); have ghs15 := lv_neT hs15 (show ((5 : Int32)).toInt = 5 by decide); omega) (by decide) ?_
      refine zr_iconst C dX10_count_159 (v := (-1 : Int32)) (by decide) ?_
      exact zr_iret C hret (zs_e hJ) rfl rfl dX10_count_160
    · have hJ := zif' hc4 hJ
      refine zr_aload_n C 0 dX10_count_41 rfl ?_
      refine zg_10_5 C 0 zk_0 zm_2_9 dX10_count_42 ?_
      refine zg_0_2 C 82 zk_82 zm_30_11 dX10_count_45 ?_
      refine zr_iload_n C 1 dX10_count_48 rfl ?_
      refine zr_bipush C dX10_count_49 (v := (20 : Int32)) (by decide) ?_
      refine zr_isub C dX10_count_51 ?_
      obtain ⟨hg18, hJ⟩ := zg_e hJ
      refine zu_iald C 84 zk_84 hg18 dX10_count_52 ?_
      exact zr_iret C hret (zs_e hJ) rfl rfl dX10_count_53
  · have hJ := zif' hc2 hJ
    refine zr_aload_n C 0 dX10_count_14 rfl ?_
    refine zg_10_5 C 0 zk_0 zm_2_9 dX10_count_15 ?_
    refine zg_0_1 C 82 zk_82 zm_29_17 dX10_count_18 ?_
    refine zr_iload_n C 1 dX10_count_21 rfl ?_
    refine zr_bipush C dX10_count_22 (v := (10 : Int32)) (by decide) ?_
    refine zr_isub C dX10_count_24 ?_
    obtain ⟨hg19, hJ⟩ := zg_e hJ
    refine zu_iald C 83 zk_83 hg19 dX10_count_25 ?_
    exact zr_iret C hret (zs_e hJ) rfl rfl dX10_count_26
theorem dX10_counters_0 : decode cX10_counters 0 = .ok (.iload_n 1, 1) := by decide +kernel
theorem dX10_counters_1 : decode cX10_counters 1 = .ok (.iconst 1, 1) := by decide +kernel
theorem dX10_counters_2 : decode cX10_counters 2 = .ok (.if_icmp .lt 8, 3) := by decide +kernel
theorem dX10_counters_5 : decode cX10_counters 5 = .ok (.iload_n 1, 1) := by decide +kernel
theorem dX10_counters_6 : decode cX10_counters 6 = .ok (.iconst 4, 1) := by decide +kernel
theorem dX10_counters_7 : decode cX10_counters 7 = .ok (.if_icmp .le 5, 3) := by decide +kernel
theorem dX10_counters_10 : decode cX10_counters 10 = .ok (.iconst (-1), 1) := by decide +kernel
theorem dX10_counters_11 : decode cX10_counters 11 = .ok (.ireturn, 1) := by decide +kernel
theorem dX10_counters_12 : decode cX10_counters 12 = .ok (.aload_n 0, 1) := by decide +kernel
theorem dX10_counters_13 : decode cX10_counters 13 = .ok (.getfield 45, 3) := by decide +kernel
theorem dX10_counters_16 : decode cX10_counters 16 = .ok (.getfield 207, 3) := by decide +kernel
theorem dX10_counters_19 : decode cX10_counters 19 = .ok (.istore_n 2, 1) := by decide +kernel
theorem dX10_counters_20 : decode cX10_counters 20 = .ok (.aload_n 0, 1) := by decide +kernel
theorem dX10_counters_21 : decode cX10_counters 21 = .ok (.getfield 45, 3) := by decide +kernel
theorem dX10_counters_24 : decode cX10_counters 24 = .ok (.iload_n 1, 1) := by decide +kernel
theorem dX10_counters_25 : decode cX10_counters 25 = .ok (.invokevirtual 88, 3) := by decide +kernel
theorem dX10_counters_28 : decode cX10_counters 28 = .ok (.aload_n 0, 1) := by decide +kernel
theorem dX10_counters_29 : decode cX10_counters 29 = .ok (.getfield 73, 3) := by decide +kernel
theorem dX10_counters_32 : decode cX10_counters 32 = .ok (.iconst 0, 1) := by decide +kernel
theorem dX10_counters_33 : decode cX10_counters 33 = .ok (.putfield 112, 3) := by decide +kernel
theorem dX10_counters_36 : decode cX10_counters 36 = .ok (.iload_n 2, 1) := by decide +kernel
theorem dX10_counters_37 : decode cX10_counters 37 = .ok (.ireturn, 1) := by decide +kernel
set_option maxRecDepth 100000 in
set_option maxHeartbeats 4000000 in
theorem M_X10_counters (G : zG) (l : Launch) {a1 : Int32} {σ : zS} {r : Int32} {σ' : zS} (hJ : J_X10_counters a1 σ = some (r, σ')) : zMI G l yX10_counters cX10_counters 3 (some .int) (zrm 1 22) [.ref (G.1 + 0), .int a1] 137 (zen G σ) r 137 (zen G σ') := by
  unfold J_X10_counters at hJ
  refine zentI (by decide +kernel) (Nat.le_of_ble_eq_true rfl) ?_
  intro p e s m args below meth c C hret
  refine zr_sub [0, 1] [(0, .ref (G.1 + 0)), (1, .int a1)] rfl ?_
  refine zr_iload_n C 1 dX10_counters_0 rfl ?_
  refine zr_iconst C dX10_counters_1 (v := (1 : Int32)) (by decide) ?_
  refine zr_icmp_lt C 10 dX10_counters_2 (by decide) (fun hc1 => ?_) (fun hc1 => ?_)
  · have hJ := zif hc1 hJ
    refine zr_iconst C dX10_counters_10 (v := (-1 : Int32)) (by decide) ?_
    exact zr_iret C hret (Prod.mk.inj (zs_e hJ)).1 rfl (congrArg (zen G) (Prod.mk.inj (zs_e hJ)).2) dX10_counters_11
  · have hJ := zif' hc1 hJ
    refine zr_iload_n C 1 dX10_counters_5 rfl ?_
    refine zr_iconst C dX10_counters_6 (v := (4 : Int32)) (by decide) ?_
    refine zr_icmp_le C 12 dX10_counters_7 (by decide) (fun hc2 => ?_) (fun hc2 => ?_)
    · have hJ := zif hc2 hJ
      refine zr_aload_n C 0 dX10_counters_12 rfl ?_
      refine zg_10_5 C 0 zk_0 zm_2_9 dX10_counters_13 ?_
      refine zg_0_0 C 82 zk_82 zm_29_8 dX10_counters_16 ?_
      obtain ⟨v3, hv3, hJ⟩ := zlet_e hJ
      refine zr_topi hv3 ?_
      refine zr_istore_n C [(2, .int v3), (0, .ref (G.1 + 0)), (1, .int a1)] dX10_counters_19 (by decide) rfl ?_
      refine zr_aload_n C 1 dX10_counters_20 rfl ?_
      refine zg_10_5 C 0 zk_0 zm_2_9 dX10_counters_21 ?_
      refine zr_iload_n C 2 dX10_counters_24 rfl ?_
      obtain ⟨σ5, hr4, hJ⟩ := zb_e hJ
      refine zr_callVV C 82 (zk_lt zk_82 (by decide)) (zen_obj zk_82) (rfl : zcl[0]? = some (RX0, TX0, 7)) (M_X0_begin G l hr4) zin_X0_begin zm_7_3 rfl rfl (Nat.le_of_ble_eq_true rfl) ⟨Nat.le_of_ble_eq_true rfl, Nat.le_of_ble_eq_true rfl⟩ ⟨Nat.le_of_ble_eq_true rfl, Nat.le_of_ble_eq_true rfl⟩ dX10_counters_25 ?_
      refine zr_aload_n C 1 dX10_counters_28 rfl ?_
      refine zg_10_9 C 0 zk_0 zm_3_1 dX10_counters_29 ?_
      refine zr_iconst C dX10_counters_32 (v := (0 : Int32)) (by decide) ?_
      obtain ⟨σ6, hσ6, hJ⟩ := zlet_e hJ
      refine zp_5_0 C 92 zk_92 zm_10_7 hσ6 dX10_counters_33 ?_
      refine zr_iload_n C 0 dX10_counters_36 rfl ?_
      exact zr_iret C hret (Prod.mk.inj (zs_e hJ)).1 rfl (congrArg (zen G) (Prod.mk.inj (zs_e hJ)).2) dX10_counters_37
    · have hJ := zif' hc2 hJ
      refine zr_iconst C dX10_counters_10 (v := (-1 : Int32)) (by decide) ?_
      exact zr_iret C hret (Prod.mk.inj (zs_e hJ)).1 rfl (congrArg (zen G) (Prod.mk.inj (zs_e hJ)).2) dX10_counters_11
theorem dX10_end_0 : decode cX10_end 0 = .ok (.iload_n 1, 1) := by decide +kernel
theorem dX10_end_1 : decode cX10_end 1 = .ok (.ifCond .lt 14, 3) := by decide +kernel
theorem dX10_end_4 : decode cX10_end 4 = .ok (.iload_n 1, 1) := by decide +kernel
theorem dX10_end_5 : decode cX10_end 5 = .ok (.aload_n 0, 1) := by decide +kernel
theorem dX10_end_6 : decode cX10_end 6 = .ok (.getfield 10, 3) := by decide +kernel
theorem dX10_end_9 : decode cX10_end 9 = .ok (.getfield 96, 3) := by decide +kernel
theorem dX10_end_12 : decode cX10_end 12 = .ok (.if_icmp .le 5, 3) := by decide +kernel
theorem dX10_end_15 : decode cX10_end 15 = .ok (.iconst (-1), 1) := by decide +kernel
theorem dX10_end_16 : decode cX10_end 16 = .ok (.ireturn, 1) := by decide +kernel
theorem dX10_end_17 : decode cX10_end 17 = .ok (.aload_n 0, 1) := by decide +kernel
theorem dX10_end_18 : decode cX10_end 18 = .ok (.getfield 10, 3) := by decide +kernel
theorem dX10_end_21 : decode cX10_end 21 = .ok (.getfield 96, 3) := by decide +kernel
theorem dX10_end_24 : decode cX10_end 24 = .ok (.istore_n 2, 1) := by decide +kernel
theorem dX10_end_25 : decode cX10_end 25 = .ok (.aload_n 0, 1) := by decide +kernel
theorem dX10_end_26 : decode cX10_end 26 = .ok (.getfield 10, 3) := by decide +kernel
theorem dX10_end_29 : decode cX10_end 29 = .ok (.iload_n 1, 1) := by decide +kernel
theorem dX10_end_30 : decode cX10_end 30 = .ok (.putfield 96, 3) := by decide +kernel
theorem dX10_end_33 : decode cX10_end 33 = .ok (.iload_n 2, 1) := by decide +kernel
theorem dX10_end_34 : decode cX10_end 34 = .ok (.ireturn, 1) := by decide +kernel
set_option maxRecDepth 100000 in
set_option maxHeartbeats 4000000 in
theorem M_X10_end (G : zG) (l : Launch) {a1 : Int32} {σ : zS} {r : Int32} {σ' : zS} (hJ : J_X10_end a1 σ = some (r, σ')) : zMI G l yX10_end cX10_end 3 (some .int) (zrm 0 0) [.ref (G.1 + 0), .int a1] 137 (zen G σ) r 137 (zen G σ') := by
  unfold J_X10_end at hJ
  refine zentI (by decide +kernel) (Nat.le_of_ble_eq_true rfl) ?_
  intro p e s m args below meth c C hret
  refine zr_sub [0, 1] [(0, .ref (G.1 + 0)), (1, .int a1)] rfl ?_
  refine zr_iload_n C 1 dX10_end_0 rfl ?_
  refine zr_if_lt C 15 dX10_end_1 (by decide) (fun hc1 => ?_) (fun hc1 => ?_)
  · have hJ := zif hc1 hJ
    refine zr_iconst C dX10_end_15 (v := (-1 : Int32)) (by decide) ?_
    exact zr_iret C hret (Prod.mk.inj (zs_e hJ)).1 rfl (congrArg (zen G) (Prod.mk.inj (zs_e hJ)).2) dX10_end_16
  · have hJ := zif' hc1 hJ
    refine zr_iload_n C 1 dX10_end_4 rfl ?_
    refine zr_aload_n C 0 dX10_end_5 rfl ?_
    refine zg_10_0 C 0 zk_0 zm_1_16 dX10_end_6 ?_
    refine zg_8_1 C 1 zk_1 zm_9_3 dX10_end_9 ?_
    refine zr_icmp_le C 17 dX10_end_12 (by decide) (fun hc2 => ?_) (fun hc2 => ?_)
    · have hJ := zif hc2 hJ
      refine zr_aload_n C 0 dX10_end_17 rfl ?_
      refine zg_10_0 C 0 zk_0 zm_1_16 dX10_end_18 ?_
      refine zg_8_1 C 1 zk_1 zm_9_3 dX10_end_21 ?_
      obtain ⟨v3, hv3, hJ⟩ := zlet_e hJ
      refine zr_topi hv3 ?_
      refine zr_istore_n C [(2, .int v3), (0, .ref (G.1 + 0)), (1, .int a1)] dX10_end_24 (by decide) rfl ?_
      refine zr_aload_n C 1 dX10_end_25 rfl ?_
      refine zg_10_0 C 0 zk_0 zm_1_16 dX10_end_26 ?_
      refine zr_iload_n C 2 dX10_end_29 rfl ?_
      obtain ⟨σ4, hσ4, hJ⟩ := zlet_e hJ
      refine zp_8_1 C 1 zk_1 zm_9_3 hσ4 dX10_end_30 ?_
      refine zr_iload_n C 0 dX10_end_33 rfl ?_
      exact zr_iret C hret (Prod.mk.inj (zs_e hJ)).1 rfl (congrArg (zen G) (Prod.mk.inj (zs_e hJ)).2) dX10_end_34
    · have hJ := zif' hc2 hJ
      refine zr_iconst C dX10_end_15 (v := (-1 : Int32)) (by decide) ?_
      exact zr_iret C hret (Prod.mk.inj (zs_e hJ)).1 rfl (congrArg (zen G) (Prod.mk.inj (zs_e hJ)).2) dX10_end_16
theorem dX10_inLowestTerms_0 : decode cX10_inLowestTerms 0 = .ok (.lload_n 0, 1) := by decide +kernel
theorem dX10_inLowestTerms_1 : decode cX10_inLowestTerms 1 = .ok (.invokestatic 273, 3) := by decide +kernel
theorem dX10_inLowestTerms_4 : decode cX10_inLowestTerms 4 = .ok (.lload_n 2, 1) := by decide +kernel
theorem dX10_inLowestTerms_5 : decode cX10_inLowestTerms 5 = .ok (.invokestatic 309, 3) := by decide +kernel
theorem dX10_inLowestTerms_8 : decode cX10_inLowestTerms 8 = .ok (.lstore 5, 2) := by decide +kernel
theorem dX10_inLowestTerms_10 : decode cX10_inLowestTerms 10 = .ok (.lload 5, 2) := by decide +kernel
theorem dX10_inLowestTerms_12 : decode cX10_inLowestTerms 12 = .ok (.lconst 1, 1) := by decide +kernel
theorem dX10_inLowestTerms_13 : decode cX10_inLowestTerms 13 = .ok (.lcmp, 1) := by decide +kernel
theorem dX10_inLowestTerms_14 : decode cX10_inLowestTerms 14 = .ok (.ifCond .ge 5, 3) := by decide +kernel
theorem dX10_inLowestTerms_17 : decode cX10_inLowestTerms 17 = .ok (.lconst 0, 1) := by decide +kernel
theorem dX10_inLowestTerms_18 : decode cX10_inLowestTerms 18 = .ok (.lreturn, 1) := by decide +kernel
theorem dX10_inLowestTerms_19 : decode cX10_inLowestTerms 19 = .ok (.iload 4, 2) := by decide +kernel
theorem dX10_inLowestTerms_21 : decode cX10_inLowestTerms 21 = .ok (.ifCond .eq 7, 3) := by decide +kernel
theorem dX10_inLowestTerms_24 : decode cX10_inLowestTerms 24 = .ok (.lload_n 0, 1) := by decide +kernel
theorem dX10_inLowestTerms_25 : decode cX10_inLowestTerms 25 = .ok (.goto 4, 3) := by decide +kernel
theorem dX10_inLowestTerms_28 : decode cX10_inLowestTerms 28 = .ok (.lload_n 2, 1) := by decide +kernel
theorem dX10_inLowestTerms_29 : decode cX10_inLowestTerms 29 = .ok (.lload 5, 2) := by decide +kernel
theorem dX10_inLowestTerms_31 : decode cX10_inLowestTerms 31 = .ok (.ldiv, 1) := by decide +kernel
theorem dX10_inLowestTerms_32 : decode cX10_inLowestTerms 32 = .ok (.lreturn, 1) := by decide +kernel
set_option maxRecDepth 100000 in
set_option maxHeartbeats 4000000 in
theorem M_X10_inLowestTerms (G : zG) (l : Launch) {a0 : Int64} {a2 : Int64} {a4 : Int32} {σ : zS} {r : Int64} (hJ : J_X10_inLowestTerms a0 a2 a4 σ = some r) : zML G l yX10_inLowestTerms cX10_inLowestTerms 7 (some .long) (zrm 1 30) [.long a0, .long a2, .int a4] 137 (zen G σ) r 137 (zen G σ) := by
  unfold J_X10_inLowestTerms at hJ
  refine zentL (by decide +kernel) (Nat.le_of_ble_eq_true rfl) ?_
  intro p e s m args below meth c C hret
  refine zr_sub [0, 1, 2] [(0, .long a0), (2, .long a2), (4, .int a4)] rfl ?_
  refine zr_lload_n C 0 dX10_inLowestTerms_0 rfl ?_
  refine zr_mabs_long C zm_23_13 zMs_abs_long zMi zMc_abs_long (Nat.le_of_ble_eq_true rfl) (Nat.le_of_ble_eq_true rfl) ⟨Nat.le_of_ble_eq_true rfl, Nat.le_of_ble_eq_true rfl⟩ dX10_inLowestTerms_1 ?_
  obtain ⟨v1, hv1, hJ⟩ := zlet_e hJ
  refine zr_topl hv1 ?_
  refine zr_lload_n C 1 dX10_inLowestTerms_4 rfl ?_
  obtain ⟨r2, hr2, hJ⟩ := zb_e hJ
  refine zr_callSL C (M_X10_commonDivisor G l hr2) zin_X10_commonDivisor zm_23_17 rfl rfl (Nat.le_of_ble_eq_true rfl) ⟨Nat.le_of_ble_eq_true rfl, Nat.le_of_ble_eq_true rfl⟩ ⟨Nat.le_of_ble_eq_true rfl, Nat.le_of_ble_eq_true rfl⟩ dX10_inLowestTerms_5 ?_
  refine zr_lstore C [(5, .long r2), (0, .long a0), (2, .long a2), (4, .int a4)] dX10_inLowestTerms_8 (by decide) rfl ?_
  refine zr_lload C 0 dX10_inLowestTerms_10 rfl ?_
  refine zr_lconst C dX10_inLowestTerms_12 (v := (1 : Int64)) (by decide) ?_
  refine zr_lcmp C dX10_inLowestTerms_13 ?_
  refine zr_if_ge C 19 dX10_inLowestTerms_14 (by decide) (fun hc3 => ?_) (fun hc3 => ?_)
  · have hJ := zif hc3 hJ
    refine zr_iload C 3 dX10_inLowestTerms_19 rfl ?_
    refine zr_if_eq C 28 dX10_inLowestTerms_21 (by decide) (fun hc4 => ?_) (fun hc4 => ?_)
    · have hJ := zif hc4 hJ
      refine zr_lload_n C 2 dX10_inLowestTerms_28 rfl ?_
      refine zr_lload C 0 dX10_inLowestTerms_29 rfl ?_
      obtain ⟨hn5, hJ⟩ := znl_e hJ
      refine zr_ldiv C dX10_inLowestTerms_31 hn5 ?_
      exact zr_lret C hret (zs_e hJ) rfl rfl dX10_inLowestTerms_32
    · have hJ := zif' hc4 hJ
      refine zr_lload_n C 1 dX10_inLowestTerms_24 rfl ?_
      refine zr_goto C 29 dX10_inLowestTerms_25 (by decide) ?_
      refine zr_lload C 0 dX10_inLowestTerms_29 rfl ?_
      obtain ⟨hn6, hJ⟩ := znl_e hJ
      refine zr_ldiv C dX10_inLowestTerms_31 hn6 ?_
      exact zr_lret C hret (zs_e hJ) rfl rfl dX10_inLowestTerms_32
  · have hJ := zif' hc3 hJ
    refine zr_lconst C dX10_inLowestTerms_17 (v := (0 : Int64)) (by decide) ?_
    exact zr_lret C hret (zs_e hJ) rfl rfl dX10_inLowestTerms_18
theorem dX10_isEither_0 : decode cX10_isEither 0 = .ok (.iload_n 0, 1) := by decide +kernel
theorem dX10_isEither_1 : decode cX10_isEither 1 = .ok (.ifCond .eq 8, 3) := by decide +kernel
theorem dX10_isEither_4 : decode cX10_isEither 4 = .ok (.iload_n 0, 1) := by decide +kernel
theorem dX10_isEither_5 : decode cX10_isEither 5 = .ok (.iconst 1, 1) := by decide +kernel
theorem dX10_isEither_6 : decode cX10_isEither 6 = .ok (.if_icmp .ne 7, 3) := by decide +kernel
theorem dX10_isEither_9 : decode cX10_isEither 9 = .ok (.iconst 1, 1) := by decide +kernel
theorem dX10_isEither_10 : decode cX10_isEither 10 = .ok (.goto 4, 3) := by decide +kernel
theorem dX10_isEither_13 : decode cX10_isEither 13 = .ok (.iconst 0, 1) := by decide +kernel
theorem dX10_isEither_14 : decode cX10_isEither 14 = .ok (.ireturn, 1) := by decide +kernel
set_option maxRecDepth 100000 in
set_option maxHeartbeats 4000000 in
theorem M_X10_isEither (G : zG) (l : Launch) {a0 : Int32} {σ : zS} {r : Int32} (hJ : J_X10_isEither a0 σ = some r) : zMI G l yX10_isEither cX10_isEither 1 (some .boolean) (zrm 0 0) [.int a0] 137 (zen G σ) r 137 (zen G σ) := by
  unfold J_X10_isEither at hJ
  refine zentI (by decide +kernel) (Nat.le_of_ble_eq_true rfl) ?_
  intro p e s m args below meth c C hret
  refine zr_sub [0] [(0, .int a0)] rfl ?_
  refine zr_iload_n C 0 dX10_isEither_0 rfl ?_
  refine zr_if_eq C 9 dX10_isEither_1 (by decide) (fun hc1 => ?_) (fun hc1 => ?_)
  · have hJ := zif hc1 hJ
    refine zr_iconst C dX10_isEither_9 (v := (1 : Int32)) (by decide) ?_
    refine zr_goto C 14 dX10_isEither_10 (by decide) ?_
    exact zr_zret C hret (zs_e hJ) rfl rfl rfl dX10_isEither_14
  · have hJ := zif' hc1 hJ
    refine zr_iload_n C 0 dX10_isEither_4 rfl ?_
    refine zr_iconst C dX10_isEither_5 (v := (1 : Int32)) (by decide) ?_
    refine zr_icmp_ne C 13 dX10_isEither_6 (by decide) (fun hc2 => ?_) (fun hc2 => ?_)
    · have hJ := zif' hc2 hJ
      refine zr_iconst C dX10_isEither_13 (v := (0 : Int32)) (by decide) ?_
      exact zr_zret C hret (zs_e hJ) rfl rfl rfl dX10_isEither_14
    · have hJ := zif hc2 hJ
      refine zr_iconst C dX10_isEither_9 (v := (1 : Int32)) (by decide) ?_
      refine zr_goto C 14 dX10_isEither_10 (by decide) ?_
      exact zr_zret C hret (zs_e hJ) rfl rfl rfl dX10_isEither_14
theorem dX6_farFrom_0 : decode cX6_farFrom 0 = .ok (.aload_n 1, 1) := by decide +kernel
theorem dX6_farFrom_1 : decode cX6_farFrom 1 = .ok (.iload_n 2, 1) := by decide +kernel
theorem dX6_farFrom_2 : decode cX6_farFrom 2 = .ok (.invokevirtual 39, 3) := by decide +kernel
theorem dX6_farFrom_5 : decode cX6_farFrom 5 = .ok (.i2l, 1) := by decide +kernel
theorem dX6_farFrom_6 : decode cX6_farFrom 6 = .ok (.lstore_n 3, 1) := by decide +kernel
theorem dX6_farFrom_7 : decode cX6_farFrom 7 = .ok (.lconst 0, 1) := by decide +kernel
theorem dX6_farFrom_8 : decode cX6_farFrom 8 = .ok (.lstore 5, 2) := by decide +kernel
theorem dX6_farFrom_10 : decode cX6_farFrom 10 = .ok (.iconst 0, 1) := by decide +kernel
theorem dX6_farFrom_11 : decode cX6_farFrom 11 = .ok (.istore 7, 2) := by decide +kernel
theorem dX6_farFrom_13 : decode cX6_farFrom 13 = .ok (.iload 7, 2) := by decide +kernel
theorem dX6_farFrom_15 : decode cX6_farFrom 15 = .ok (.bipush 16, 2) := by decide +kernel
theorem dX6_farFrom_17 : decode cX6_farFrom 17 = .ok (.if_icmp .ge 42, 3) := by decide +kernel
theorem dX6_farFrom_20 : decode cX6_farFrom 20 = .ok (.lload 5, 2) := by decide +kernel
theorem dX6_farFrom_22 : decode cX6_farFrom 22 = .ok (.aload_n 0, 1) := by decide +kernel
theorem dX6_farFrom_23 : decode cX6_farFrom 23 = .ok (.getfield 9, 3) := by decide +kernel
theorem dX6_farFrom_26 : decode cX6_farFrom 26 = .ok (.iload 7, 2) := by decide +kernel
theorem dX6_farFrom_28 : decode cX6_farFrom 28 = .ok (.iaload, 1) := by decide +kernel
theorem dX6_farFrom_29 : decode cX6_farFrom 29 = .ok (.i2l, 1) := by decide +kernel
theorem dX6_farFrom_30 : decode cX6_farFrom 30 = .ok (.lload_n 3, 1) := by decide +kernel
theorem dX6_farFrom_31 : decode cX6_farFrom 31 = .ok (.lmul, 1) := by decide +kernel
theorem dX6_farFrom_32 : decode cX6_farFrom 32 = .ok (.aload_n 1, 1) := by decide +kernel
theorem dX6_farFrom_33 : decode cX6_farFrom 33 = .ok (.iload 7, 2) := by decide +kernel
theorem dX6_farFrom_35 : decode cX6_farFrom 35 = .ok (.iload_n 2, 1) := by decide +kernel
theorem dX6_farFrom_36 : decode cX6_farFrom 36 = .ok (.invokevirtual 43, 3) := by decide +kernel
theorem dX6_farFrom_39 : decode cX6_farFrom 39 = .ok (.i2l, 1) := by decide +kernel
theorem dX6_farFrom_40 : decode cX6_farFrom 40 = .ok (.aload_n 0, 1) := by decide +kernel
theorem dX6_farFrom_41 : decode cX6_farFrom 41 = .ok (.getfield 15, 3) := by decide +kernel
theorem dX6_farFrom_44 : decode cX6_farFrom 44 = .ok (.i2l, 1) := by decide +kernel
theorem dX6_farFrom_45 : decode cX6_farFrom 45 = .ok (.lmul, 1) := by decide +kernel
theorem dX6_farFrom_46 : decode cX6_farFrom 46 = .ok (.lsub, 1) := by decide +kernel
theorem dX6_farFrom_47 : decode cX6_farFrom 47 = .ok (.invokestatic 47, 3) := by decide +kernel
theorem dX6_farFrom_50 : decode cX6_farFrom 50 = .ok (.ladd, 1) := by decide +kernel
theorem dX6_farFrom_51 : decode cX6_farFrom 51 = .ok (.lstore 5, 2) := by decide +kernel
theorem dX6_farFrom_53 : decode cX6_farFrom 53 = .ok (.iinc 7 1, 3) := by decide +kernel
theorem dX6_farFrom_56 : decode cX6_farFrom 56 = .ok (.goto (-43), 3) := by decide +kernel
theorem dX6_farFrom_59 : decode cX6_farFrom 59 = .ok (.lload 5, 2) := by decide +kernel
theorem dX6_farFrom_61 : decode cX6_farFrom 61 = .ok (.lreturn, 1) := by decide +kernel
set_option maxRecDepth 100000 in
set_option maxHeartbeats 4000000 in
theorem M_X6_farFrom (G : zG) (l : Launch) {p1 : Nat} (hp1 : zP p1 = true) {a2 : Int32} {σ : zS} {r : Int64} (hJ : J_X6_farFrom p1 a2 σ = some r) : zML G l yX6_farFrom cX6_farFrom 8 (some .long) (zrm 2 46) [.ref (G.1 + 89), .ref (G.1 + p1), .int a2] 137 (zen G σ) r 137 (zen G σ) := by
  unfold J_X6_farFrom at hJ
  refine zentL (by decide +kernel) (Nat.le_of_ble_eq_true rfl) ?_
  intro p e s m args below meth c C hret
  refine zr_sub [0, 1, 2] [(0, .ref (G.1 + 89)), (1, .ref (G.1 + p1)), (2, .int a2)] rfl ?_
  refine zr_aload_n C 1 dX6_farFrom_0 rfl ?_
  refine zr_iload_n C 2 dX6_farFrom_1 rfl ?_
  obtain ⟨r1, hr1, hJ⟩ := zb_e hJ
  refine zr_callVI C p1 (zk_lt (zkP_0 hp1) (by decide)) (zen_obj (zkP_0 hp1)) (rfl : zcl[3]? = some (RX3, TX3, 19)) (M_X3_total G l hp1 hr1) zin_X3_total zm_40_4 rfl rfl (Nat.le_of_ble_eq_true rfl) ⟨Nat.le_of_ble_eq_true rfl, Nat.le_of_ble_eq_true rfl⟩ ⟨Nat.le_of_ble_eq_true rfl, Nat.le_of_ble_eq_true rfl⟩ dX6_farFrom_2 ?_
  refine zr_i2l C dX6_farFrom_5 ?_
  obtain ⟨v2, hv2, hJ⟩ := zlet_e hJ
  refine zr_topl hv2 ?_
  refine zr_lstore_n C [(3, .long v2), (0, .ref (G.1 + 89)), (1, .ref (G.1 + p1)), (2, .int a2)] dX6_farFrom_6 (by decide) rfl ?_
  refine zr_lconst C dX6_farFrom_7 (v := (0 : Int64)) (by decide) ?_
  refine zr_lstore C [(5, .long (0 : Int64)), (3, .long v2), (0, .ref (G.1 + 89)), (1, .ref (G.1 + p1)), (2, .int a2)] dX6_farFrom_8 (by decide) rfl ?_
  refine zr_iconst C dX6_farFrom_10 (v := (0 : Int32)) (by decide) ?_
  refine zr_istore C [(7, .int (0 : Int32)), (5, .long (0 : Int64)), (3, .long v2), (0, .ref (G.1 + 89)), (1, .ref (G.1 + p1)), (2, .int a2)] dX6_farFrom_11 (by decide) rfl ?_
  have hl13 : ∀ (n : Nat) (w5_13 : Int64) (w7_13 : Int32), L_X6_farFrom_13 p1 a2 σ v2 n w5_13 w7_13 = some r → zU G 8 p l e (zrm 2 46) s m args below meth c (MQ below (va_Ql (fun x (_ : Unit) => x = r) (fun _ t => zok G 137 (zen G σ) t) (zA G)) args s 0 0 (zA G)) σ 13 [(0, .ref (G.1 + 89)), (1, .ref (G.1 + p1)), (2, .int a2), (3, .long v2), (5, .long w5_13), (7, .int w7_13)] [] := by
    intro n
    induction n with
    | zero =>
      intro w5_13 w7_13 hJ
      rw [L_X6_farFrom_13] at hJ
      cases hJ
    | succ n ih =>
      intro w5_13 w7_13 hJ
      rw [L_X6_farFrom_13] at hJ
      obtain ⟨r_13, hr_13, hJ⟩ := zlet_e hJ
      have ih13 : ∀ (w5_13 : Int64) (w7_13 : Int32), r_13 w5_13 w7_13 = some r → zU G 8 p l e (zrm 2 46) s m args below meth c (MQ below (va_Ql (fun x (_ : Unit) => x = r) (fun _ t => zok G 137 (zen G σ) t) (zA G)) args s 0 0 (zA G)) σ 13 [(0, .ref (G.1 + 89)), (1, .ref (G.1 + p1)), (2, .int a2), (3, .long v2), (5, .long w5_13), (7, .int w7_13)] [] := by
        rw [hr_13]
        exact ih
      refine zr_iload C 5 dX6_farFrom_13 rfl ?_
      refine zr_bipush C dX6_farFrom_15 (v := (16 : Int32)) (by decide) ?_
      refine zr_icmp_ge C 59 dX6_farFrom_17 (by decide) (fun hc3 => ?_) (fun hc3 => ?_)
      · have hJ := zif hc3 hJ
        refine zr_lload C 4 dX6_farFrom_59 rfl ?_
        exact zr_lret C hret (zs_e hJ) rfl rfl dX6_farFrom_61
      · have hJ := zif' hc3 hJ
        refine zr_lload C 4 dX6_farFrom_20 rfl ?_
        refine zr_aload_n C 0 dX6_farFrom_22 rfl ?_
        refine zg_6_0 C 89 zk_89 zm_6_1 dX6_farFrom_23 ?_
        refine zr_iload C 5 dX6_farFrom_26 rfl ?_
        obtain ⟨hg4, hJ⟩ := zg_e hJ
        refine zu_iald C 90 zk_90 hg4 dX6_farFrom_28 ?_
        refine zr_i2l C dX6_farFrom_29 ?_
        refine zr_lload_n C 3 dX6_farFrom_30 rfl ?_
        refine zr_lmul C dX6_farFrom_31 ?_
        refine zr_aload_n C 1 dX6_farFrom_32 rfl ?_
        refine zr_iload C 5 dX6_farFrom_33 rfl ?_
        refine zr_iload_n C 2 dX6_farFrom_35 rfl ?_
        obtain ⟨r5, hr5, hJ⟩ := zb_e hJ
        refine zr_callVI C p1 (zk_lt (zkP_0 hp1) (by decide)) (zen_obj (zkP_0 hp1)) (rfl : zcl[3]? = some (RX3, TX3, 19)) (M_X3_made G l hp1 hr5) zin_X3_made zm_40_5 rfl rfl (Nat.le_of_ble_eq_true rfl) ⟨Nat.le_of_ble_eq_true rfl, Nat.le_of_ble_eq_true rfl⟩ ⟨Nat.le_of_ble_eq_true rfl, Nat.le_of_ble_eq_true rfl⟩ dX6_farFrom_36 ?_
        refine zr_i2l C dX6_farFrom_39 ?_
        refine zr_aload_n C 0 dX6_farFrom_40 rfl ?_
        refine zg_6_1 C 89 zk_89 zm_6_2 dX6_farFrom_41 ?_
        refine zr_i2l C dX6_farFrom_44 ?_
        refine zr_lmul C dX6_farFrom_45 ?_
        refine zr_lsub C dX6_farFrom_46 ?_
        refine zr_mabs_long C zm_40_3 zMs_abs_long zMi zMc_abs_long (Nat.le_of_ble_eq_true rfl) (Nat.le_of_ble_eq_true rfl) ⟨Nat.le_of_ble_eq_true rfl, Nat.le_of_ble_eq_true rfl⟩ dX6_farFrom_47 ?_
        obtain ⟨v6, hv6, hJ⟩ := zlet_e hJ
        refine zr_topl hv6 ?_
        refine zr_ladd C dX6_farFrom_50 ?_
        obtain ⟨v7, hv7, hJ⟩ := zlet_e hJ
        refine zr_topl hv7 ?_
        refine zr_lstore C [(5, .long v7), (0, .ref (G.1 + 89)), (1, .ref (G.1 + p1)), (2, .int a2), (3, .long v2), (7, .int w7_13)] dX6_farFrom_51 (by decide) rfl ?_
        obtain ⟨v8, hv8, hJ⟩ := zlet_e hJ
        refine zr_iinc C v8 5 [(7, .int v8), (5, .long v7), (0, .ref (G.1 + 89)), (1, .ref (G.1 + p1)), (2, .int a2), (3, .long v2)] dX6_farFrom_53 rfl (hv8.trans (zinc (by decide))) (by decide) rfl ?_
        refine zr_goto C 13 dX6_farFrom_56 (by decide) ?_
        refine zr_sub [2, 3, 4, 5, 1, 0] [(0, .ref (G.1 + 89)), (1, .ref (G.1 + p1)), (2, .int a2), (3, .long v2), (5, .long v7), (7, .int v8)] rfl ?_
        exact ih13 _ _ hJ
  refine zr_sub [3, 4, 5, 2, 1, 0] [(0, .ref (G.1 + 89)), (1, .ref (G.1 + p1)), (2, .int a2), (3, .long v2), (5, .long (0 : Int64)), (7, .int (0 : Int32))] rfl ?_
  exact hl13 _ _ _ hJ
theorem dX10_far_0 : decode cX10_far 0 = .ok (.iload_n 1, 1) := by decide +kernel
theorem dX10_far_1 : decode cX10_far 1 = .ok (.iload_n 2, 1) := by decide +kernel
theorem dX10_far_2 : decode cX10_far 2 = .ok (.iload_n 3, 1) := by decide +kernel
theorem dX10_far_3 : decode cX10_far 3 = .ok (.iload 4, 2) := by decide +kernel
theorem dX10_far_5 : decode cX10_far 5 = .ok (.invokestatic 279, 3) := by decide +kernel
theorem dX10_far_8 : decode cX10_far 8 = .ok (.ifCond .eq 11, 3) := by decide +kernel
theorem dX10_far_11 : decode cX10_far 11 = .ok (.iload 5, 2) := by decide +kernel
theorem dX10_far_13 : decode cX10_far 13 = .ok (.invokestatic 152, 3) := by decide +kernel
theorem dX10_far_16 : decode cX10_far 16 = .ok (.ifCond .ne 7, 3) := by decide +kernel
theorem dX10_far_19 : decode cX10_far 19 = .ok (.ldc2_w 302, 3) := by decide +kernel
theorem dX10_far_22 : decode cX10_far 22 = .ok (.lreturn, 1) := by decide +kernel
theorem dX10_far_23 : decode cX10_far 23 = .ok (.aload_n 0, 1) := by decide +kernel
theorem dX10_far_24 : decode cX10_far 24 = .ok (.getfield 59, 3) := by decide +kernel
theorem dX10_far_27 : decode cX10_far 27 = .ok (.aload_n 0, 1) := by decide +kernel
theorem dX10_far_28 : decode cX10_far 28 = .ok (.getfield 19, 3) := by decide +kernel
theorem dX10_far_31 : decode cX10_far 31 = .ok (.iload_n 1, 1) := by decide +kernel
theorem dX10_far_32 : decode cX10_far 32 = .ok (.iload_n 2, 1) := by decide +kernel
theorem dX10_far_33 : decode cX10_far 33 = .ok (.iload_n 3, 1) := by decide +kernel
theorem dX10_far_34 : decode cX10_far 34 = .ok (.iload 4, 2) := by decide +kernel
theorem dX10_far_36 : decode cX10_far 36 = .ok (.invokevirtual 283, 3) := by decide +kernel
theorem dX10_far_39 : decode cX10_far 39 = .ok (.aload_n 0, 1) := by decide +kernel
theorem dX10_far_40 : decode cX10_far 40 = .ok (.getfield 59, 3) := by decide +kernel
theorem dX10_far_43 : decode cX10_far 43 = .ok (.getfield 290, 3) := by decide +kernel
theorem dX10_far_46 : decode cX10_far 46 = .ok (.i2l, 1) := by decide +kernel
theorem dX10_far_47 : decode cX10_far 47 = .ok (.aload_n 0, 1) := by decide +kernel
theorem dX10_far_48 : decode cX10_far 48 = .ok (.getfield 19, 3) := by decide +kernel
theorem dX10_far_51 : decode cX10_far 51 = .ok (.iload_n 1, 1) := by decide +kernel
theorem dX10_far_52 : decode cX10_far 52 = .ok (.invokevirtual 148, 3) := by decide +kernel
theorem dX10_far_55 : decode cX10_far 55 = .ok (.i2l, 1) := by decide +kernel
theorem dX10_far_56 : decode cX10_far 56 = .ok (.lmul, 1) := by decide +kernel
theorem dX10_far_57 : decode cX10_far 57 = .ok (.lstore 6, 2) := by decide +kernel
theorem dX10_far_59 : decode cX10_far 59 = .ok (.lload 6, 2) := by decide +kernel
theorem dX10_far_61 : decode cX10_far 61 = .ok (.lconst 1, 1) := by decide +kernel
theorem dX10_far_62 : decode cX10_far 62 = .ok (.lcmp, 1) := by decide +kernel
theorem dX10_far_63 : decode cX10_far 63 = .ok (.ifCond .ge 7, 3) := by decide +kernel
theorem dX10_far_66 : decode cX10_far 66 = .ok (.ldc2_w 304, 3) := by decide +kernel
theorem dX10_far_69 : decode cX10_far 69 = .ok (.lreturn, 1) := by decide +kernel
theorem dX10_far_70 : decode cX10_far 70 = .ok (.aload_n 0, 1) := by decide +kernel
theorem dX10_far_71 : decode cX10_far 71 = .ok (.getfield 59, 3) := by decide +kernel
theorem dX10_far_74 : decode cX10_far 74 = .ok (.aload_n 0, 1) := by decide +kernel
theorem dX10_far_75 : decode cX10_far 75 = .ok (.getfield 19, 3) := by decide +kernel
theorem dX10_far_78 : decode cX10_far 78 = .ok (.iload_n 1, 1) := by decide +kernel
theorem dX10_far_79 : decode cX10_far 79 = .ok (.invokevirtual 306, 3) := by decide +kernel
theorem dX10_far_82 : decode cX10_far 82 = .ok (.lload 6, 2) := by decide +kernel
theorem dX10_far_84 : decode cX10_far 84 = .ok (.iload 5, 2) := by decide +kernel
theorem dX10_far_86 : decode cX10_far 86 = .ok (.ifCond .ne 7, 3) := by decide +kernel
theorem dX10_far_89 : decode cX10_far 89 = .ok (.iconst 1, 1) := by decide +kernel
theorem dX10_far_90 : decode cX10_far 90 = .ok (.goto 4, 3) := by decide +kernel
theorem dX10_far_93 : decode cX10_far 93 = .ok (.iconst 0, 1) := by decide +kernel
theorem dX10_far_94 : decode cX10_far 94 = .ok (.invokestatic 155, 3) := by decide +kernel
theorem dX10_far_97 : decode cX10_far 97 = .ok (.lreturn, 1) := by decide +kernel
set_option maxRecDepth 100000 in
set_option maxHeartbeats 4000000 in
theorem M_X10_far (G : zG) (l : Launch) {a1 : Int32} {a2 : Int32} {a3 : Int32} {a4 : Int32} {a5 : Int32} {σ : zS} {r : Int64} {σ' : zS} (hJ : J_X10_far a1 a2 a3 a4 a5 σ = some (r, σ')) : zML G l yX10_far cX10_far 8 (some .long) (zrm 3 73) [.ref (G.1 + 0), .int a1, .int a2, .int a3, .int a4, .int a5] 137 (zen G σ) r 137 (zen G σ') := by
  unfold J_X10_far at hJ
  refine zentL (by decide +kernel) (Nat.le_of_ble_eq_true rfl) ?_
  intro p e s m args below meth c C hret
  refine zr_sub [0, 1, 2, 3, 4, 5] [(0, .ref (G.1 + 0)), (1, .int a1), (2, .int a2), (3, .int a3), (4, .int a4), (5, .int a5)] rfl ?_
  refine zr_iload_n C 1 dX10_far_0 rfl ?_
  refine zr_iload_n C 2 dX10_far_1 rfl ?_
  refine zr_iload_n C 3 dX10_far_2 rfl ?_
  refine zr_iload C 4 dX10_far_3 rfl ?_
  obtain ⟨r1, hr1, hJ⟩ := zb_e hJ
  refine zr_callSI C (M_X10_areSamples G l hr1) zin_X10_areSamples zm_37_13 rfl rfl (Nat.le_of_ble_eq_true rfl) ⟨Nat.le_of_ble_eq_true rfl, Nat.le_of_ble_eq_true rfl⟩ ⟨Nat.le_of_ble_eq_true rfl, Nat.le_of_ble_eq_true rfl⟩ dX10_far_5 ?_
  refine zr_if_eq C 19 dX10_far_8 (by decide) (fun hc2 => ?_) (fun hc2 => ?_)
  · have hJ := zif hc2 hJ
    refine zr_ldc2 C dX10_far_19 zm_39_21 ?_
    exact zr_lret C hret (Prod.mk.inj (zs_e hJ)).1 rfl (congrArg (zen G) (Prod.mk.inj (zs_e hJ)).2) dX10_far_22
  · have hJ := zif' hc2 hJ
    refine zr_iload C 5 dX10_far_11 rfl ?_
    obtain ⟨r3, hr3, hJ⟩ := zb_e hJ
    refine zr_callSI C (M_X10_isEither G l hr3) zin_X10_isEither zm_23_7 rfl rfl (Nat.le_of_ble_eq_true rfl) ⟨Nat.le_of_ble_eq_true rfl, Nat.le_of_ble_eq_true rfl⟩ ⟨Nat.le_of_ble_eq_true rfl, Nat.le_of_ble_eq_true rfl⟩ dX10_far_13 ?_
    refine zr_if_ne C 23 dX10_far_16 (by decide) (fun hc4 => ?_) (fun hc4 => ?_)
    · have hJ := zif' hc4 hJ
      refine zr_aload_n C 0 dX10_far_23 rfl ?_
      refine zg_10_7 C 0 zk_0 zm_2_17 dX10_far_24 ?_
      refine zr_aload_n C 0 dX10_far_27 rfl ?_
      obtain ⟨p5, hp5, hJ⟩ := zlet_e hJ
      obtain ⟨hp6, hJ⟩ := zg_e hJ
      refine zg_10_1 C 0 zk_0 zm_1_20 dX10_far_28 ?_
      refine zr_topr hp5 ?_
      refine zr_iload_n C 1 dX10_far_31 rfl ?_
      refine zr_iload_n C 2 dX10_far_32 rfl ?_
      refine zr_iload_n C 3 dX10_far_33 rfl ?_
      refine zr_iload C 4 dX10_far_34 rfl ?_
      obtain ⟨σ8, hr7, hJ⟩ := zb_e hJ
      refine zr_callVV C 89 (zk_lt zk_89 (by decide)) (zen_obj zk_89) (rfl : zcl[6]? = some (RX6, TX6, 3)) (M_X6_take G l hp6 hr7) zin_X6_take zm_37_16 rfl rfl (Nat.le_of_ble_eq_true rfl) ⟨Nat.le_of_ble_eq_true rfl, Nat.le_of_ble_eq_true rfl⟩ ⟨Nat.le_of_ble_eq_true rfl, Nat.le_of_ble_eq_true rfl⟩ dX10_far_36 ?_
      refine zr_aload_n C 0 dX10_far_39 rfl ?_
      refine zg_10_7 C 0 zk_0 zm_2_17 dX10_far_40 ?_
      refine zg_6_1 C 89 zk_89 zm_38_23 dX10_far_43 ?_
      refine zr_i2l C dX10_far_46 ?_
      refine zr_aload_n C 0 dX10_far_47 rfl ?_
      obtain ⟨p9, hp9, hJ⟩ := zlet_e hJ
      obtain ⟨hp10, hJ⟩ := zg_e hJ
      refine zg_10_1 C 0 zk_0 zm_1_20 dX10_far_48 ?_
      refine zr_topr hp9 ?_
      refine zr_iload_n C 1 dX10_far_51 rfl ?_
      obtain ⟨r11, hr11, hJ⟩ := zb_e hJ
      refine zr_callVI C p9 (zk_lt (zkP_0 hp10) (by decide)) (zen_obj (zkP_0 hp10)) (rfl : zcl[3]? = some (RX3, TX3, 19)) (M_X3_total G l hp10 hr11) zin_X3_total zm_22_11 rfl rfl (Nat.le_of_ble_eq_true rfl) ⟨Nat.le_of_ble_eq_true rfl, Nat.le_of_ble_eq_true rfl⟩ ⟨Nat.le_of_ble_eq_true rfl, Nat.le_of_ble_eq_true rfl⟩ dX10_far_52 ?_
      refine zr_i2l C dX10_far_55 ?_
      refine zr_lmul C dX10_far_56 ?_
      obtain ⟨v12, hv12, hJ⟩ := zlet_e hJ
      refine zr_topl hv12 ?_
      refine zr_lstore C [(6, .long v12), (0, .ref (G.1 + 0)), (1, .int a1), (2, .int a2), (3, .int a3), (4, .int a4), (5, .int a5)] dX10_far_57 (by decide) rfl ?_
      refine zr_lload C 0 dX10_far_59 rfl ?_
      refine zr_lconst C dX10_far_61 (v := (1 : Int64)) (by decide) ?_
      refine zr_lcmp C dX10_far_62 ?_
      refine zr_if_ge C 70 dX10_far_63 (by decide) (fun hc13 => ?_) (fun hc13 => ?_)
      · have hJ := zif hc13 hJ
        refine zr_aload_n C 1 dX10_far_70 rfl ?_
        refine zg_10_7 C 0 zk_0 zm_2_17 dX10_far_71 ?_
        refine zr_aload_n C 1 dX10_far_74 rfl ?_
        obtain ⟨p14, hp14, hJ⟩ := zlet_e hJ
        obtain ⟨hp15, hJ⟩ := zg_e hJ
        refine zg_10_1 C 0 zk_0 zm_1_20 dX10_far_75 ?_
        refine zr_topr hp14 ?_
        refine zr_iload_n C 2 dX10_far_78 rfl ?_
        obtain ⟨r16, hr16, hJ⟩ := zb_e hJ
        refine zr_callVL C 89 (zk_lt zk_89 (by decide)) (zen_obj zk_89) (rfl : zcl[6]? = some (RX6, TX6, 3)) (M_X6_farFrom G l hp15 hr16) zin_X6_farFrom zm_39_23 rfl rfl (Nat.le_of_ble_eq_true rfl) ⟨Nat.le_of_ble_eq_true rfl, Nat.le_of_ble_eq_true rfl⟩ ⟨Nat.le_of_ble_eq_true rfl, Nat.le_of_ble_eq_true rfl⟩ dX10_far_79 ?_
        refine zr_lload C 0 dX10_far_82 rfl ?_
        refine zr_iload C 6 dX10_far_84 rfl ?_
        obtain ⟨v17, hv17, hJ⟩ := zlet_e hJ
        have hf19 : zU G 8 p l e (zrm 3 73) s m args below meth c (MQ below (va_Ql (fun x (_ : Unit) => x = r) (fun _ t => zok G 137 (zen G σ') t) (zA G)) args s 0 0 (zA G)) σ8 94 [] [.int v17, .long v12, .long r16] := by
          obtain ⟨r18, hr18, hJ⟩ := zb_e hJ
          refine zr_callSL C (M_X10_inLowestTerms G l hr18) zin_X10_inLowestTerms zm_23_10 rfl rfl (Nat.le_of_ble_eq_true rfl) ⟨Nat.le_of_ble_eq_true rfl, Nat.le_of_ble_eq_true rfl⟩ ⟨Nat.le_of_ble_eq_true rfl, Nat.le_of_ble_eq_true rfl⟩ dX10_far_94 ?_
          exact zr_lret C hret (Prod.mk.inj (zs_e hJ)).1 rfl (congrArg (zen G) (Prod.mk.inj (zs_e hJ)).2) dX10_far_97
        refine zr_if_ne C 93 dX10_far_86 (by decide) (fun hc20 => ?_) (fun hc20 => ?_)
        · have hv17 := hv17.trans (if_neg hc20)
          refine zr_iconst C dX10_far_93 (v := (0 : Int32)) (by decide) ?_
          refine zr_sub [] [] rfl ?_
          rw [hv17] at hf19
          exact hf19
        · have hv17 := hv17.trans (if_pos hc20)
          refine zr_iconst C dX10_far_89 (v := (1 : Int32)) (by decide) ?_
          refine zr_goto C 94 dX10_far_90 (by decide) ?_
          refine zr_sub [] [] rfl ?_
          rw [hv17] at hf19
          exact hf19
      · have hJ := zif' hc13 hJ
        refine zr_ldc2 C dX10_far_66 zm_39_22 ?_
        exact zr_lret C hret (Prod.mk.inj (zs_e hJ)).1 rfl (congrArg (zen G) (Prod.mk.inj (zs_e hJ)).2) dX10_far_69
    · have hJ := zif hc4 hJ
      refine zr_ldc2 C dX10_far_19 zm_39_21 ?_
      exact zr_lret C hret (Prod.mk.inj (zs_e hJ)).1 rfl (congrArg (zen G) (Prod.mk.inj (zs_e hJ)).2) dX10_far_22
theorem dX10_fault_0 : decode cX10_fault 0 = .ok (.aload_n 0, 1) := by decide +kernel
theorem dX10_fault_1 : decode cX10_fault 1 = .ok (.getfield 84, 3) := by decide +kernel
theorem dX10_fault_4 : decode cX10_fault 4 = .ok (.ireturn, 1) := by decide +kernel
set_option maxRecDepth 100000 in
set_option maxHeartbeats 4000000 in
theorem M_X10_fault (G : zG) (l : Launch) {σ : zS} {r : Int32} (hJ : J_X10_fault σ = some r) : zMI G l yX10_fault cX10_fault 1 (some .int) (zrm 0 0) [.ref (G.1 + 0)] 137 (zen G σ) r 137 (zen G σ) := by
  unfold J_X10_fault at hJ
  refine zentI (by decide +kernel) (Nat.le_of_ble_eq_true rfl) ?_
  intro p e s m args below meth c C hret
  refine zr_sub [0] [(0, .ref (G.1 + 0))] rfl ?_
  refine zr_aload_n C 0 dX10_fault_0 rfl ?_
  refine zg_10_11 C 0 zk_0 zm_3_6 dX10_fault_1 ?_
  exact zr_iret C hret (zs_e hJ) rfl rfl dX10_fault_4
theorem dX8_addEight_0 : decode cX8_addEight 0 = .ok (.aload_n 0, 1) := by decide +kernel
theorem dX8_addEight_1 : decode cX8_addEight 1 = .ok (.getfield 13, 3) := by decide +kernel
theorem dX8_addEight_4 : decode cX8_addEight 4 = .ok (.bipush 8, 2) := by decide +kernel
theorem dX8_addEight_6 : decode cX8_addEight 6 = .ok (.iadd, 1) := by decide +kernel
theorem dX8_addEight_7 : decode cX8_addEight 7 = .ok (.sipush 320, 3) := by decide +kernel
theorem dX8_addEight_10 : decode cX8_addEight 10 = .ok (.if_icmp .le 5, 3) := by decide +kernel
theorem dX8_addEight_13 : decode cX8_addEight 13 = .ok (.iconst 0, 1) := by decide +kernel
theorem dX8_addEight_14 : decode cX8_addEight 14 = .ok (.ireturn, 1) := by decide +kernel
theorem dX8_addEight_15 : decode cX8_addEight 15 = .ok (.bipush 56, 2) := by decide +kernel
theorem dX8_addEight_17 : decode cX8_addEight 17 = .ok (.istore_n 3, 1) := by decide +kernel
theorem dX8_addEight_18 : decode cX8_addEight 18 = .ok (.iload_n 3, 1) := by decide +kernel
theorem dX8_addEight_19 : decode cX8_addEight 19 = .ok (.ifCond .lt 33, 3) := by decide +kernel
theorem dX8_addEight_22 : decode cX8_addEight 22 = .ok (.aload_n 0, 1) := by decide +kernel
theorem dX8_addEight_23 : decode cX8_addEight 23 = .ok (.getfield 9, 3) := by decide +kernel
theorem dX8_addEight_26 : decode cX8_addEight 26 = .ok (.aload_n 0, 1) := by decide +kernel
theorem dX8_addEight_27 : decode cX8_addEight 27 = .ok (.getfield 13, 3) := by decide +kernel
theorem dX8_addEight_30 : decode cX8_addEight 30 = .ok (.lload_n 1, 1) := by decide +kernel
theorem dX8_addEight_31 : decode cX8_addEight 31 = .ok (.iload_n 3, 1) := by decide +kernel
theorem dX8_addEight_32 : decode cX8_addEight 32 = .ok (.lshr, 1) := by decide +kernel
theorem dX8_addEight_33 : decode cX8_addEight 33 = .ok (.l2i, 1) := by decide +kernel
theorem dX8_addEight_34 : decode cX8_addEight 34 = .ok (.i2b, 1) := by decide +kernel
theorem dX8_addEight_35 : decode cX8_addEight 35 = .ok (.bastore, 1) := by decide +kernel
theorem dX8_addEight_36 : decode cX8_addEight 36 = .ok (.aload_n 0, 1) := by decide +kernel
theorem dX8_addEight_37 : decode cX8_addEight 37 = .ok (.dup, 1) := by decide +kernel
theorem dX8_addEight_38 : decode cX8_addEight 38 = .ok (.getfield 13, 3) := by decide +kernel
theorem dX8_addEight_41 : decode cX8_addEight 41 = .ok (.iconst 1, 1) := by decide +kernel
theorem dX8_addEight_42 : decode cX8_addEight 42 = .ok (.iadd, 1) := by decide +kernel
theorem dX8_addEight_43 : decode cX8_addEight 43 = .ok (.putfield 13, 3) := by decide +kernel
theorem dX8_addEight_46 : decode cX8_addEight 46 = .ok (.iinc 3 (-8), 3) := by decide +kernel
theorem dX8_addEight_49 : decode cX8_addEight 49 = .ok (.goto (-31), 3) := by decide +kernel
theorem dX8_addEight_52 : decode cX8_addEight 52 = .ok (.iconst 1, 1) := by decide +kernel
theorem dX8_addEight_53 : decode cX8_addEight 53 = .ok (.ireturn, 1) := by decide +kernel
set_option maxRecDepth 100000 in
set_option maxHeartbeats 4000000 in
theorem M_X8_addEight (G : zG) (l : Launch) {a1 : Int64} {σ : zS} {r : Int32} {σ' : zS} (hJ : J_X8_addEight a1 σ = some (r, σ')) : zMI G l yX8_addEight cX8_addEight 4 (some .boolean) (zrm 0 0) [.ref (G.1 + 1), .long a1] 137 (zen G σ) r 137 (zen G σ') := by
  unfold J_X8_addEight at hJ
  refine zentI (by decide +kernel) (Nat.le_of_ble_eq_true rfl) ?_
  intro p e s m args below meth c C hret
  refine zr_sub [0, 1] [(0, .ref (G.1 + 1)), (1, .long a1)] rfl ?_
  refine zr_aload_n C 0 dX8_addEight_0 rfl ?_
  refine zg_8_1 C 1 zk_1 zm_3_12 dX8_addEight_1 ?_
  refine zr_bipush C dX8_addEight_4 (v := (8 : Int32)) (by decide) ?_
  refine zr_iadd C dX8_addEight_6 ?_
  refine zr_sipush C dX8_addEight_7 (v := (320 : Int32)) (by decide) ?_
  refine zr_icmp_le C 15 dX8_addEight_10 (by decide) (fun hc1 => ?_) (fun hc1 => ?_)
  · have hJ := zif hc1 hJ
    refine zr_bipush C dX8_addEight_15 (v := (56 : Int32)) (by decide) ?_
    refine zr_istore_n C [(3, .int (56 : Int32)), (0, .ref (G.1 + 1)), (1, .long a1)] dX8_addEight_17 (by decide) rfl ?_
    have hl18 : ∀ (n : Nat) (w3_18 : Int32) (σ_18 : zS), L_X8_addEight_18 a1 n w3_18 σ_18 = some (r, σ') → zU G 4 p l e (zrm 0 0) s m args below meth c (MQ below (va_Qi (fun x (_ : Unit) => x = r) (fun _ t => zok G 137 (zen G σ') t) (zA G)) args s 0 0 (zA G)) σ_18 18 [(0, .ref (G.1 + 1)), (1, .long a1), (3, .int w3_18)] [] := by
      intro n
      induction n with
      | zero =>
        intro w3_18 σ_18 hJ
        rw [L_X8_addEight_18] at hJ
        cases hJ
      | succ n ih =>
        intro w3_18 σ_18 hJ
        rw [L_X8_addEight_18] at hJ
        obtain ⟨r_18, hr_18, hJ⟩ := zlet_e hJ
        have ih18 : ∀ (w3_18 : Int32) (σ_18 : zS), r_18 w3_18 σ_18 = some (r, σ') → zU G 4 p l e (zrm 0 0) s m args below meth c (MQ below (va_Qi (fun x (_ : Unit) => x = r) (fun _ t => zok G 137 (zen G σ') t) (zA G)) args s 0 0 (zA G)) σ_18 18 [(0, .ref (G.1 + 1)), (1, .long a1), (3, .int w3_18)] [] := by
          rw [hr_18]
          exact ih
        refine zr_iload_n C 2 dX8_addEight_18 rfl ?_
        refine zr_if_lt C 52 dX8_addEight_19 (by decide) (fun hc2 => ?_) (fun hc2 => ?_)
        · have hJ := zif hc2 hJ
          refine zr_iconst C dX8_addEight_52 (v := (1 : Int32)) (by decide) ?_
          exact zr_zret C hret (Prod.mk.inj (zs_e hJ)).1 rfl rfl (congrArg (zen G) (Prod.mk.inj (zs_e hJ)).2) dX8_addEight_53
        · have hJ := zif' hc2 hJ
          refine zr_aload_n C 0 dX8_addEight_22 rfl ?_
          refine zg_8_0 C 1 zk_1 zm_3_11 dX8_addEight_23 ?_
          refine zr_aload_n C 0 dX8_addEight_26 rfl ?_
          refine zg_8_1 C 1 zk_1 zm_3_12 dX8_addEight_27 ?_
          refine zr_lload_n C 1 dX8_addEight_30 rfl ?_
          refine zr_iload_n C 2 dX8_addEight_31 rfl ?_
          refine zr_lshr C dX8_addEight_32 ?_
          refine zr_l2i C dX8_addEight_33 ?_
          refine zr_i2b C dX8_addEight_34 ?_
          obtain ⟨hg3, hJ⟩ := zg_e hJ
          obtain ⟨σ4, hσ4, hJ⟩ := zlet_e hJ
          refine zv_bast C 2 zk_2 hg3 hσ4 dX8_addEight_35 ?_
          refine zr_aload_n C 0 dX8_addEight_36 rfl ?_
          refine zr_dup C dX8_addEight_37 rfl ?_
          refine zg_8_1 C 1 zk_1 zm_3_12 dX8_addEight_38 ?_
          refine zr_iconst C dX8_addEight_41 (v := (1 : Int32)) (by decide) ?_
          refine zr_iadd C dX8_addEight_42 ?_
          obtain ⟨σ5, hσ5, hJ⟩ := zlet_e hJ
          refine zp_8_1 C 1 zk_1 zm_3_12 hσ5 dX8_addEight_43 ?_
          obtain ⟨v6, hv6, hJ⟩ := zlet_e hJ
          refine zr_iinc C v6 2 [(3, .int v6), (0, .ref (G.1 + 1)), (1, .long a1)] dX8_addEight_46 rfl (hv6.trans (zinc (by decide))) (by decide) rfl ?_
          refine zr_goto C 18 dX8_addEight_49 (by decide) ?_
          refine zr_sub [1, 2, 0] [(0, .ref (G.1 + 1)), (1, .long a1), (3, .int v6)] rfl ?_
          exact ih18 _ _ hJ
    refine zr_sub [1, 2, 0] [(0, .ref (G.1 + 1)), (1, .long a1), (3, .int (56 : Int32))] rfl ?_
    exact hl18 _ _ _ hJ
  · have hJ := zif' hc1 hJ
    refine zr_iconst C dX8_addEight_13 (v := (0 : Int32)) (by decide) ?_
    exact zr_zret C hret (Prod.mk.inj (zs_e hJ)).1 rfl rfl (congrArg (zen G) (Prod.mk.inj (zs_e hJ)).2) dX8_addEight_14
theorem dX10_feed_0 : decode cX10_feed 0 = .ok (.aload_n 0, 1) := by decide +kernel
theorem dX10_feed_1 : decode cX10_feed 1 = .ok (.getfield 10, 3) := by decide +kernel
theorem dX10_feed_4 : decode cX10_feed 4 = .ok (.lload_n 1, 1) := by decide +kernel
theorem dX10_feed_5 : decode cX10_feed 5 = .ok (.invokevirtual 92, 3) := by decide +kernel
theorem dX10_feed_8 : decode cX10_feed 8 = .ok (.ifCond .eq 13, 3) := by decide +kernel
theorem dX10_feed_11 : decode cX10_feed 11 = .ok (.aload_n 0, 1) := by decide +kernel
theorem dX10_feed_12 : decode cX10_feed 12 = .ok (.getfield 10, 3) := by decide +kernel
theorem dX10_feed_15 : decode cX10_feed 15 = .ok (.getfield 96, 3) := by decide +kernel
theorem dX10_feed_18 : decode cX10_feed 18 = .ok (.goto 5, 3) := by decide +kernel
theorem dX10_feed_21 : decode cX10_feed 21 = .ok (.bipush (-3), 2) := by decide +kernel
theorem dX10_feed_23 : decode cX10_feed 23 = .ok (.ireturn, 1) := by decide +kernel
set_option maxRecDepth 100000 in
set_option maxHeartbeats 4000000 in
theorem M_X10_feed (G : zG) (l : Launch) {a1 : Int64} {σ : zS} {r : Int32} {σ' : zS} (hJ : J_X10_feed a1 σ = some (r, σ')) : zMI G l yX10_feed cX10_feed 3 (some .int) (zrm 1 23) [.ref (G.1 + 0), .long a1] 137 (zen G σ) r 137 (zen G σ') := by
  unfold J_X10_feed at hJ
  refine zentI (by decide +kernel) (Nat.le_of_ble_eq_true rfl) ?_
  intro p e s m args below meth c C hret
  refine zr_sub [0, 1] [(0, .ref (G.1 + 0)), (1, .long a1)] rfl ?_
  refine zr_aload_n C 0 dX10_feed_0 rfl ?_
  refine zg_10_0 C 0 zk_0 zm_1_16 dX10_feed_1 ?_
  refine zr_lload_n C 1 dX10_feed_4 rfl ?_
  obtain ⟨r1, σ2, hr1, hJ⟩ := zb2_e hJ
  refine zr_callVI C 1 (zk_lt zk_1 (by decide)) (zen_obj zk_1) (rfl : zcl[8]? = some (RX8, TX8, 2)) (M_X8_addEight G l hr1) zin_X8_addEight zm_9_4 rfl rfl (Nat.le_of_ble_eq_true rfl) ⟨Nat.le_of_ble_eq_true rfl, Nat.le_of_ble_eq_true rfl⟩ ⟨Nat.le_of_ble_eq_true rfl, Nat.le_of_ble_eq_true rfl⟩ dX10_feed_5 ?_
  refine zr_if_eq C 21 dX10_feed_8 (by decide) (fun hc3 => ?_) (fun hc3 => ?_)
  · have hJ := zif hc3 hJ
    refine zr_bipush C dX10_feed_21 (v := (-3 : Int32)) (by decide) ?_
    exact zr_iret C hret (Prod.mk.inj (zs_e hJ)).1 rfl (congrArg (zen G) (Prod.mk.inj (zs_e hJ)).2) dX10_feed_23
  · have hJ := zif' hc3 hJ
    refine zr_aload_n C 0 dX10_feed_11 rfl ?_
    refine zg_10_0 C 0 zk_0 zm_1_16 dX10_feed_12 ?_
    refine zg_8_1 C 1 zk_1 zm_9_3 dX10_feed_15 ?_
    refine zr_goto C 23 dX10_feed_18 (by decide) ?_
    exact zr_iret C hret (Prod.mk.inj (zs_e hJ)).1 rfl (congrArg (zen G) (Prod.mk.inj (zs_e hJ)).2) dX10_feed_23
theorem dX3_bestLine_0 : decode cX3_bestLine 0 = .ok (.iconst (-1), 1) := by decide +kernel
theorem dX3_bestLine_1 : decode cX3_bestLine 1 = .ok (.istore 4, 2) := by decide +kernel
theorem dX3_bestLine_3 : decode cX3_bestLine 3 = .ok (.iconst 0, 1) := by decide +kernel
theorem dX3_bestLine_4 : decode cX3_bestLine 4 = .ok (.istore 5, 2) := by decide +kernel
theorem dX3_bestLine_6 : decode cX3_bestLine 6 = .ok (.iload 5, 2) := by decide +kernel
theorem dX3_bestLine_8 : decode cX3_bestLine 8 = .ok (.iload_n 2, 1) := by decide +kernel
theorem dX3_bestLine_9 : decode cX3_bestLine 9 = .ok (.if_icmp .ge 44, 3) := by decide +kernel
theorem dX3_bestLine_12 : decode cX3_bestLine 12 = .ok (.iload_n 3, 1) := by decide +kernel
theorem dX3_bestLine_13 : decode cX3_bestLine 13 = .ok (.iload 5, 2) := by decide +kernel
theorem dX3_bestLine_15 : decode cX3_bestLine 15 = .ok (.ishr, 1) := by decide +kernel
theorem dX3_bestLine_16 : decode cX3_bestLine 16 = .ok (.iconst 1, 1) := by decide +kernel
theorem dX3_bestLine_17 : decode cX3_bestLine 17 = .ok (.iand, 1) := by decide +kernel
theorem dX3_bestLine_18 : decode cX3_bestLine 18 = .ok (.ifCond .ne 29, 3) := by decide +kernel
theorem dX3_bestLine_21 : decode cX3_bestLine 21 = .ok (.iload 4, 2) := by decide +kernel
theorem dX3_bestLine_23 : decode cX3_bestLine 23 = .ok (.ifCond .lt 20, 3) := by decide +kernel
theorem dX3_bestLine_26 : decode cX3_bestLine 26 = .ok (.aload_n 0, 1) := by decide +kernel
theorem dX3_bestLine_27 : decode cX3_bestLine 27 = .ok (.iload 5, 2) := by decide +kernel
theorem dX3_bestLine_29 : decode cX3_bestLine 29 = .ok (.iload_n 1, 1) := by decide +kernel
theorem dX3_bestLine_30 : decode cX3_bestLine 30 = .ok (.invokevirtual 85, 3) := by decide +kernel
theorem dX3_bestLine_33 : decode cX3_bestLine 33 = .ok (.aload_n 0, 1) := by decide +kernel
theorem dX3_bestLine_34 : decode cX3_bestLine 34 = .ok (.iload 4, 2) := by decide +kernel
theorem dX3_bestLine_36 : decode cX3_bestLine 36 = .ok (.iload_n 1, 1) := by decide +kernel
theorem dX3_bestLine_37 : decode cX3_bestLine 37 = .ok (.invokevirtual 85, 3) := by decide +kernel
theorem dX3_bestLine_40 : decode cX3_bestLine 40 = .ok (.if_icmp .le 7, 3) := by decide +kernel
theorem dX3_bestLine_43 : decode cX3_bestLine 43 = .ok (.iload 5, 2) := by decide +kernel
theorem dX3_bestLine_45 : decode cX3_bestLine 45 = .ok (.istore 4, 2) := by decide +kernel
theorem dX3_bestLine_47 : decode cX3_bestLine 47 = .ok (.iinc 5 1, 3) := by decide +kernel
theorem dX3_bestLine_50 : decode cX3_bestLine 50 = .ok (.goto (-44), 3) := by decide +kernel
theorem dX3_bestLine_53 : decode cX3_bestLine 53 = .ok (.iload 4, 2) := by decide +kernel
theorem dX3_bestLine_55 : decode cX3_bestLine 55 = .ok (.ireturn, 1) := by decide +kernel
set_option maxRecDepth 100000 in
set_option maxHeartbeats 4000000 in
theorem M_X3_bestLine (G : zG) (l : Launch) {p0 : Nat} (hp0 : zP p0 = true) {a1 : Int32} {a2 : Int32} {a3 : Int32} {σ : zS} {r : Int32} (hJ : J_X3_bestLine p0 a1 a2 a3 σ = some r) : zMI G l yX3_bestLine cX3_bestLine 6 (some .int) (zrm 1 22) [.ref (G.1 + p0), .int a1, .int a2, .int a3] 137 (zen G σ) r 137 (zen G σ) := by
  unfold J_X3_bestLine at hJ
  refine zentI (by decide +kernel) (Nat.le_of_ble_eq_true rfl) ?_
  intro p e s m args below meth c C hret
  refine zr_sub [0, 1, 2, 3] [(0, .ref (G.1 + p0)), (1, .int a1), (2, .int a2), (3, .int a3)] rfl ?_
  refine zr_iconst C dX3_bestLine_0 (v := (-1 : Int32)) (by decide) ?_
  refine zr_istore C [(4, .int (-1 : Int32)), (0, .ref (G.1 + p0)), (1, .int a1), (2, .int a2), (3, .int a3)] dX3_bestLine_1 (by decide) rfl ?_
  refine zr_iconst C dX3_bestLine_3 (v := (0 : Int32)) (by decide) ?_
  refine zr_istore C [(5, .int (0 : Int32)), (4, .int (-1 : Int32)), (0, .ref (G.1 + p0)), (1, .int a1), (2, .int a2), (3, .int a3)] dX3_bestLine_4 (by decide) rfl ?_
  have hl6 : ∀ (n : Nat) (w4_6 : Int32) (w5_6 : Int32), L_X3_bestLine_6 p0 a1 a2 a3 σ n w4_6 w5_6 = some r → zU G 6 p l e (zrm 1 22) s m args below meth c (MQ below (va_Qi (fun x (_ : Unit) => x = r) (fun _ t => zok G 137 (zen G σ) t) (zA G)) args s 0 0 (zA G)) σ 6 [(0, .ref (G.1 + p0)), (1, .int a1), (2, .int a2), (3, .int a3), (4, .int w4_6), (5, .int w5_6)] [] := by
    intro n
    induction n with
    | zero =>
      intro w4_6 w5_6 hJ
      rw [L_X3_bestLine_6] at hJ
      cases hJ
    | succ n ih =>
      intro w4_6 w5_6 hJ
      rw [L_X3_bestLine_6] at hJ
      obtain ⟨r_6, hr_6, hJ⟩ := zlet_e hJ
      have ih6 : ∀ (w4_6 : Int32) (w5_6 : Int32), r_6 w4_6 w5_6 = some r → zU G 6 p l e (zrm 1 22) s m args below meth c (MQ below (va_Qi (fun x (_ : Unit) => x = r) (fun _ t => zok G 137 (zen G σ) t) (zA G)) args s 0 0 (zA G)) σ 6 [(0, .ref (G.1 + p0)), (1, .int a1), (2, .int a2), (3, .int a3), (4, .int w4_6), (5, .int w5_6)] [] := by
        rw [hr_6]
        exact ih
      refine zr_iload C 5 dX3_bestLine_6 rfl ?_
      refine zr_iload_n C 2 dX3_bestLine_8 rfl ?_
      refine zr_icmp_ge C 53 dX3_bestLine_9 (by decide) (fun hc1 => ?_) (fun hc1 => ?_)
      · have hJ := zif hc1 hJ
        refine zr_iload C 4 dX3_bestLine_53 rfl ?_
        exact zr_iret C hret (zs_e hJ) rfl rfl dX3_bestLine_55
      · have hJ := zif' hc1 hJ
        refine zr_iload_n C 3 dX3_bestLine_12 rfl ?_
        refine zr_iload C 5 dX3_bestLine_13 rfl ?_
        refine zr_ishr C dX3_bestLine_15 ?_
        refine zr_iconst C dX3_bestLine_16 (v := (1 : Int32)) (by decide) ?_
        refine zr_iand C dX3_bestLine_17 ?_
        refine zr_if_ne C 47 dX3_bestLine_18 (by decide) (fun hc2 => ?_) (fun hc2 => ?_)
        · have hJ := zif' hc2 hJ
          obtain ⟨v3, hv3, hJ⟩ := zlet_e hJ
          refine zr_iinc C v3 5 [(5, .int v3), (0, .ref (G.1 + p0)), (1, .int a1), (2, .int a2), (3, .int a3), (4, .int w4_6)] dX3_bestLine_47 rfl (hv3.trans (zinc (by decide))) (by decide) rfl ?_
          refine zr_goto C 6 dX3_bestLine_50 (by decide) ?_
          refine zr_sub [1, 2, 3, 4, 5, 0] [(0, .ref (G.1 + p0)), (1, .int a1), (2, .int a2), (3, .int a3), (4, .int w4_6), (5, .int v3)] rfl ?_
          exact ih6 _ _ hJ
        · have hJ := zif hc2 hJ
          refine zr_iload C 4 dX3_bestLine_21 rfl ?_
          refine zr_if_lt C 43 dX3_bestLine_23 (by decide) (fun hc4 => ?_) (fun hc4 => ?_)
          · have hJ := zif hc4 hJ
            refine zr_iload C 5 dX3_bestLine_43 rfl ?_
            refine zr_istore C [(4, .int w5_6), (0, .ref (G.1 + p0)), (1, .int a1), (2, .int a2), (3, .int a3), (5, .int w5_6)] dX3_bestLine_45 (by decide) rfl ?_
            obtain ⟨v5, hv5, hJ⟩ := zlet_e hJ
            refine zr_iinc C v5 5 [(5, .int v5), (4, .int w5_6), (0, .ref (G.1 + p0)), (1, .int a1), (2, .int a2), (3, .int a3)] dX3_bestLine_47 rfl (hv5.trans (zinc (by decide))) (by decide) rfl ?_
            refine zr_goto C 6 dX3_bestLine_50 (by decide) ?_
            refine zr_sub [2, 3, 4, 5, 1, 0] [(0, .ref (G.1 + p0)), (1, .int a1), (2, .int a2), (3, .int a3), (4, .int w5_6), (5, .int v5)] rfl ?_
            exact ih6 _ _ hJ
          · have hJ := zif' hc4 hJ
            refine zr_aload_n C 0 dX3_bestLine_26 rfl ?_
            refine zr_iload C 5 dX3_bestLine_27 rfl ?_
            refine zr_iload_n C 1 dX3_bestLine_29 rfl ?_
            obtain ⟨r6, hr6, hJ⟩ := zb_e hJ
            refine zr_callVI C p0 (zk_lt (zkP_0 hp0) (by decide)) (zen_obj (zkP_0 hp0)) (rfl : zcl[3]? = some (RX3, TX3, 19)) (M_X3_made G l hp0 hr6) zin_X3_made zm_26_18 rfl rfl (Nat.le_of_ble_eq_true rfl) ⟨Nat.le_of_ble_eq_true rfl, Nat.le_of_ble_eq_true rfl⟩ ⟨Nat.le_of_ble_eq_true rfl, Nat.le_of_ble_eq_true rfl⟩ dX3_bestLine_30 ?_
            refine zr_aload_n C 0 dX3_bestLine_33 rfl ?_
            refine zr_iload C 4 dX3_bestLine_34 rfl ?_
            refine zr_iload_n C 1 dX3_bestLine_36 rfl ?_
            obtain ⟨r7, hr7, hJ⟩ := zb_e hJ
            refine zr_callVI C p0 (zk_lt (zkP_0 hp0) (by decide)) (zen_obj (zkP_0 hp0)) (rfl : zcl[3]? = some (RX3, TX3, 19)) (M_X3_made G l hp0 hr7) zin_X3_made zm_26_18 rfl rfl (Nat.le_of_ble_eq_true rfl) ⟨Nat.le_of_ble_eq_true rfl, Nat.le_of_ble_eq_true rfl⟩ ⟨Nat.le_of_ble_eq_true rfl, Nat.le_of_ble_eq_true rfl⟩ dX3_bestLine_37 ?_
            refine zr_icmp_le C 47 dX3_bestLine_40 (by decide) (fun hc8 => ?_) (fun hc8 => ?_)
            · have hJ := zif hc8 hJ
              obtain ⟨v9, hv9, hJ⟩ := zlet_e hJ
              refine zr_iinc C v9 5 [(5, .int v9), (0, .ref (G.1 + p0)), (1, .int a1), (2, .int a2), (3, .int a3), (4, .int w4_6)] dX3_bestLine_47 rfl (hv9.trans (zinc (by decide))) (by decide) rfl ?_
              refine zr_goto C 6 dX3_bestLine_50 (by decide) ?_
              refine zr_sub [1, 2, 3, 4, 5, 0] [(0, .ref (G.1 + p0)), (1, .int a1), (2, .int a2), (3, .int a3), (4, .int w4_6), (5, .int v9)] rfl ?_
              exact ih6 _ _ hJ
            · have hJ := zif' hc8 hJ
              refine zr_iload C 5 dX3_bestLine_43 rfl ?_
              refine zr_istore C [(4, .int w5_6), (0, .ref (G.1 + p0)), (1, .int a1), (2, .int a2), (3, .int a3), (5, .int w5_6)] dX3_bestLine_45 (by decide) rfl ?_
              obtain ⟨v10, hv10, hJ⟩ := zlet_e hJ
              refine zr_iinc C v10 5 [(5, .int v10), (4, .int w5_6), (0, .ref (G.1 + p0)), (1, .int a1), (2, .int a2), (3, .int a3)] dX3_bestLine_47 rfl (hv10.trans (zinc (by decide))) (by decide) rfl ?_
              refine zr_goto C 6 dX3_bestLine_50 (by decide) ?_
              refine zr_sub [2, 3, 4, 5, 1, 0] [(0, .ref (G.1 + p0)), (1, .int a1), (2, .int a2), (3, .int a3), (4, .int w5_6), (5, .int v10)] rfl ?_
              exact ih6 _ _ hJ
  refine zr_sub [2, 3, 4, 5, 1, 0] [(0, .ref (G.1 + p0)), (1, .int a1), (2, .int a2), (3, .int a3), (4, .int (-1 : Int32)), (5, .int (0 : Int32))] rfl ?_
  exact hl6 _ _ _ hJ
theorem dX3_mostOf_0 : decode cX3_mostOf 0 = .ok (.iconst 0, 1) := by decide +kernel
theorem dX3_mostOf_1 : decode cX3_mostOf 1 = .ok (.istore 4, 2) := by decide +kernel
theorem dX3_mostOf_3 : decode cX3_mostOf 3 = .ok (.iconst 0, 1) := by decide +kernel
theorem dX3_mostOf_4 : decode cX3_mostOf 4 = .ok (.istore 5, 2) := by decide +kernel
theorem dX3_mostOf_6 : decode cX3_mostOf 6 = .ok (.iconst 0, 1) := by decide +kernel
theorem dX3_mostOf_7 : decode cX3_mostOf 7 = .ok (.istore 6, 2) := by decide +kernel
theorem dX3_mostOf_9 : decode cX3_mostOf 9 = .ok (.iload 6, 2) := by decide +kernel
theorem dX3_mostOf_11 : decode cX3_mostOf 11 = .ok (.iload_n 3, 1) := by decide +kernel
theorem dX3_mostOf_12 : decode cX3_mostOf 12 = .ok (.if_icmp .ge 45, 3) := by decide +kernel
theorem dX3_mostOf_15 : decode cX3_mostOf 15 = .ok (.aload_n 0, 1) := by decide +kernel
theorem dX3_mostOf_16 : decode cX3_mostOf 16 = .ok (.iload_n 1, 1) := by decide +kernel
theorem dX3_mostOf_17 : decode cX3_mostOf 17 = .ok (.iload_n 2, 1) := by decide +kernel
theorem dX3_mostOf_18 : decode cX3_mostOf 18 = .ok (.iload 5, 2) := by decide +kernel
theorem dX3_mostOf_20 : decode cX3_mostOf 20 = .ok (.invokevirtual 82, 3) := by decide +kernel
theorem dX3_mostOf_23 : decode cX3_mostOf 23 = .ok (.istore 7, 2) := by decide +kernel
theorem dX3_mostOf_25 : decode cX3_mostOf 25 = .ok (.iload 7, 2) := by decide +kernel
theorem dX3_mostOf_27 : decode cX3_mostOf 27 = .ok (.ifCond .lt 24, 3) := by decide +kernel
theorem dX3_mostOf_30 : decode cX3_mostOf 30 = .ok (.iload 5, 2) := by decide +kernel
theorem dX3_mostOf_32 : decode cX3_mostOf 32 = .ok (.iconst 1, 1) := by decide +kernel
theorem dX3_mostOf_33 : decode cX3_mostOf 33 = .ok (.iload 7, 2) := by decide +kernel
theorem dX3_mostOf_35 : decode cX3_mostOf 35 = .ok (.ishl, 1) := by decide +kernel
theorem dX3_mostOf_36 : decode cX3_mostOf 36 = .ok (.ior, 1) := by decide +kernel
theorem dX3_mostOf_37 : decode cX3_mostOf 37 = .ok (.istore 5, 2) := by decide +kernel
theorem dX3_mostOf_39 : decode cX3_mostOf 39 = .ok (.iload 4, 2) := by decide +kernel
theorem dX3_mostOf_41 : decode cX3_mostOf 41 = .ok (.aload_n 0, 1) := by decide +kernel
theorem dX3_mostOf_42 : decode cX3_mostOf 42 = .ok (.iload 7, 2) := by decide +kernel
theorem dX3_mostOf_44 : decode cX3_mostOf 44 = .ok (.iload_n 1, 1) := by decide +kernel
theorem dX3_mostOf_45 : decode cX3_mostOf 45 = .ok (.invokevirtual 85, 3) := by decide +kernel
theorem dX3_mostOf_48 : decode cX3_mostOf 48 = .ok (.iadd, 1) := by decide +kernel
theorem dX3_mostOf_49 : decode cX3_mostOf 49 = .ok (.istore 4, 2) := by decide +kernel
theorem dX3_mostOf_51 : decode cX3_mostOf 51 = .ok (.iinc 6 1, 3) := by decide +kernel
theorem dX3_mostOf_54 : decode cX3_mostOf 54 = .ok (.goto (-45), 3) := by decide +kernel
theorem dX3_mostOf_57 : decode cX3_mostOf 57 = .ok (.iload 4, 2) := by decide +kernel
theorem dX3_mostOf_59 : decode cX3_mostOf 59 = .ok (.ireturn, 1) := by decide +kernel
set_option maxRecDepth 100000 in
set_option maxHeartbeats 4000000 in
theorem M_X3_mostOf (G : zG) (l : Launch) {p0 : Nat} (hp0 : zP p0 = true) {a1 : Int32} {a2 : Int32} {a3 : Int32} {σ : zS} {r : Int32} (hJ : J_X3_mostOf p0 a1 a2 a3 σ = some r) : zMI G l yX3_mostOf cX3_mostOf 8 (some .int) (zrm 2 47) [.ref (G.1 + p0), .int a1, .int a2, .int a3] 137 (zen G σ) r 137 (zen G σ) := by
  unfold J_X3_mostOf at hJ
  refine zentI (by decide +kernel) (Nat.le_of_ble_eq_true rfl) ?_
  intro p e s m args below meth c C hret
  refine zr_sub [0, 1, 2, 3] [(0, .ref (G.1 + p0)), (1, .int a1), (2, .int a2), (3, .int a3)] rfl ?_
  refine zr_iconst C dX3_mostOf_0 (v := (0 : Int32)) (by decide) ?_
  refine zr_istore C [(4, .int (0 : Int32)), (0, .ref (G.1 + p0)), (1, .int a1), (2, .int a2), (3, .int a3)] dX3_mostOf_1 (by decide) rfl ?_
  refine zr_iconst C dX3_mostOf_3 (v := (0 : Int32)) (by decide) ?_
  refine zr_istore C [(5, .int (0 : Int32)), (4, .int (0 : Int32)), (0, .ref (G.1 + p0)), (1, .int a1), (2, .int a2), (3, .int a3)] dX3_mostOf_4 (by decide) rfl ?_
  refine zr_iconst C dX3_mostOf_6 (v := (0 : Int32)) (by decide) ?_
  refine zr_istore C [(6, .int (0 : Int32)), (5, .int (0 : Int32)), (4, .int (0 : Int32)), (0, .ref (G.1 + p0)), (1, .int a1), (2, .int a2), (3, .int a3)] dX3_mostOf_7 (by decide) rfl ?_
  have hl9 : ∀ (n : Nat) (w4_9 : Int32) (w5_9 : Int32) (w6_9 : Int32), L_X3_mostOf_9 p0 a1 a2 a3 σ n w4_9 w5_9 w6_9 = some r → zU G 8 p l e (zrm 2 47) s m args below meth c (MQ below (va_Qi (fun x (_ : Unit) => x = r) (fun _ t => zok G 137 (zen G σ) t) (zA G)) args s 0 0 (zA G)) σ 9 [(0, .ref (G.1 + p0)), (1, .int a1), (2, .int a2), (3, .int a3), (4, .int w4_9), (5, .int w5_9), (6, .int w6_9)] [] := by
    intro n
    induction n with
    | zero =>
      intro w4_9 w5_9 w6_9 hJ
      rw [L_X3_mostOf_9] at hJ
      cases hJ
    | succ n ih =>
      intro w4_9 w5_9 w6_9 hJ
      rw [L_X3_mostOf_9] at hJ
      obtain ⟨r_9, hr_9, hJ⟩ := zlet_e hJ
      have ih9 : ∀ (w4_9 : Int32) (w5_9 : Int32) (w6_9 : Int32), r_9 w4_9 w5_9 w6_9 = some r → zU G 8 p l e (zrm 2 47) s m args below meth c (MQ below (va_Qi (fun x (_ : Unit) => x = r) (fun _ t => zok G 137 (zen G σ) t) (zA G)) args s 0 0 (zA G)) σ 9 [(0, .ref (G.1 + p0)), (1, .int a1), (2, .int a2), (3, .int a3), (4, .int w4_9), (5, .int w5_9), (6, .int w6_9)] [] := by
        rw [hr_9]
        exact ih
      refine zr_iload C 6 dX3_mostOf_9 rfl ?_
      refine zr_iload_n C 3 dX3_mostOf_11 rfl ?_
      refine zr_icmp_ge C 57 dX3_mostOf_12 (by decide) (fun hc1 => ?_) (fun hc1 => ?_)
      · have hJ := zif hc1 hJ
        refine zr_iload C 4 dX3_mostOf_57 rfl ?_
        exact zr_iret C hret (zs_e hJ) rfl rfl dX3_mostOf_59
      · have hJ := zif' hc1 hJ
        refine zr_aload_n C 0 dX3_mostOf_15 rfl ?_
        refine zr_iload_n C 1 dX3_mostOf_16 rfl ?_
        refine zr_iload_n C 2 dX3_mostOf_17 rfl ?_
        refine zr_iload C 5 dX3_mostOf_18 rfl ?_
        obtain ⟨r2, hr2, hJ⟩ := zb_e hJ
        refine zr_callVI C p0 (zk_lt (zkP_0 hp0) (by decide)) (zen_obj (zkP_0 hp0)) (rfl : zcl[3]? = some (RX3, TX3, 19)) (M_X3_bestLine G l hp0 hr2) zin_X3_bestLine zm_26_14 rfl rfl (Nat.le_of_ble_eq_true rfl) ⟨Nat.le_of_ble_eq_true rfl, Nat.le_of_ble_eq_true rfl⟩ ⟨Nat.le_of_ble_eq_true rfl, Nat.le_of_ble_eq_true rfl⟩ dX3_mostOf_20 ?_
        refine zr_istore C [(7, .int r2), (0, .ref (G.1 + p0)), (1, .int a1), (2, .int a2), (3, .int a3), (4, .int w4_9), (5, .int w5_9), (6, .int w6_9)] dX3_mostOf_23 (by decide) rfl ?_
        refine zr_iload C 0 dX3_mostOf_25 rfl ?_
        refine zr_if_lt C 51 dX3_mostOf_27 (by decide) (fun hc3 => ?_) (fun hc3 => ?_)
        · have hJ := zif hc3 hJ
          obtain ⟨v4, hv4, hJ⟩ := zlet_e hJ
          refine zr_iinc C v4 7 [(6, .int v4), (7, .int r2), (0, .ref (G.1 + p0)), (1, .int a1), (2, .int a2), (3, .int a3), (4, .int w4_9), (5, .int w5_9)] dX3_mostOf_51 rfl (hv4.trans (zinc (by decide))) (by decide) rfl ?_
          refine zr_goto C 9 dX3_mostOf_54 (by decide) ?_
          refine zr_sub [2, 3, 4, 5, 6, 7, 0] [(0, .ref (G.1 + p0)), (1, .int a1), (2, .int a2), (3, .int a3), (4, .int w4_9), (5, .int w5_9), (6, .int v4)] rfl ?_
          exact ih9 _ _ _ hJ
        · have hJ := zif' hc3 hJ
          refine zr_iload C 6 dX3_mostOf_30 rfl ?_
          refine zr_iconst C dX3_mostOf_32 (v := (1 : Int32)) (by decide) ?_
          refine zr_iload C 0 dX3_mostOf_33 rfl ?_
          refine zr_ishl C dX3_mostOf_35 ?_
          refine zr_ior C dX3_mostOf_36 ?_
          obtain ⟨v5, hv5, hJ⟩ := zlet_e hJ
          refine zr_topi hv5 ?_
          refine zr_istore C [(5, .int v5), (7, .int r2), (0, .ref (G.1 + p0)), (1, .int a1), (2, .int a2), (3, .int a3), (4, .int w4_9), (6, .int w6_9)] dX3_mostOf_37 (by decide) rfl ?_
          refine zr_iload C 6 dX3_mostOf_39 rfl ?_
          refine zr_aload_n C 2 dX3_mostOf_41 rfl ?_
          refine zr_iload C 1 dX3_mostOf_42 rfl ?_
          refine zr_iload_n C 3 dX3_mostOf_44 rfl ?_
          obtain ⟨r6, hr6, hJ⟩ := zb_e hJ
          refine zr_callVI C p0 (zk_lt (zkP_0 hp0) (by decide)) (zen_obj (zkP_0 hp0)) (rfl : zcl[3]? = some (RX3, TX3, 19)) (M_X3_made G l hp0 hr6) zin_X3_made zm_26_18 rfl rfl (Nat.le_of_ble_eq_true rfl) ⟨Nat.le_of_ble_eq_true rfl, Nat.le_of_ble_eq_true rfl⟩ ⟨Nat.le_of_ble_eq_true rfl, Nat.le_of_ble_eq_true rfl⟩ dX3_mostOf_45 ?_
          refine zr_iadd C dX3_mostOf_48 ?_
          obtain ⟨v7, hv7, hJ⟩ := zlet_e hJ
          refine zr_topi hv7 ?_
          refine zr_istore C [(4, .int v7), (5, .int v5), (7, .int r2), (0, .ref (G.1 + p0)), (1, .int a1), (2, .int a2), (3, .int a3), (6, .int w6_9)] dX3_mostOf_49 (by decide) rfl ?_
          obtain ⟨v8, hv8, hJ⟩ := zlet_e hJ
          refine zr_iinc C v8 7 [(6, .int v8), (4, .int v7), (5, .int v5), (7, .int r2), (0, .ref (G.1 + p0)), (1, .int a1), (2, .int a2), (3, .int a3)] dX3_mostOf_51 rfl (hv8.trans (zinc (by decide))) (by decide) rfl ?_
          refine zr_goto C 9 dX3_mostOf_54 (by decide) ?_
          refine zr_sub [4, 5, 6, 7, 1, 2, 0] [(0, .ref (G.1 + p0)), (1, .int a1), (2, .int a2), (3, .int a3), (4, .int v7), (5, .int v5), (6, .int v8)] rfl ?_
          exact ih9 _ _ _ hJ
  refine zr_sub [3, 4, 5, 6, 2, 1, 0] [(0, .ref (G.1 + p0)), (1, .int a1), (2, .int a2), (3, .int a3), (4, .int (0 : Int32)), (5, .int (0 : Int32)), (6, .int (0 : Int32))] rfl ?_
  exact hl9 _ _ _ _ hJ
theorem dX10_fewestLines_0 : decode cX10_fewestLines 0 = .ok (.iconst 1, 1) := by decide +kernel
theorem dX10_fewestLines_1 : decode cX10_fewestLines 1 = .ok (.istore_n 3, 1) := by decide +kernel
theorem dX10_fewestLines_2 : decode cX10_fewestLines 2 = .ok (.iload_n 3, 1) := by decide +kernel
theorem dX10_fewestLines_3 : decode cX10_fewestLines 3 = .ok (.aload_n 0, 1) := by decide +kernel
theorem dX10_fewestLines_4 : decode cX10_fewestLines 4 = .ok (.getfield 19, 3) := by decide +kernel
theorem dX10_fewestLines_7 : decode cX10_fewestLines 7 = .ok (.getfield 113, 3) := by decide +kernel
theorem dX10_fewestLines_10 : decode cX10_fewestLines 10 = .ok (.if_icmp .ge 31, 3) := by decide +kernel
theorem dX10_fewestLines_13 : decode cX10_fewestLines 13 = .ok (.aload_n 0, 1) := by decide +kernel
theorem dX10_fewestLines_14 : decode cX10_fewestLines 14 = .ok (.getfield 19, 3) := by decide +kernel
theorem dX10_fewestLines_17 : decode cX10_fewestLines 17 = .ok (.iload_n 1, 1) := by decide +kernel
theorem dX10_fewestLines_18 : decode cX10_fewestLines 18 = .ok (.aload_n 0, 1) := by decide +kernel
theorem dX10_fewestLines_19 : decode cX10_fewestLines 19 = .ok (.getfield 19, 3) := by decide +kernel
theorem dX10_fewestLines_22 : decode cX10_fewestLines 22 = .ok (.getfield 113, 3) := by decide +kernel
theorem dX10_fewestLines_25 : decode cX10_fewestLines 25 = .ok (.iload_n 3, 1) := by decide +kernel
theorem dX10_fewestLines_26 : decode cX10_fewestLines 26 = .ok (.invokevirtual 189, 3) := by decide +kernel
theorem dX10_fewestLines_29 : decode cX10_fewestLines 29 = .ok (.iload_n 2, 1) := by decide +kernel
theorem dX10_fewestLines_30 : decode cX10_fewestLines 30 = .ok (.if_icmp .lt 5, 3) := by decide +kernel
theorem dX10_fewestLines_33 : decode cX10_fewestLines 33 = .ok (.iload_n 3, 1) := by decide +kernel
theorem dX10_fewestLines_34 : decode cX10_fewestLines 34 = .ok (.ireturn, 1) := by decide +kernel
theorem dX10_fewestLines_35 : decode cX10_fewestLines 35 = .ok (.iinc 3 1, 3) := by decide +kernel
theorem dX10_fewestLines_38 : decode cX10_fewestLines 38 = .ok (.goto (-36), 3) := by decide +kernel
theorem dX10_fewestLines_41 : decode cX10_fewestLines 41 = .ok (.aload_n 0, 1) := by decide +kernel
theorem dX10_fewestLines_42 : decode cX10_fewestLines 42 = .ok (.getfield 19, 3) := by decide +kernel
theorem dX10_fewestLines_45 : decode cX10_fewestLines 45 = .ok (.getfield 113, 3) := by decide +kernel
theorem dX10_fewestLines_48 : decode cX10_fewestLines 48 = .ok (.ireturn, 1) := by decide +kernel
set_option maxRecDepth 100000 in
set_option maxHeartbeats 4000000 in
theorem M_X10_fewestLines (G : zG) (l : Launch) {a1 : Int32} {a2 : Int32} {σ : zS} {r : Int32} (hJ : J_X10_fewestLines a1 a2 σ = some r) : zMI G l yX10_fewestLines cX10_fewestLines 4 (some .int) (zrm 3 74) [.ref (G.1 + 0), .int a1, .int a2] 137 (zen G σ) r 137 (zen G σ) := by
  unfold J_X10_fewestLines at hJ
  refine zentI (by decide +kernel) (Nat.le_of_ble_eq_true rfl) ?_
  intro p e s m args below meth c C hret
  refine zr_sub [0, 1, 2] [(0, .ref (G.1 + 0)), (1, .int a1), (2, .int a2)] rfl ?_
  refine zr_iconst C dX10_fewestLines_0 (v := (1 : Int32)) (by decide) ?_
  refine zr_istore_n C [(3, .int (1 : Int32)), (0, .ref (G.1 + 0)), (1, .int a1), (2, .int a2)] dX10_fewestLines_1 (by decide) rfl ?_
  have hl2 : ∀ (n : Nat) (w3_2 : Int32), L_X10_fewestLines_2 a1 a2 σ n w3_2 = some r → zU G 4 p l e (zrm 3 74) s m args below meth c (MQ below (va_Qi (fun x (_ : Unit) => x = r) (fun _ t => zok G 137 (zen G σ) t) (zA G)) args s 0 0 (zA G)) σ 2 [(0, .ref (G.1 + 0)), (1, .int a1), (2, .int a2), (3, .int w3_2)] [] := by
    intro n
    induction n with
    | zero =>
      intro w3_2 hJ
      rw [L_X10_fewestLines_2] at hJ
      cases hJ
    | succ n ih =>
      intro w3_2 hJ
      rw [L_X10_fewestLines_2] at hJ
      obtain ⟨r_2, hr_2, hJ⟩ := zlet_e hJ
      have ih2 : ∀ (w3_2 : Int32), r_2 w3_2 = some r → zU G 4 p l e (zrm 3 74) s m args below meth c (MQ below (va_Qi (fun x (_ : Unit) => x = r) (fun _ t => zok G 137 (zen G σ) t) (zA G)) args s 0 0 (zA G)) σ 2 [(0, .ref (G.1 + 0)), (1, .int a1), (2, .int a2), (3, .int w3_2)] [] := by
        rw [hr_2]
        exact ih
      refine zr_iload_n C 3 dX10_fewestLines_2 rfl ?_
      refine zr_aload_n C 0 dX10_fewestLines_3 rfl ?_
      obtain ⟨p1, hp1, hJ⟩ := zlet_e hJ
      obtain ⟨hp2, hJ⟩ := zg_e hJ
      refine zg_10_1 C 0 zk_0 zm_1_20 dX10_fewestLines_4 ?_
      refine zr_topr hp1 ?_
      refine zg_3_0 C p1 (zkP_0 hp2) zm_10_8 dX10_fewestLines_7 ?_
      refine zr_icmp_ge C 41 dX10_fewestLines_10 (by decide) (fun hc3 => ?_) (fun hc3 => ?_)
      · have hJ := zif hc3 hJ
        refine zr_aload_n C 0 dX10_fewestLines_41 rfl ?_
        obtain ⟨p4, hp4, hJ⟩ := zlet_e hJ
        obtain ⟨hp5, hJ⟩ := zg_e hJ
        refine zg_10_1 C 0 zk_0 zm_1_20 dX10_fewestLines_42 ?_
        refine zr_topr hp4 ?_
        refine zg_3_0 C p4 (zkP_0 hp5) zm_10_8 dX10_fewestLines_45 ?_
        exact zr_iret C hret (zs_e hJ) rfl rfl dX10_fewestLines_48
      · have hJ := zif' hc3 hJ
        refine zr_aload_n C 0 dX10_fewestLines_13 rfl ?_
        obtain ⟨p6, hp6, hJ⟩ := zlet_e hJ
        obtain ⟨hp7, hJ⟩ := zg_e hJ
        refine zg_10_1 C 0 zk_0 zm_1_20 dX10_fewestLines_14 ?_
        refine zr_topr hp6 ?_
        refine zr_iload_n C 1 dX10_fewestLines_17 rfl ?_
        refine zr_aload_n C 0 dX10_fewestLines_18 rfl ?_
        obtain ⟨p8, hp8, hJ⟩ := zlet_e hJ
        obtain ⟨hp9, hJ⟩ := zg_e hJ
        refine zg_10_1 C 0 zk_0 zm_1_20 dX10_fewestLines_19 ?_
        refine zr_topr hp8 ?_
        refine zg_3_0 C p8 (zkP_0 hp9) zm_10_8 dX10_fewestLines_22 ?_
        refine zr_iload_n C 3 dX10_fewestLines_25 rfl ?_
        obtain ⟨r10, hr10, hJ⟩ := zb_e hJ
        refine zr_callVI C p6 (zk_lt (zkP_0 hp7) (by decide)) (zen_obj (zkP_0 hp7)) (rfl : zcl[3]? = some (RX3, TX3, 19)) (M_X3_mostOf G l hp7 hr10) zin_X3_mostOf zm_26_10 rfl rfl (Nat.le_of_ble_eq_true rfl) ⟨Nat.le_of_ble_eq_true rfl, Nat.le_of_ble_eq_true rfl⟩ ⟨Nat.le_of_ble_eq_true rfl, Nat.le_of_ble_eq_true rfl⟩ dX10_fewestLines_26 ?_
        refine zr_iload_n C 2 dX10_fewestLines_29 rfl ?_
        refine zr_icmp_lt C 35 dX10_fewestLines_30 (by decide) (fun hc11 => ?_) (fun hc11 => ?_)
        · have hJ := zif hc11 hJ
          obtain ⟨v12, hv12, hJ⟩ := zlet_e hJ
          refine zr_iinc C v12 3 [(3, .int v12), (0, .ref (G.1 + 0)), (1, .int a1), (2, .int a2)] dX10_fewestLines_35 rfl (hv12.trans (zinc (by decide))) (by decide) rfl ?_
          refine zr_goto C 2 dX10_fewestLines_38 (by decide) ?_
          refine zr_sub [1, 2, 3, 0] [(0, .ref (G.1 + 0)), (1, .int a1), (2, .int a2), (3, .int v12)] rfl ?_
          exact ih2 _ hJ
        · have hJ := zif' hc11 hJ
          refine zr_iload_n C 3 dX10_fewestLines_33 rfl ?_
          exact zr_iret C hret (zs_e hJ) rfl rfl dX10_fewestLines_34
  refine zr_sub [1, 2, 3, 0] [(0, .ref (G.1 + 0)), (1, .int a1), (2, .int a2), (3, .int (1 : Int32))] rfl ?_
  exact hl2 _ _ hJ
theorem dX10_isRange_0 : decode cX10_isRange 0 = .ok (.iload_n 0, 1) := by decide +kernel
theorem dX10_isRange_1 : decode cX10_isRange 1 = .ok (.iload_n 1, 1) := by decide +kernel
theorem dX10_isRange_2 : decode cX10_isRange 2 = .ok (.if_icmp .gt 16, 3) := by decide +kernel
theorem dX10_isRange_5 : decode cX10_isRange 5 = .ok (.iload_n 1, 1) := by decide +kernel
theorem dX10_isRange_6 : decode cX10_isRange 6 = .ok (.iload_n 0, 1) := by decide +kernel
theorem dX10_isRange_7 : decode cX10_isRange 7 = .ok (.isub, 1) := by decide +kernel
theorem dX10_isRange_8 : decode cX10_isRange 8 = .ok (.sipush 200, 3) := by decide +kernel
theorem dX10_isRange_11 : decode cX10_isRange 11 = .ok (.if_icmp .ge 7, 3) := by decide +kernel
theorem dX10_isRange_14 : decode cX10_isRange 14 = .ok (.iconst 1, 1) := by decide +kernel
theorem dX10_isRange_15 : decode cX10_isRange 15 = .ok (.goto 4, 3) := by decide +kernel
theorem dX10_isRange_18 : decode cX10_isRange 18 = .ok (.iconst 0, 1) := by decide +kernel
theorem dX10_isRange_19 : decode cX10_isRange 19 = .ok (.ireturn, 1) := by decide +kernel
set_option maxRecDepth 100000 in
set_option maxHeartbeats 4000000 in
theorem M_X10_isRange (G : zG) (l : Launch) {a0 : Int32} {a1 : Int32} {σ : zS} {r : Int32} (hJ : J_X10_isRange a0 a1 σ = some r) : zMI G l yX10_isRange cX10_isRange 2 (some .boolean) (zrm 0 0) [.int a0, .int a1] 137 (zen G σ) r 137 (zen G σ) := by
  unfold J_X10_isRange at hJ
  refine zentI (by decide +kernel) (Nat.le_of_ble_eq_true rfl) ?_
  intro p e s m args below meth c C hret
  refine zr_sub [0, 1] [(0, .int a0), (1, .int a1)] rfl ?_
  refine zr_iload_n C 0 dX10_isRange_0 rfl ?_
  refine zr_iload_n C 1 dX10_isRange_1 rfl ?_
  refine zr_icmp_gt C 18 dX10_isRange_2 (by decide) (fun hc1 => ?_) (fun hc1 => ?_)
  · have hJ := zif hc1 hJ
    refine zr_iconst C dX10_isRange_18 (v := (0 : Int32)) (by decide) ?_
    exact zr_zret C hret (zs_e hJ) rfl rfl rfl dX10_isRange_19
  · have hJ := zif' hc1 hJ
    refine zr_iload_n C 1 dX10_isRange_5 rfl ?_
    refine zr_iload_n C 0 dX10_isRange_6 rfl ?_
    refine zr_isub C dX10_isRange_7 ?_
    refine zr_sipush C dX10_isRange_8 (v := (200 : Int32)) (by decide) ?_
    refine zr_icmp_ge C 18 dX10_isRange_11 (by decide) (fun hc2 => ?_) (fun hc2 => ?_)
    · have hJ := zif hc2 hJ
      refine zr_iconst C dX10_isRange_18 (v := (0 : Int32)) (by decide) ?_
      exact zr_zret C hret (zs_e hJ) rfl rfl rfl dX10_isRange_19
    · have hJ := zif' hc2 hJ
      refine zr_iconst C dX10_isRange_14 (v := (1 : Int32)) (by decide) ?_
      refine zr_goto C 19 dX10_isRange_15 (by decide) ?_
      exact zr_zret C hret (zs_e hJ) rfl rfl rfl dX10_isRange_19
theorem dX10_isSlice_0 : decode cX10_isSlice 0 = .ok (.iload_n 0, 1) := by decide +kernel
theorem dX10_isSlice_1 : decode cX10_isSlice 1 = .ok (.iconst 1, 1) := by decide +kernel
theorem dX10_isSlice_2 : decode cX10_isSlice 2 = .ok (.if_icmp .lt 14, 3) := by decide +kernel
theorem dX10_isSlice_5 : decode cX10_isSlice 5 = .ok (.iload_n 0, 1) := by decide +kernel
theorem dX10_isSlice_6 : decode cX10_isSlice 6 = .ok (.sipush 999, 3) := by decide +kernel
theorem dX10_isSlice_9 : decode cX10_isSlice 9 = .ok (.if_icmp .gt 7, 3) := by decide +kernel
theorem dX10_isSlice_12 : decode cX10_isSlice 12 = .ok (.iconst 1, 1) := by decide +kernel
theorem dX10_isSlice_13 : decode cX10_isSlice 13 = .ok (.goto 4, 3) := by decide +kernel
theorem dX10_isSlice_16 : decode cX10_isSlice 16 = .ok (.iconst 0, 1) := by decide +kernel
theorem dX10_isSlice_17 : decode cX10_isSlice 17 = .ok (.ireturn, 1) := by decide +kernel
set_option maxRecDepth 100000 in
set_option maxHeartbeats 4000000 in
theorem M_X10_isSlice (G : zG) (l : Launch) {a0 : Int32} {σ : zS} {r : Int32} (hJ : J_X10_isSlice a0 σ = some r) : zMI G l yX10_isSlice cX10_isSlice 1 (some .boolean) (zrm 0 0) [.int a0] 137 (zen G σ) r 137 (zen G σ) := by
  unfold J_X10_isSlice at hJ
  refine zentI (by decide +kernel) (Nat.le_of_ble_eq_true rfl) ?_
  intro p e s m args below meth c C hret
  refine zr_sub [0] [(0, .int a0)] rfl ?_
  refine zr_iload_n C 0 dX10_isSlice_0 rfl ?_
  refine zr_iconst C dX10_isSlice_1 (v := (1 : Int32)) (by decide) ?_
  refine zr_icmp_lt C 16 dX10_isSlice_2 (by decide) (fun hc1 => ?_) (fun hc1 => ?_)
  · have hJ := zif hc1 hJ
    refine zr_iconst C dX10_isSlice_16 (v := (0 : Int32)) (by decide) ?_
    exact zr_zret C hret (zs_e hJ) rfl rfl rfl dX10_isSlice_17
  · have hJ := zif' hc1 hJ
    refine zr_iload_n C 0 dX10_isSlice_5 rfl ?_
    refine zr_sipush C dX10_isSlice_6 (v := (999 : Int32)) (by decide) ?_
    refine zr_icmp_gt C 16 dX10_isSlice_9 (by decide) (fun hc2 => ?_) (fun hc2 => ?_)
    · have hJ := zif hc2 hJ
      refine zr_iconst C dX10_isSlice_16 (v := (0 : Int32)) (by decide) ?_
      exact zr_zret C hret (zs_e hJ) rfl rfl rfl dX10_isSlice_17
    · have hJ := zif' hc2 hJ
      refine zr_iconst C dX10_isSlice_12 (v := (1 : Int32)) (by decide) ?_
      refine zr_goto C 17 dX10_isSlice_13 (by decide) ?_
      exact zr_zret C hret (zs_e hJ) rfl rfl rfl dX10_isSlice_17
theorem dX3_allTicks_0 : decode cX3_allTicks 0 = .ok (.aload_n 0, 1) := by decide +kernel
theorem dX3_allTicks_1 : decode cX3_allTicks 1 = .ok (.getfield 71, 3) := by decide +kernel
theorem dX3_allTicks_4 : decode cX3_allTicks 4 = .ok (.aload_n 0, 1) := by decide +kernel
theorem dX3_allTicks_5 : decode cX3_allTicks 5 = .ok (.getfield 60, 3) := by decide +kernel
theorem dX3_allTicks_8 : decode cX3_allTicks 8 = .ok (.iaload, 1) := by decide +kernel
theorem dX3_allTicks_9 : decode cX3_allTicks 9 = .ok (.ireturn, 1) := by decide +kernel
set_option maxRecDepth 100000 in
set_option maxHeartbeats 4000000 in
theorem M_X3_allTicks (G : zG) (l : Launch) {p0 : Nat} (hp0 : zP p0 = true) {σ : zS} {r : Int32} (hJ : J_X3_allTicks p0 σ = some r) : zMI G l yX3_allTicks cX3_allTicks 1 (some .int) (zrm 0 0) [.ref (G.1 + p0)] 137 (zen G σ) r 137 (zen G σ) := by
  unfold J_X3_allTicks at hJ
  refine zentI (by decide +kernel) (Nat.le_of_ble_eq_true rfl) ?_
  intro p e s m args below meth c C hret
  refine zr_sub [0] [(0, .ref (G.1 + p0))] rfl ?_
  refine zr_aload_n C 0 dX3_allTicks_0 rfl ?_
  refine zg_3_18 C p0 (zkP_0 hp0) zm_4_12 dX3_allTicks_1 ?_
  refine zr_aload_n C 0 dX3_allTicks_4 rfl ?_
  refine zg_3_15 C p0 (zkP_0 hp0) zm_4_9 dX3_allTicks_5 ?_
  obtain ⟨hg1, hJ⟩ := zg_e hJ
  refine zu_iald C (p0 + 29) (zkP_29 hp0) hg1 dX3_allTicks_8 ?_
  exact zr_iret C hret (zs_e hJ) rfl rfl dX3_allTicks_9
theorem dX9_scaledUp_0 : decode cX9_scaledUp 0 = .ok (.aload_n 0, 1) := by decide +kernel
theorem dX9_scaledUp_1 : decode cX9_scaledUp 1 = .ok (.getfield 7, 3) := by decide +kernel
theorem dX9_scaledUp_4 : decode cX9_scaledUp 4 = .ok (.i2l, 1) := by decide +kernel
theorem dX9_scaledUp_5 : decode cX9_scaledUp 5 = .ok (.aload_n 1, 1) := by decide +kernel
theorem dX9_scaledUp_6 : decode cX9_scaledUp 6 = .ok (.invokevirtual 36, 3) := by decide +kernel
theorem dX9_scaledUp_9 : decode cX9_scaledUp 9 = .ok (.i2l, 1) := by decide +kernel
theorem dX9_scaledUp_10 : decode cX9_scaledUp 10 = .ok (.lmul, 1) := by decide +kernel
theorem dX9_scaledUp_11 : decode cX9_scaledUp 11 = .ok (.lreturn, 1) := by decide +kernel
set_option maxRecDepth 100000 in
set_option maxHeartbeats 4000000 in
theorem M_X9_scaledUp (G : zG) (l : Launch) {p1 : Nat} (hp1 : zP p1 = true) {σ : zS} {r : Int64} (hJ : J_X9_scaledUp p1 σ = some r) : zML G l yX9_scaledUp cX9_scaledUp 2 (some .long) (zrm 1 20) [.ref (G.1 + 88), .ref (G.1 + p1)] 137 (zen G σ) r 137 (zen G σ) := by
  unfold J_X9_scaledUp at hJ
  refine zentL (by decide +kernel) (Nat.le_of_ble_eq_true rfl) ?_
  intro p e s m args below meth c C hret
  refine zr_sub [0, 1] [(0, .ref (G.1 + 88)), (1, .ref (G.1 + p1))] rfl ?_
  refine zr_aload_n C 0 dX9_scaledUp_0 rfl ?_
  refine zg_9_0 C 88 zk_88 zm_5_20 dX9_scaledUp_1 ?_
  refine zr_i2l C dX9_scaledUp_4 ?_
  refine zr_aload_n C 1 dX9_scaledUp_5 rfl ?_
  obtain ⟨r1, hr1, hJ⟩ := zb_e hJ
  refine zr_callVI C p1 (zk_lt (zkP_0 hp1) (by decide)) (zen_obj (zkP_0 hp1)) (rfl : zcl[3]? = some (RX3, TX3, 19)) (M_X3_allTicks G l hp1 hr1) zin_X3_allTicks zm_36_3 rfl rfl (Nat.le_of_ble_eq_true rfl) ⟨Nat.le_of_ble_eq_true rfl, Nat.le_of_ble_eq_true rfl⟩ ⟨Nat.le_of_ble_eq_true rfl, Nat.le_of_ble_eq_true rfl⟩ dX9_scaledUp_6 ?_
  refine zr_i2l C dX9_scaledUp_9 ?_
  refine zr_lmul C dX9_scaledUp_10 ?_
  exact zr_lret C hret (zs_e hJ) rfl rfl dX9_scaledUp_11
theorem dX9_off_0 : decode cX9_off 0 = .ok (.aload_n 0, 1) := by decide +kernel
theorem dX9_off_1 : decode cX9_off 1 = .ok (.aload_n 1, 1) := by decide +kernel
theorem dX9_off_2 : decode cX9_off 2 = .ok (.invokevirtual 40, 3) := by decide +kernel
theorem dX9_off_5 : decode cX9_off 5 = .ok (.aload_n 1, 1) := by decide +kernel
theorem dX9_off_6 : decode cX9_off 6 = .ok (.iload_n 2, 1) := by decide +kernel
theorem dX9_off_7 : decode cX9_off 7 = .ok (.invokevirtual 44, 3) := by decide +kernel
theorem dX9_off_10 : decode cX9_off 10 = .ok (.i2l, 1) := by decide +kernel
theorem dX9_off_11 : decode cX9_off 11 = .ok (.aload_n 0, 1) := by decide +kernel
theorem dX9_off_12 : decode cX9_off 12 = .ok (.getfield 13, 3) := by decide +kernel
theorem dX9_off_15 : decode cX9_off 15 = .ok (.i2l, 1) := by decide +kernel
theorem dX9_off_16 : decode cX9_off 16 = .ok (.lmul, 1) := by decide +kernel
theorem dX9_off_17 : decode cX9_off 17 = .ok (.lsub, 1) := by decide +kernel
theorem dX9_off_18 : decode cX9_off 18 = .ok (.lreturn, 1) := by decide +kernel
set_option maxRecDepth 100000 in
set_option maxHeartbeats 4000000 in
theorem M_X9_off (G : zG) (l : Launch) {p1 : Nat} (hp1 : zP p1 = true) {a2 : Int32} {σ : zS} {r : Int64} (hJ : J_X9_off p1 a2 σ = some r) : zML G l yX9_off cX9_off 3 (some .long) (zrm 2 46) [.ref (G.1 + 88), .ref (G.1 + p1), .int a2] 137 (zen G σ) r 137 (zen G σ) := by
  unfold J_X9_off at hJ
  refine zentL (by decide +kernel) (Nat.le_of_ble_eq_true rfl) ?_
  intro p e s m args below meth c C hret
  refine zr_sub [0, 1, 2] [(0, .ref (G.1 + 88)), (1, .ref (G.1 + p1)), (2, .int a2)] rfl ?_
  refine zr_aload_n C 0 dX9_off_0 rfl ?_
  refine zr_aload_n C 1 dX9_off_1 rfl ?_
  obtain ⟨r1, hr1, hJ⟩ := zb_e hJ
  refine zr_callVL C 88 (zk_lt zk_88 (by decide)) (zen_obj zk_88) (rfl : zcl[9]? = some (RX9, TX9, 2)) (M_X9_scaledUp G l hp1 hr1) zin_X9_scaledUp zm_36_8 rfl rfl (Nat.le_of_ble_eq_true rfl) ⟨Nat.le_of_ble_eq_true rfl, Nat.le_of_ble_eq_true rfl⟩ ⟨Nat.le_of_ble_eq_true rfl, Nat.le_of_ble_eq_true rfl⟩ dX9_off_2 ?_
  refine zr_aload_n C 1 dX9_off_5 rfl ?_
  refine zr_iload_n C 2 dX9_off_6 rfl ?_
  obtain ⟨r2, hr2, hJ⟩ := zb_e hJ
  refine zr_callVI C p1 (zk_lt (zkP_0 hp1) (by decide)) (zen_obj (zkP_0 hp1)) (rfl : zcl[3]? = some (RX3, TX3, 19)) (M_X3_total G l hp1 hr2) zin_X3_total zm_36_9 rfl rfl (Nat.le_of_ble_eq_true rfl) ⟨Nat.le_of_ble_eq_true rfl, Nat.le_of_ble_eq_true rfl⟩ ⟨Nat.le_of_ble_eq_true rfl, Nat.le_of_ble_eq_true rfl⟩ dX9_off_7 ?_
  refine zr_i2l C dX9_off_10 ?_
  refine zr_aload_n C 0 dX9_off_11 rfl ?_
  refine zg_9_1 C 88 zk_88 zm_5_21 dX9_off_12 ?_
  refine zr_i2l C dX9_off_15 ?_
  refine zr_lmul C dX9_off_16 ?_
  refine zr_lsub C dX9_off_17 ?_
  exact zr_lret C hret (zs_e hJ) rfl rfl dX9_off_18
theorem dX3_sliceOf_0 : decode cX3_sliceOf 0 = .ok (.iload_n 2, 1) := by decide +kernel
theorem dX3_sliceOf_1 : decode cX3_sliceOf 1 = .ok (.iconst 1, 1) := by decide +kernel
theorem dX3_sliceOf_2 : decode cX3_sliceOf 2 = .ok (.if_icmp .ge 7, 3) := by decide +kernel
theorem dX3_sliceOf_5 : decode cX3_sliceOf 5 = .ok (.iconst 0, 1) := by decide +kernel
theorem dX3_sliceOf_6 : decode cX3_sliceOf 6 = .ok (.goto 11, 3) := by decide +kernel
theorem dX3_sliceOf_9 : decode cX3_sliceOf 9 = .ok (.aload_n 0, 1) := by decide +kernel
theorem dX3_sliceOf_10 : decode cX3_sliceOf 10 = .ok (.getfield 71, 3) := by decide +kernel
theorem dX3_sliceOf_13 : decode cX3_sliceOf 13 = .ok (.iload_n 1, 1) := by decide +kernel
theorem dX3_sliceOf_14 : decode cX3_sliceOf 14 = .ok (.iaload, 1) := by decide +kernel
theorem dX3_sliceOf_15 : decode cX3_sliceOf 15 = .ok (.iload_n 2, 1) := by decide +kernel
theorem dX3_sliceOf_16 : decode cX3_sliceOf 16 = .ok (.idiv, 1) := by decide +kernel
theorem dX3_sliceOf_17 : decode cX3_sliceOf 17 = .ok (.ireturn, 1) := by decide +kernel
set_option maxRecDepth 100000 in
set_option maxHeartbeats 4000000 in
theorem M_X3_sliceOf (G : zG) (l : Launch) {p0 : Nat} (hp0 : zP p0 = true) {a1 : Int32} {a2 : Int32} {σ : zS} {r : Int32} (hJ : J_X3_sliceOf p0 a1 a2 σ = some r) : zMI G l yX3_sliceOf cX3_sliceOf 3 (some .int) (zrm 0 0) [.ref (G.1 + p0), .int a1, .int a2] 137 (zen G σ) r 137 (zen G σ) := by
  unfold J_X3_sliceOf at hJ
  refine zentI (by decide +kernel) (Nat.le_of_ble_eq_true rfl) ?_
  intro p e s m args below meth c C hret
  refine zr_sub [0, 1, 2] [(0, .ref (G.1 + p0)), (1, .int a1), (2, .int a2)] rfl ?_
  refine zr_iload_n C 2 dX3_sliceOf_0 rfl ?_
  refine zr_iconst C dX3_sliceOf_1 (v := (1 : Int32)) (by decide) ?_
  refine zr_icmp_ge C 9 dX3_sliceOf_2 (by decide) (fun hc1 => ?_) (fun hc1 => ?_)
  · have hJ := zif hc1 hJ
    refine zr_aload_n C 0 dX3_sliceOf_9 rfl ?_
    refine zg_3_18 C p0 (zkP_0 hp0) zm_4_12 dX3_sliceOf_10 ?_
    refine zr_iload_n C 1 dX3_sliceOf_13 rfl ?_
    obtain ⟨hg2, hJ⟩ := zg_e hJ
    refine zu_iald C (p0 + 29) (zkP_29 hp0) hg2 dX3_sliceOf_14 ?_
    refine zr_iload_n C 2 dX3_sliceOf_15 rfl ?_
    obtain ⟨hn3, hJ⟩ := zn_e hJ
    refine zr_idiv C dX3_sliceOf_16 hn3 ?_
    exact zr_iret C hret (zs_e hJ) rfl rfl dX3_sliceOf_17
  · have hJ := zif' hc1 hJ
    refine zr_iconst C dX3_sliceOf_5 (v := (0 : Int32)) (by decide) ?_
    refine zr_goto C 17 dX3_sliceOf_6 (by decide) ?_
    exact zr_iret C hret (zs_e hJ) rfl rfl dX3_sliceOf_17
theorem dX9_take_0 : decode cX9_take 0 = .ok (.aload_n 0, 1) := by decide +kernel
theorem dX9_take_1 : decode cX9_take 1 = .ok (.iconst 0, 1) := by decide +kernel
theorem dX9_take_2 : decode cX9_take 2 = .ok (.putfield 7, 3) := by decide +kernel
theorem dX9_take_5 : decode cX9_take 5 = .ok (.aload_n 0, 1) := by decide +kernel
theorem dX9_take_6 : decode cX9_take 6 = .ok (.iconst 0, 1) := by decide +kernel
theorem dX9_take_7 : decode cX9_take 7 = .ok (.putfield 13, 3) := by decide +kernel
theorem dX9_take_10 : decode cX9_take 10 = .ok (.iload_n 3, 1) := by decide +kernel
theorem dX9_take_11 : decode cX9_take 11 = .ok (.iconst 1, 1) := by decide +kernel
theorem dX9_take_12 : decode cX9_take 12 = .ok (.if_icmp .ge 4, 3) := by decide +kernel
theorem dX9_take_15 : decode cX9_take 15 = .ok (.return_, 1) := by decide +kernel
theorem dX9_take_16 : decode cX9_take 16 = .ok (.iconst 0, 1) := by decide +kernel
theorem dX9_take_17 : decode cX9_take 17 = .ok (.istore 6, 2) := by decide +kernel
theorem dX9_take_19 : decode cX9_take 19 = .ok (.iload 6, 2) := by decide +kernel
theorem dX9_take_21 : decode cX9_take 21 = .ok (.aload_n 1, 1) := by decide +kernel
theorem dX9_take_22 : decode cX9_take 22 = .ok (.getfield 16, 3) := by decide +kernel
theorem dX9_take_25 : decode cX9_take 25 = .ok (.if_icmp .ge 67, 3) := by decide +kernel
theorem dX9_take_28 : decode cX9_take 28 = .ok (.aload_n 1, 1) := by decide +kernel
theorem dX9_take_29 : decode cX9_take 29 = .ok (.iload 6, 2) := by decide +kernel
theorem dX9_take_31 : decode cX9_take 31 = .ok (.iload_n 2, 1) := by decide +kernel
theorem dX9_take_32 : decode cX9_take 32 = .ok (.invokevirtual 21, 3) := by decide +kernel
theorem dX9_take_35 : decode cX9_take 35 = .ok (.iload_n 3, 1) := by decide +kernel
theorem dX9_take_36 : decode cX9_take 36 = .ok (.irem, 1) := by decide +kernel
theorem dX9_take_37 : decode cX9_take 37 = .ok (.iload 4, 2) := by decide +kernel
theorem dX9_take_39 : decode cX9_take 39 = .ok (.if_icmp .ne 47, 3) := by decide +kernel
theorem dX9_take_42 : decode cX9_take 42 = .ok (.aload_n 1, 1) := by decide +kernel
theorem dX9_take_43 : decode cX9_take 43 = .ok (.getfield 25, 3) := by decide +kernel
theorem dX9_take_46 : decode cX9_take 46 = .ok (.iload 6, 2) := by decide +kernel
theorem dX9_take_48 : decode cX9_take 48 = .ok (.baload, 1) := by decide +kernel
theorem dX9_take_49 : decode cX9_take 49 = .ok (.istore 7, 2) := by decide +kernel
theorem dX9_take_51 : decode cX9_take 51 = .ok (.aload_n 0, 1) := by decide +kernel
theorem dX9_take_52 : decode cX9_take 52 = .ok (.dup, 1) := by decide +kernel
theorem dX9_take_53 : decode cX9_take 53 = .ok (.getfield 7, 3) := by decide +kernel
theorem dX9_take_56 : decode cX9_take 56 = .ok (.aload_n 1, 1) := by decide +kernel
theorem dX9_take_57 : decode cX9_take 57 = .ok (.getfield 29, 3) := by decide +kernel
theorem dX9_take_60 : decode cX9_take 60 = .ok (.iload 7, 2) := by decide +kernel
theorem dX9_take_62 : decode cX9_take 62 = .ok (.aaload, 1) := by decide +kernel
theorem dX9_take_63 : decode cX9_take 63 = .ok (.iload 5, 2) := by decide +kernel
theorem dX9_take_65 : decode cX9_take 65 = .ok (.iaload, 1) := by decide +kernel
theorem dX9_take_66 : decode cX9_take 66 = .ok (.iadd, 1) := by decide +kernel
theorem dX9_take_67 : decode cX9_take 67 = .ok (.putfield 7, 3) := by decide +kernel
theorem dX9_take_70 : decode cX9_take 70 = .ok (.aload_n 0, 1) := by decide +kernel
theorem dX9_take_71 : decode cX9_take 71 = .ok (.dup, 1) := by decide +kernel
theorem dX9_take_72 : decode cX9_take 72 = .ok (.getfield 13, 3) := by decide +kernel
theorem dX9_take_75 : decode cX9_take 75 = .ok (.aload_n 1, 1) := by decide +kernel
theorem dX9_take_76 : decode cX9_take 76 = .ok (.getfield 33, 3) := by decide +kernel
theorem dX9_take_79 : decode cX9_take 79 = .ok (.iload 7, 2) := by decide +kernel
theorem dX9_take_81 : decode cX9_take 81 = .ok (.iaload, 1) := by decide +kernel
theorem dX9_take_82 : decode cX9_take 82 = .ok (.iadd, 1) := by decide +kernel
theorem dX9_take_83 : decode cX9_take 83 = .ok (.putfield 13, 3) := by decide +kernel
theorem dX9_take_86 : decode cX9_take 86 = .ok (.iinc 6 1, 3) := by decide +kernel
theorem dX9_take_89 : decode cX9_take 89 = .ok (.goto (-70), 3) := by decide +kernel
theorem dX9_take_92 : decode cX9_take 92 = .ok (.return_, 1) := by decide +kernel
set_option maxRecDepth 100000 in
set_option maxHeartbeats 4000000 in
theorem M_X9_take (G : zG) (l : Launch) {p1 : Nat} (hp1 : zP p1 = true) {a2 : Int32} {a3 : Int32} {a4 : Int32} {a5 : Int32} {σ : zS} {σ' : zS} (hJ : J_X9_take p1 a2 a3 a4 a5 σ = some σ') : zMV G l yX9_take cX9_take 8 none (zrm 1 22) [.ref (G.1 + 88), .ref (G.1 + p1), .int a2, .int a3, .int a4, .int a5] 137 (zen G σ) 137 (zen G σ') := by
  unfold J_X9_take at hJ
  refine zentV (by decide +kernel) (Nat.le_of_ble_eq_true rfl) ?_
  intro p e s m args below meth c C hret
  refine zr_sub [0, 1, 2, 3, 4, 5] [(0, .ref (G.1 + 88)), (1, .ref (G.1 + p1)), (2, .int a2), (3, .int a3), (4, .int a4), (5, .int a5)] rfl ?_
  refine zr_aload_n C 0 dX9_take_0 rfl ?_
  refine zr_iconst C dX9_take_1 (v := (0 : Int32)) (by decide) ?_
  obtain ⟨σ1, hσ1, hJ⟩ := zlet_e hJ
  refine zp_9_0 C 88 zk_88 zm_5_20 hσ1 dX9_take_2 ?_
  refine zr_aload_n C 0 dX9_take_5 rfl ?_
  refine zr_iconst C dX9_take_6 (v := (0 : Int32)) (by decide) ?_
  obtain ⟨σ2, hσ2, hJ⟩ := zlet_e hJ
  refine zp_9_1 C 88 zk_88 zm_5_21 hσ2 dX9_take_7 ?_
  refine zr_iload_n C 3 dX9_take_10 rfl ?_
  refine zr_iconst C dX9_take_11 (v := (1 : Int32)) (by decide) ?_
  refine zr_icmp_ge C 16 dX9_take_12 (by decide) (fun hc3 => ?_) (fun hc3 => ?_)
  · have hJ := zif hc3 hJ
    refine zr_iconst C dX9_take_16 (v := (0 : Int32)) (by decide) ?_
    refine zr_istore C [(6, .int (0 : Int32)), (0, .ref (G.1 + 88)), (1, .ref (G.1 + p1)), (2, .int a2), (3, .int a3), (4, .int a4), (5, .int a5)] dX9_take_17 (by decide) rfl ?_
    have hl19 : ∀ (n : Nat) (w6_19 : Int32) (σ_19 : zS), L_X9_take_19 p1 a2 a3 a4 a5 n w6_19 σ_19 = some σ' → zU G 8 p l e (zrm 1 22) s m args below meth c (MQ below (va_Qv (fun (_ : Unit) => True) (fun _ t => zok G 137 (zen G σ') t) (zA G)) args s 0 0 (zA G)) σ_19 19 [(0, .ref (G.1 + 88)), (1, .ref (G.1 + p1)), (2, .int a2), (3, .int a3), (4, .int a4), (5, .int a5), (6, .int w6_19)] [] := by
      intro n
      induction n with
      | zero =>
        intro w6_19 σ_19 hJ
        rw [L_X9_take_19] at hJ
        cases hJ
      | succ n ih =>
        intro w6_19 σ_19 hJ
        rw [L_X9_take_19] at hJ
        obtain ⟨r_19, hr_19, hJ⟩ := zlet_e hJ
        have ih19 : ∀ (w6_19 : Int32) (σ_19 : zS), r_19 w6_19 σ_19 = some σ' → zU G 8 p l e (zrm 1 22) s m args below meth c (MQ below (va_Qv (fun (_ : Unit) => True) (fun _ t => zok G 137 (zen G σ') t) (zA G)) args s 0 0 (zA G)) σ_19 19 [(0, .ref (G.1 + 88)), (1, .ref (G.1 + p1)), (2, .int a2), (3, .int a3), (4, .int a4), (5, .int a5), (6, .int w6_19)] [] := by
          rw [hr_19]
          exact ih
        refine zr_iload C 6 dX9_take_19 rfl ?_
        refine zr_aload_n C 1 dX9_take_21 rfl ?_
        refine zg_3_15 C p1 (zkP_0 hp1) zm_34_15 dX9_take_22 ?_
        refine zr_icmp_ge C 92 dX9_take_25 (by decide) (fun hc4 => ?_) (fun hc4 => ?_)
        · have hJ := zif hc4 hJ
          exact zr_vret C hret rfl (congrArg (zen G) (zs_e hJ)) dX9_take_92
        · have hJ := zif' hc4 hJ
          refine zr_aload_n C 1 dX9_take_28 rfl ?_
          refine zr_iload C 6 dX9_take_29 rfl ?_
          refine zr_iload_n C 2 dX9_take_31 rfl ?_
          obtain ⟨r5, hr5, hJ⟩ := zb_e hJ
          refine zr_callVI C p1 (zk_lt (zkP_0 hp1) (by decide)) (zen_obj (zkP_0 hp1)) (rfl : zcl[3]? = some (RX3, TX3, 19)) (M_X3_sliceOf G l hp1 hr5) zin_X3_sliceOf zm_34_19 rfl rfl (Nat.le_of_ble_eq_true rfl) ⟨Nat.le_of_ble_eq_true rfl, Nat.le_of_ble_eq_true rfl⟩ ⟨Nat.le_of_ble_eq_true rfl, Nat.le_of_ble_eq_true rfl⟩ dX9_take_32 ?_
          refine zr_iload_n C 3 dX9_take_35 rfl ?_
          obtain ⟨hn6, hJ⟩ := zn_e hJ
          refine zr_irem C dX9_take_36 hn6 ?_
          refine zr_iload C 4 dX9_take_37 rfl ?_
          refine zr_icmp_ne C 86 dX9_take_39 (by decide) (fun hc7 => ?_) (fun hc7 => ?_)
          · have hJ := zif' hc7 hJ
            obtain ⟨v8, hv8, hJ⟩ := zlet_e hJ
            refine zr_iinc C v8 6 [(6, .int v8), (0, .ref (G.1 + 88)), (1, .ref (G.1 + p1)), (2, .int a2), (3, .int a3), (4, .int a4), (5, .int a5)] dX9_take_86 rfl (hv8.trans (zinc (by decide))) (by decide) rfl ?_
            refine zr_goto C 19 dX9_take_89 (by decide) ?_
            refine zr_sub [1, 2, 3, 4, 5, 6, 0] [(0, .ref (G.1 + 88)), (1, .ref (G.1 + p1)), (2, .int a2), (3, .int a3), (4, .int a4), (5, .int a5), (6, .int v8)] rfl ?_
            exact ih19 _ _ hJ
          · have hJ := zif hc7 hJ
            refine zr_aload_n C 1 dX9_take_42 rfl ?_
            refine zg_3_17 C p1 (zkP_0 hp1) zm_34_16 dX9_take_43 ?_
            refine zr_iload C 6 dX9_take_46 rfl ?_
            obtain ⟨hg9, hJ⟩ := zg_e hJ
            refine zu_bald C (p1 + 28) (zkP_28 hp1) hg9 dX9_take_48 ?_
            obtain ⟨v10, hv10, hJ⟩ := zlet_e hJ
            refine zr_topi hv10 ?_
            refine zr_istore C [(7, .int v10), (0, .ref (G.1 + 88)), (1, .ref (G.1 + p1)), (2, .int a2), (3, .int a3), (4, .int a4), (5, .int a5), (6, .int w6_19)] dX9_take_49 (by decide) rfl ?_
            refine zr_aload_n C 1 dX9_take_51 rfl ?_
            refine zr_dup C dX9_take_52 rfl ?_
            refine zg_9_0 C 88 zk_88 zm_5_20 dX9_take_53 ?_
            refine zr_aload_n C 2 dX9_take_56 rfl ?_
            refine zg_3_4 C p1 (zkP_0 hp1) zm_34_17 dX9_take_57 ?_
            refine zr_iload C 0 dX9_take_60 rfl ?_
            obtain ⟨hg11, hJ⟩ := zg_e hJ
            refine zu_aald C (p1 + 4) (zkP_4 hp1) hg11 dX9_take_62 ?_
            refine zr_iload C 6 dX9_take_63 rfl ?_
            obtain ⟨hg12, hJ⟩ := zg_e hJ
            refine zu_iald C ((p1 + 4) + 1 + v10.toNatClampNeg) (zk_rowP hp1 (zi_lt hg11)) hg12 dX9_take_65 ?_
            refine zr_iadd C dX9_take_66 ?_
            obtain ⟨σ13, hσ13, hJ⟩ := zlet_e hJ
            refine zp_9_0 C 88 zk_88 zm_5_20 hσ13 dX9_take_67 ?_
            refine zr_aload_n C 1 dX9_take_70 rfl ?_
            refine zr_dup C dX9_take_71 rfl ?_
            refine zg_9_1 C 88 zk_88 zm_5_21 dX9_take_72 ?_
            refine zr_aload_n C 2 dX9_take_75 rfl ?_
            refine zg_3_1 C p1 (zkP_0 hp1) zm_34_18 dX9_take_76 ?_
            refine zr_iload C 0 dX9_take_79 rfl ?_
            obtain ⟨hg14, hJ⟩ := zg_e hJ
            refine zu_iald C (p1 + 1) (zkP_1 hp1) hg14 dX9_take_81 ?_
            refine zr_iadd C dX9_take_82 ?_
            obtain ⟨σ15, hσ15, hJ⟩ := zlet_e hJ
            refine zp_9_1 C 88 zk_88 zm_5_21 hσ15 dX9_take_83 ?_
            obtain ⟨v16, hv16, hJ⟩ := zlet_e hJ
            refine zr_iinc C v16 7 [(6, .int v16), (7, .int v10), (0, .ref (G.1 + 88)), (1, .ref (G.1 + p1)), (2, .int a2), (3, .int a3), (4, .int a4), (5, .int a5)] dX9_take_86 rfl (hv16.trans (zinc (by decide))) (by decide) rfl ?_
            refine zr_goto C 19 dX9_take_89 (by decide) ?_
            refine zr_sub [2, 3, 4, 5, 6, 7, 0] [(0, .ref (G.1 + 88)), (1, .ref (G.1 + p1)), (2, .int a2), (3, .int a3), (4, .int a4), (5, .int a5), (6, .int v16)] rfl ?_
            exact ih19 _ _ hJ
    refine zr_sub [1, 2, 3, 4, 5, 6, 0] [(0, .ref (G.1 + 88)), (1, .ref (G.1 + p1)), (2, .int a2), (3, .int a3), (4, .int a4), (5, .int a5), (6, .int (0 : Int32))] rfl ?_
    exact hl19 _ _ _ hJ
  · have hJ := zif' hc3 hJ
    exact zr_vret C hret rfl (congrArg (zen G) (zs_e hJ)) dX9_take_15
theorem dX10_nearestSlice_0 : decode cX10_nearestSlice 0 = .ok (.aload_n 0, 1) := by decide +kernel
theorem dX10_nearestSlice_1 : decode cX10_nearestSlice 1 = .ok (.getfield 45, 3) := by decide +kernel
theorem dX10_nearestSlice_4 : decode cX10_nearestSlice 4 = .ok (.iload 4, 2) := by decide +kernel
theorem dX10_nearestSlice_6 : decode cX10_nearestSlice 6 = .ok (.iload_n 3, 1) := by decide +kernel
theorem dX10_nearestSlice_7 : decode cX10_nearestSlice 7 = .ok (.invokevirtual 243, 3) := by decide +kernel
theorem dX10_nearestSlice_10 : decode cX10_nearestSlice 10 = .ok (.istore 5, 2) := by decide +kernel
theorem dX10_nearestSlice_12 : decode cX10_nearestSlice 12 = .ok (.bipush (-4), 2) := by decide +kernel
theorem dX10_nearestSlice_14 : decode cX10_nearestSlice 14 = .ok (.istore 6, 2) := by decide +kernel
theorem dX10_nearestSlice_16 : decode cX10_nearestSlice 16 = .ok (.lconst 0, 1) := by decide +kernel
theorem dX10_nearestSlice_17 : decode cX10_nearestSlice 17 = .ok (.lstore 7, 2) := by decide +kernel
theorem dX10_nearestSlice_19 : decode cX10_nearestSlice 19 = .ok (.lconst 1, 1) := by decide +kernel
theorem dX10_nearestSlice_20 : decode cX10_nearestSlice 20 = .ok (.lstore 9, 2) := by decide +kernel
theorem dX10_nearestSlice_22 : decode cX10_nearestSlice 22 = .ok (.iload_n 1, 1) := by decide +kernel
theorem dX10_nearestSlice_23 : decode cX10_nearestSlice 23 = .ok (.istore 11, 2) := by decide +kernel
theorem dX10_nearestSlice_25 : decode cX10_nearestSlice 25 = .ok (.iload 11, 2) := by decide +kernel
theorem dX10_nearestSlice_27 : decode cX10_nearestSlice 27 = .ok (.iload_n 2, 1) := by decide +kernel
theorem dX10_nearestSlice_28 : decode cX10_nearestSlice 28 = .ok (.if_icmp .gt 100, 3) := by decide +kernel
theorem dX10_nearestSlice_31 : decode cX10_nearestSlice 31 = .ok (.aload_n 0, 1) := by decide +kernel
theorem dX10_nearestSlice_32 : decode cX10_nearestSlice 32 = .ok (.getfield 52, 3) := by decide +kernel
theorem dX10_nearestSlice_35 : decode cX10_nearestSlice 35 = .ok (.aload_n 0, 1) := by decide +kernel
theorem dX10_nearestSlice_36 : decode cX10_nearestSlice 36 = .ok (.getfield 19, 3) := by decide +kernel
theorem dX10_nearestSlice_39 : decode cX10_nearestSlice 39 = .ok (.iload 11, 2) := by decide +kernel
theorem dX10_nearestSlice_41 : decode cX10_nearestSlice 41 = .ok (.iload_n 3, 1) := by decide +kernel
theorem dX10_nearestSlice_42 : decode cX10_nearestSlice 42 = .ok (.iload 5, 2) := by decide +kernel
theorem dX10_nearestSlice_44 : decode cX10_nearestSlice 44 = .ok (.iload 4, 2) := by decide +kernel
theorem dX10_nearestSlice_46 : decode cX10_nearestSlice 46 = .ok (.invokevirtual 246, 3) := by decide +kernel
theorem dX10_nearestSlice_49 : decode cX10_nearestSlice 49 = .ok (.aload_n 0, 1) := by decide +kernel
theorem dX10_nearestSlice_50 : decode cX10_nearestSlice 50 = .ok (.getfield 52, 3) := by decide +kernel
theorem dX10_nearestSlice_53 : decode cX10_nearestSlice 53 = .ok (.aload_n 0, 1) := by decide +kernel
theorem dX10_nearestSlice_54 : decode cX10_nearestSlice 54 = .ok (.getfield 19, 3) := by decide +kernel
theorem dX10_nearestSlice_57 : decode cX10_nearestSlice 57 = .ok (.iload 4, 2) := by decide +kernel
theorem dX10_nearestSlice_59 : decode cX10_nearestSlice 59 = .ok (.invokevirtual 262, 3) := by decide +kernel
theorem dX10_nearestSlice_62 : decode cX10_nearestSlice 62 = .ok (.invokestatic 273, 3) := by decide +kernel
theorem dX10_nearestSlice_65 : decode cX10_nearestSlice 65 = .ok (.lstore 12, 2) := by decide +kernel
theorem dX10_nearestSlice_67 : decode cX10_nearestSlice 67 = .ok (.aload_n 0, 1) := by decide +kernel
theorem dX10_nearestSlice_68 : decode cX10_nearestSlice 68 = .ok (.getfield 52, 3) := by decide +kernel
theorem dX10_nearestSlice_71 : decode cX10_nearestSlice 71 = .ok (.getfield 252, 3) := by decide +kernel
theorem dX10_nearestSlice_74 : decode cX10_nearestSlice 74 = .ok (.ifCond .le 48, 3) := by decide +kernel
theorem dX10_nearestSlice_77 : decode cX10_nearestSlice 77 = .ok (.iload 6, 2) := by decide +kernel
theorem dX10_nearestSlice_79 : decode cX10_nearestSlice 79 = .ok (.bipush (-4), 2) := by decide +kernel
theorem dX10_nearestSlice_81 : decode cX10_nearestSlice 81 = .ok (.if_icmp .eq 23, 3) := by decide +kernel
theorem dX10_nearestSlice_84 : decode cX10_nearestSlice 84 = .ok (.lload 12, 2) := by decide +kernel
theorem dX10_nearestSlice_86 : decode cX10_nearestSlice 86 = .ok (.lload 9, 2) := by decide +kernel
theorem dX10_nearestSlice_88 : decode cX10_nearestSlice 88 = .ok (.lmul, 1) := by decide +kernel
theorem dX10_nearestSlice_89 : decode cX10_nearestSlice 89 = .ok (.lload 7, 2) := by decide +kernel
theorem dX10_nearestSlice_91 : decode cX10_nearestSlice 91 = .ok (.aload_n 0, 1) := by decide +kernel
theorem dX10_nearestSlice_92 : decode cX10_nearestSlice 92 = .ok (.getfield 52, 3) := by decide +kernel
theorem dX10_nearestSlice_95 : decode cX10_nearestSlice 95 = .ok (.getfield 252, 3) := by decide +kernel
theorem dX10_nearestSlice_98 : decode cX10_nearestSlice 98 = .ok (.i2l, 1) := by decide +kernel
theorem dX10_nearestSlice_99 : decode cX10_nearestSlice 99 = .ok (.lmul, 1) := by decide +kernel
theorem dX10_nearestSlice_100 : decode cX10_nearestSlice 100 = .ok (.lcmp, 1) := by decide +kernel
theorem dX10_nearestSlice_101 : decode cX10_nearestSlice 101 = .ok (.ifCond .ge 21, 3) := by decide +kernel
theorem dX10_nearestSlice_104 : decode cX10_nearestSlice 104 = .ok (.iload 11, 2) := by decide +kernel
theorem dX10_nearestSlice_106 : decode cX10_nearestSlice 106 = .ok (.istore 6, 2) := by decide +kernel
theorem dX10_nearestSlice_108 : decode cX10_nearestSlice 108 = .ok (.lload 12, 2) := by decide +kernel
theorem dX10_nearestSlice_110 : decode cX10_nearestSlice 110 = .ok (.lstore 7, 2) := by decide +kernel
theorem dX10_nearestSlice_112 : decode cX10_nearestSlice 112 = .ok (.aload_n 0, 1) := by decide +kernel
theorem dX10_nearestSlice_113 : decode cX10_nearestSlice 113 = .ok (.getfield 52, 3) := by decide +kernel
theorem dX10_nearestSlice_116 : decode cX10_nearestSlice 116 = .ok (.getfield 252, 3) := by decide +kernel
theorem dX10_nearestSlice_119 : decode cX10_nearestSlice 119 = .ok (.i2l, 1) := by decide +kernel
theorem dX10_nearestSlice_120 : decode cX10_nearestSlice 120 = .ok (.lstore 9, 2) := by decide +kernel
theorem dX10_nearestSlice_122 : decode cX10_nearestSlice 122 = .ok (.iinc 11 1, 3) := by decide +kernel
theorem dX10_nearestSlice_125 : decode cX10_nearestSlice 125 = .ok (.goto (-100), 3) := by decide +kernel
theorem dX10_nearestSlice_128 : decode cX10_nearestSlice 128 = .ok (.iload 6, 2) := by decide +kernel
theorem dX10_nearestSlice_130 : decode cX10_nearestSlice 130 = .ok (.ireturn, 1) := by decide +kernel
set_option maxRecDepth 100000 in
set_option maxHeartbeats 4000000 in
theorem M_X10_nearestSlice (G : zG) (l : Launch) {a1 : Int32} {a2 : Int32} {a3 : Int32} {a4 : Int32} {σ : zS} {r : Int32} {σ' : zS} (hJ : J_X10_nearestSlice a1 a2 a3 a4 σ = some (r, σ')) : zMI G l yX10_nearestSlice cX10_nearestSlice 14 (some .int) (zrm 3 68) [.ref (G.1 + 0), .int a1, .int a2, .int a3, .int a4] 137 (zen G σ) r 137 (zen G σ') := by
  unfold J_X10_nearestSlice at hJ
  refine zentI (by decide +kernel) (Nat.le_of_ble_eq_true rfl) ?_
  intro p e s m args below meth c C hret
  refine zr_sub [0, 1, 2, 3, 4] [(0, .ref (G.1 + 0)), (1, .int a1), (2, .int a2), (3, .int a3), (4, .int a4)] rfl ?_
  refine zr_aload_n C 0 dX10_nearestSlice_0 rfl ?_
  refine zg_10_5 C 0 zk_0 zm_2_9 dX10_nearestSlice_1 ?_
  refine zr_iload C 4 dX10_nearestSlice_4 rfl ?_
  refine zr_iload_n C 3 dX10_nearestSlice_6 rfl ?_
  obtain ⟨r1, hr1, hJ⟩ := zb_e hJ
  refine zr_callVI C 82 (zk_lt zk_82 (by decide)) (zen_obj zk_82) (rfl : zcl[0]? = some (RX0, TX0, 7)) (M_X0_roundOf G l hr1) zin_X0_roundOf zm_34_7 rfl rfl (Nat.le_of_ble_eq_true rfl) ⟨Nat.le_of_ble_eq_true rfl, Nat.le_of_ble_eq_true rfl⟩ ⟨Nat.le_of_ble_eq_true rfl, Nat.le_of_ble_eq_true rfl⟩ dX10_nearestSlice_7 ?_
  refine zr_istore C [(5, .int r1), (0, .ref (G.1 + 0)), (1, .int a1), (2, .int a2), (3, .int a3), (4, .int a4)] dX10_nearestSlice_10 (by decide) rfl ?_
  refine zr_bipush C dX10_nearestSlice_12 (v := (-4 : Int32)) (by decide) ?_
  refine zr_istore C [(6, .int (-4 : Int32)), (5, .int r1), (0, .ref (G.1 + 0)), (1, .int a1), (2, .int a2), (3, .int a3), (4, .int a4)] dX10_nearestSlice_14 (by decide) rfl ?_
  refine zr_lconst C dX10_nearestSlice_16 (v := (0 : Int64)) (by decide) ?_
  refine zr_lstore C [(7, .long (0 : Int64)), (6, .int (-4 : Int32)), (5, .int r1), (0, .ref (G.1 + 0)), (1, .int a1), (2, .int a2), (3, .int a3), (4, .int a4)] dX10_nearestSlice_17 (by decide) rfl ?_
  refine zr_lconst C dX10_nearestSlice_19 (v := (1 : Int64)) (by decide) ?_
  refine zr_lstore C [(9, .long (1 : Int64)), (7, .long (0 : Int64)), (6, .int (-4 : Int32)), (5, .int r1), (0, .ref (G.1 + 0)), (1, .int a1), (2, .int a2), (3, .int a3), (4, .int a4)] dX10_nearestSlice_20 (by decide) rfl ?_
  refine zr_iload_n C 5 dX10_nearestSlice_22 rfl ?_
  refine zr_istore C [(11, .int a1), (9, .long (1 : Int64)), (7, .long (0 : Int64)), (6, .int (-4 : Int32)), (5, .int r1), (0, .ref (G.1 + 0)), (1, .int a1), (2, .int a2), (3, .int a3), (4, .int a4)] dX10_nearestSlice_23 (by decide) rfl ?_
  have hl25 : ∀ (n : Nat) (w6_25 : Int32) (w7_25 : Int64) (w9_25 : Int64) (w11_25 : Int32) (σ_25 : zS), L_X10_nearestSlice_25 a2 a3 a4 r1 n w6_25 w7_25 w9_25 w11_25 σ_25 = some (r, σ') → zU G 14 p l e (zrm 3 68) s m args below meth c (MQ below (va_Qi (fun x (_ : Unit) => x = r) (fun _ t => zok G 137 (zen G σ') t) (zA G)) args s 0 0 (zA G)) σ_25 25 [(0, .ref (G.1 + 0)), (2, .int a2), (3, .int a3), (4, .int a4), (5, .int r1), (6, .int w6_25), (7, .long w7_25), (9, .long w9_25), (11, .int w11_25)] [] := by
    intro n
    induction n with
    | zero =>
      intro w6_25 w7_25 w9_25 w11_25 σ_25 hJ
      rw [L_X10_nearestSlice_25] at hJ
      cases hJ
    | succ n ih =>
      intro w6_25 w7_25 w9_25 w11_25 σ_25 hJ
      rw [L_X10_nearestSlice_25] at hJ
      obtain ⟨r_25, hr_25, hJ⟩ := zlet_e hJ
      have ih25 : ∀ (w6_25 : Int32) (w7_25 : Int64) (w9_25 : Int64) (w11_25 : Int32) (σ_25 : zS), r_25 w6_25 w7_25 w9_25 w11_25 σ_25 = some (r, σ') → zU G 14 p l e (zrm 3 68) s m args below meth c (MQ below (va_Qi (fun x (_ : Unit) => x = r) (fun _ t => zok G 137 (zen G σ') t) (zA G)) args s 0 0 (zA G)) σ_25 25 [(0, .ref (G.1 + 0)), (2, .int a2), (3, .int a3), (4, .int a4), (5, .int r1), (6, .int w6_25), (7, .long w7_25), (9, .long w9_25), (11, .int w11_25)] [] := by
        rw [hr_25]
        exact ih
      refine zr_iload C 8 dX10_nearestSlice_25 rfl ?_
      refine zr_iload_n C 1 dX10_nearestSlice_27 rfl ?_
      refine zr_icmp_gt C 128 dX10_nearestSlice_28 (by decide) (fun hc2 => ?_) (fun hc2 => ?_)
      · have hJ := zif hc2 hJ
        refine zr_iload C 5 dX10_nearestSlice_128 rfl ?_
        exact zr_iret C hret (Prod.mk.inj (zs_e hJ)).1 rfl (congrArg (zen G) (Prod.mk.inj (zs_e hJ)).2) dX10_nearestSlice_130
      · have hJ := zif' hc2 hJ
        refine zr_aload_n C 0 dX10_nearestSlice_31 rfl ?_
        refine zg_10_6 C 0 zk_0 zm_2_13 dX10_nearestSlice_32 ?_
        refine zr_aload_n C 0 dX10_nearestSlice_35 rfl ?_
        obtain ⟨p3, hp3, hJ⟩ := zlet_e hJ
        obtain ⟨hp4, hJ⟩ := zg_e hJ
        refine zg_10_1 C 0 zk_0 zm_1_20 dX10_nearestSlice_36 ?_
        refine zr_topr hp3 ?_
        refine zr_iload C 8 dX10_nearestSlice_39 rfl ?_
        refine zr_iload_n C 2 dX10_nearestSlice_41 rfl ?_
        refine zr_iload C 4 dX10_nearestSlice_42 rfl ?_
        refine zr_iload C 3 dX10_nearestSlice_44 rfl ?_
        obtain ⟨σ6, hr5, hJ⟩ := zb_e hJ
        refine zr_callVV C 88 (zk_lt zk_88 (by decide)) (zen_obj zk_88) (rfl : zcl[9]? = some (RX9, TX9, 2)) (M_X9_take G l hp4 hr5) zin_X9_take zm_34_11 rfl rfl (Nat.le_of_ble_eq_true rfl) ⟨Nat.le_of_ble_eq_true rfl, Nat.le_of_ble_eq_true rfl⟩ ⟨Nat.le_of_ble_eq_true rfl, Nat.le_of_ble_eq_true rfl⟩ dX10_nearestSlice_46 ?_
        refine zr_aload_n C 0 dX10_nearestSlice_49 rfl ?_
        refine zg_10_6 C 0 zk_0 zm_2_13 dX10_nearestSlice_50 ?_
        refine zr_aload_n C 0 dX10_nearestSlice_53 rfl ?_
        obtain ⟨p7, hp7, hJ⟩ := zlet_e hJ
        obtain ⟨hp8, hJ⟩ := zg_e hJ
        refine zg_10_1 C 0 zk_0 zm_1_20 dX10_nearestSlice_54 ?_
        refine zr_topr hp7 ?_
        refine zr_iload C 3 dX10_nearestSlice_57 rfl ?_
        obtain ⟨r9, hr9, hJ⟩ := zb_e hJ
        refine zr_callVL C 88 (zk_lt zk_88 (by decide)) (zen_obj zk_88) (rfl : zcl[9]? = some (RX9, TX9, 2)) (M_X9_off G l hp8 hr9) zin_X9_off zm_36_4 rfl rfl (Nat.le_of_ble_eq_true rfl) ⟨Nat.le_of_ble_eq_true rfl, Nat.le_of_ble_eq_true rfl⟩ ⟨Nat.le_of_ble_eq_true rfl, Nat.le_of_ble_eq_true rfl⟩ dX10_nearestSlice_59 ?_
        refine zr_mabs_long C zm_23_13 zMs_abs_long zMi zMc_abs_long (Nat.le_of_ble_eq_true rfl) (Nat.le_of_ble_eq_true rfl) ⟨Nat.le_of_ble_eq_true rfl, Nat.le_of_ble_eq_true rfl⟩ dX10_nearestSlice_62 ?_
        obtain ⟨v10, hv10, hJ⟩ := zlet_e hJ
        refine zr_topl hv10 ?_
        refine zr_lstore C [(12, .long v10), (0, .ref (G.1 + 0)), (2, .int a2), (3, .int a3), (4, .int a4), (5, .int r1), (6, .int w6_25), (7, .long w7_25), (9, .long w9_25), (11, .int w11_25)] dX10_nearestSlice_65 (by decide) rfl ?_
        refine zr_aload_n C 1 dX10_nearestSlice_67 rfl ?_
        refine zg_10_6 C 0 zk_0 zm_2_13 dX10_nearestSlice_68 ?_
        refine zg_9_1 C 88 zk_88 zm_34_3 dX10_nearestSlice_71 ?_
        obtain ⟨v11, hv11, hJ⟩ := zlet_e hJ
        obtain ⟨v12, hv12, hJ⟩ := zlet_e hJ
        obtain ⟨v13, hv13, hJ⟩ := zlet_e hJ
        have hf15 : zU G 14 p l e (zrm 3 68) s m args below meth c (MQ below (va_Qi (fun x (_ : Unit) => x = r) (fun _ t => zok G 137 (zen G σ') t) (zA G)) args s 0 0 (zA G)) σ6 122 [(0, .ref (G.1 + 0)), (2, .int a2), (3, .int a3), (4, .int a4), (5, .int r1), (6, .int v11), (7, .long v12), (9, .long v13), (11, .int w11_25)] [] := by
          obtain ⟨v14, hv14, hJ⟩ := zlet_e hJ
          refine zr_iinc C v14 8 [(11, .int v14), (0, .ref (G.1 + 0)), (2, .int a2), (3, .int a3), (4, .int a4), (5, .int r1), (6, .int v11), (7, .long v12), (9, .long v13)] dX10_nearestSlice_122 rfl (hv14.trans (zinc (by decide))) (by decide) rfl ?_
          refine zr_goto C 25 dX10_nearestSlice_125 (by decide) ?_
          refine zr_sub [1, 2, 3, 4, 5, 6, 7, 8, 0] [(0, .ref (G.1 + 0)), (2, .int a2), (3, .int a3), (4, .int a4), (5, .int r1), (6, .int v11), (7, .long v12), (9, .long v13), (11, .int v14)] rfl ?_
          exact ih25 _ _ _ _ _ hJ
        refine zr_if_le C 122 dX10_nearestSlice_74 (by decide) (fun hc16 => ?_) (fun hc16 => ?_)
        · have hv11 := hv11.trans (if_pos hc16)
          have hv12 := hv12.trans (if_pos hc16)
          have hv13 := hv13.trans (if_pos hc16)
          refine zr_sub [1, 2, 3, 4, 5, 6, 7, 8, 9] [(0, .ref (G.1 + 0)), (2, .int a2), (3, .int a3), (4, .int a4), (5, .int r1), (6, .int w6_25), (7, .long w7_25), (9, .long w9_25), (11, .int w11_25)] rfl ?_
          rw [hv11, hv12, hv13] at hf15
          exact hf15
        · have hv11 := hv11.trans (if_neg hc16)
          have hv12 := hv12.trans (if_neg hc16)
          have hv13 := hv13.trans (if_neg hc16)
          refine zr_iload C 6 dX10_nearestSlice_77 rfl ?_
          refine zr_bipush C dX10_nearestSlice_79 (v := (-4 : Int32)) (by decide) ?_
          refine zr_icmp_eq C 104 dX10_nearestSlice_81 (by decide) (fun hc17 => ?_) (fun hc17 => ?_)
          · have hv11 := hv11.trans (if_pos hc17)
            have hv12 := hv12.trans (if_pos hc17)
            have hv13 := hv13.trans (if_pos hc17)
            refine zr_iload C 9 dX10_nearestSlice_104 rfl ?_
            refine zr_istore C [(6, .int w11_25), (12, .long v10), (0, .ref (G.1 + 0)), (2, .int a2), (3, .int a3), (4, .int a4), (5, .int r1), (7, .long w7_25), (9, .long w9_25), (11, .int w11_25)] dX10_nearestSlice_106 (by decide) rfl ?_
            refine zr_lload C 1 dX10_nearestSlice_108 rfl ?_
            refine zr_lstore C [(7, .long v10), (6, .int w11_25), (12, .long v10), (0, .ref (G.1 + 0)), (2, .int a2), (3, .int a3), (4, .int a4), (5, .int r1), (9, .long w9_25), (11, .int w11_25)] dX10_nearestSlice_110 (by decide) rfl ?_
            refine zr_aload_n C 3 dX10_nearestSlice_112 rfl ?_
            refine zg_10_6 C 0 zk_0 zm_2_13 dX10_nearestSlice_113 ?_
            refine zg_9_1 C 88 zk_88 zm_34_3 dX10_nearestSlice_116 ?_
            refine zr_i2l C dX10_nearestSlice_119 ?_
            refine zr_lstore C [(9, .long ((σ6.1 88 1).toInt64)), (7, .long v10), (6, .int w11_25), (12, .long v10), (0, .ref (G.1 + 0)), (2, .int a2), (3, .int a3), (4, .int a4), (5, .int r1), (11, .int w11_25)] dX10_nearestSlice_120 (by decide) rfl ?_
            refine zr_sub [4, 5, 6, 7, 8, 2, 1, 0, 9] [(0, .ref (G.1 + 0)), (2, .int a2), (3, .int a3), (4, .int a4), (5, .int r1), (6, .int w11_25), (7, .long v10), (9, .long ((σ6.1 88 1).toInt64)), (11, .int w11_25)] rfl ?_
            rw [hv11, hv12, hv13] at hf15
            exact hf15
          · have hv11 := hv11.trans (if_neg hc17)
            have hv12 := hv12.trans (if_neg hc17)
            have hv13 := hv13.trans (if_neg hc17)
            refine zr_lload C 0 dX10_nearestSlice_84 rfl ?_
            refine zr_lload C 8 dX10_nearestSlice_86 rfl ?_
            refine zr_lmul C dX10_nearestSlice_88 ?_
            refine zr_lload C 7 dX10_nearestSlice_89 rfl ?_
            refine zr_aload_n C 1 dX10_nearestSlice_91 rfl ?_
            refine zg_10_6 C 0 zk_0 zm_2_13 dX10_nearestSlice_92 ?_
            refine zg_9_1 C 88 zk_88 zm_34_3 dX10_nearestSlice_95 ?_
            refine zr_i2l C dX10_nearestSlice_98 ?_
            refine zr_lmul C dX10_nearestSlice_99 ?_
            refine zr_lcmp C dX10_nearestSlice_100 ?_
            refine zr_if_ge C 122 dX10_nearestSlice_101 (by decide) (fun hc18 => ?_) (fun hc18 => ?_)
            · have hv11 := hv11.trans (if_pos hc18)
              have hv12 := hv12.trans (if_pos hc18)
              have hv13 := hv13.trans (if_pos hc18)
              refine zr_sub [1, 2, 3, 4, 5, 6, 7, 8, 9] [(0, .ref (G.1 + 0)), (2, .int a2), (3, .int a3), (4, .int a4), (5, .int r1), (6, .int w6_25), (7, .long w7_25), (9, .long w9_25), (11, .int w11_25)] rfl ?_
              rw [hv11, hv12, hv13] at hf15
              exact hf15
            · have hv11 := hv11.trans (if_neg hc18)
              have hv12 := hv12.trans (if_neg hc18)
              have hv13 := hv13.trans (if_neg hc18)
              refine zr_iload C 9 dX10_nearestSlice_104 rfl ?_
              refine zr_istore C [(6, .int w11_25), (12, .long v10), (0, .ref (G.1 + 0)), (2, .int a2), (3, .int a3), (4, .int a4), (5, .int r1), (7, .long w7_25), (9, .long w9_25), (11, .int w11_25)] dX10_nearestSlice_106 (by decide) rfl ?_
              refine zr_lload C 1 dX10_nearestSlice_108 rfl ?_
              refine zr_lstore C [(7, .long v10), (6, .int w11_25), (12, .long v10), (0, .ref (G.1 + 0)), (2, .int a2), (3, .int a3), (4, .int a4), (5, .int r1), (9, .long w9_25), (11, .int w11_25)] dX10_nearestSlice_110 (by decide) rfl ?_
              refine zr_aload_n C 3 dX10_nearestSlice_112 rfl ?_
              refine zg_10_6 C 0 zk_0 zm_2_13 dX10_nearestSlice_113 ?_
              refine zg_9_1 C 88 zk_88 zm_34_3 dX10_nearestSlice_116 ?_
              refine zr_i2l C dX10_nearestSlice_119 ?_
              refine zr_lstore C [(9, .long ((σ6.1 88 1).toInt64)), (7, .long v10), (6, .int w11_25), (12, .long v10), (0, .ref (G.1 + 0)), (2, .int a2), (3, .int a3), (4, .int a4), (5, .int r1), (11, .int w11_25)] dX10_nearestSlice_120 (by decide) rfl ?_
              refine zr_sub [4, 5, 6, 7, 8, 2, 1, 0, 9] [(0, .ref (G.1 + 0)), (2, .int a2), (3, .int a3), (4, .int a4), (5, .int r1), (6, .int w11_25), (7, .long v10), (9, .long ((σ6.1 88 1).toInt64)), (11, .int w11_25)] rfl ?_
              rw [hv11, hv12, hv13] at hf15
              exact hf15
  refine zr_sub [5, 7, 8, 9, 4, 3, 2, 1, 0] [(0, .ref (G.1 + 0)), (2, .int a2), (3, .int a3), (4, .int a4), (5, .int r1), (6, .int (-4 : Int32)), (7, .long (0 : Int64)), (9, .long (1 : Int64)), (11, .int a1)] rfl ?_
  exact hl25 _ _ _ _ _ _ hJ
theorem dX10_finest_0 : decode cX10_finest 0 = .ok (.iload 4, 2) := by decide +kernel
theorem dX10_finest_2 : decode cX10_finest 2 = .ok (.iload_n 1, 1) := by decide +kernel
theorem dX10_finest_3 : decode cX10_finest 3 = .ok (.invokestatic 228, 3) := by decide +kernel
theorem dX10_finest_6 : decode cX10_finest 6 = .ok (.ifCond .eq 25, 3) := by decide +kernel
theorem dX10_finest_9 : decode cX10_finest 9 = .ok (.iload_n 2, 1) := by decide +kernel
theorem dX10_finest_10 : decode cX10_finest 10 = .ok (.invokestatic 240, 3) := by decide +kernel
theorem dX10_finest_13 : decode cX10_finest 13 = .ok (.ifCond .eq 18, 3) := by decide +kernel
theorem dX10_finest_16 : decode cX10_finest 16 = .ok (.iload_n 3, 1) := by decide +kernel
theorem dX10_finest_17 : decode cX10_finest 17 = .ok (.invokestatic 240, 3) := by decide +kernel
theorem dX10_finest_20 : decode cX10_finest 20 = .ok (.ifCond .eq 11, 3) := by decide +kernel
theorem dX10_finest_23 : decode cX10_finest 23 = .ok (.iload_n 2, 1) := by decide +kernel
theorem dX10_finest_24 : decode cX10_finest 24 = .ok (.iload_n 3, 1) := by decide +kernel
theorem dX10_finest_25 : decode cX10_finest 25 = .ok (.invokestatic 266, 3) := by decide +kernel
theorem dX10_finest_28 : decode cX10_finest 28 = .ok (.ifCond .ne 5, 3) := by decide +kernel
theorem dX10_finest_31 : decode cX10_finest 31 = .ok (.iconst (-1), 1) := by decide +kernel
theorem dX10_finest_32 : decode cX10_finest 32 = .ok (.ireturn, 1) := by decide +kernel
theorem dX10_finest_33 : decode cX10_finest 33 = .ok (.aload_n 0, 1) := by decide +kernel
theorem dX10_finest_34 : decode cX10_finest 34 = .ok (.getfield 45, 3) := by decide +kernel
theorem dX10_finest_37 : decode cX10_finest 37 = .ok (.iload_n 1, 1) := by decide +kernel
theorem dX10_finest_38 : decode cX10_finest 38 = .ok (.invokevirtual 234, 3) := by decide +kernel
theorem dX10_finest_41 : decode cX10_finest 41 = .ok (.istore 5, 2) := by decide +kernel
theorem dX10_finest_43 : decode cX10_finest 43 = .ok (.iload 5, 2) := by decide +kernel
theorem dX10_finest_45 : decode cX10_finest 45 = .ok (.iconst 1, 1) := by decide +kernel
theorem dX10_finest_46 : decode cX10_finest 46 = .ok (.if_icmp .ge 8, 3) := by decide +kernel
theorem dX10_finest_49 : decode cX10_finest 49 = .ok (.bipush (-4), 2) := by decide +kernel
theorem dX10_finest_51 : decode cX10_finest 51 = .ok (.goto 13, 3) := by decide +kernel
theorem dX10_finest_54 : decode cX10_finest 54 = .ok (.aload_n 0, 1) := by decide +kernel
theorem dX10_finest_55 : decode cX10_finest 55 = .ok (.iload_n 2, 1) := by decide +kernel
theorem dX10_finest_56 : decode cX10_finest 56 = .ok (.iload_n 3, 1) := by decide +kernel
theorem dX10_finest_57 : decode cX10_finest 57 = .ok (.iload 5, 2) := by decide +kernel
theorem dX10_finest_59 : decode cX10_finest 59 = .ok (.iload 4, 2) := by decide +kernel
theorem dX10_finest_61 : decode cX10_finest 61 = .ok (.invokevirtual 269, 3) := by decide +kernel
theorem dX10_finest_64 : decode cX10_finest 64 = .ok (.ireturn, 1) := by decide +kernel
set_option maxRecDepth 100000 in
set_option maxHeartbeats 4000000 in
theorem M_X10_finest (G : zG) (l : Launch) {a1 : Int32} {a2 : Int32} {a3 : Int32} {a4 : Int32} {σ : zS} {r : Int32} {σ' : zS} (hJ : J_X10_finest a1 a2 a3 a4 σ = some (r, σ')) : zMI G l yX10_finest cX10_finest 6 (some .int) (zrm 17 396) [.ref (G.1 + 0), .int a1, .int a2, .int a3, .int a4] 137 (zen G σ) r 137 (zen G σ') := by
  unfold J_X10_finest at hJ
  refine zentI (by decide +kernel) (Nat.le_of_ble_eq_true rfl) ?_
  intro p e s m args below meth c C hret
  refine zr_sub [0, 1, 2, 3, 4] [(0, .ref (G.1 + 0)), (1, .int a1), (2, .int a2), (3, .int a3), (4, .int a4)] rfl ?_
  refine zr_iload C 4 dX10_finest_0 rfl ?_
  refine zr_iload_n C 1 dX10_finest_2 rfl ?_
  obtain ⟨r1, hr1, hJ⟩ := zb_e hJ
  refine zr_callSI C (M_X10_isOneOf G l hr1) zin_X10_isOneOf zm_32_4 rfl rfl (Nat.le_of_ble_eq_true rfl) ⟨Nat.le_of_ble_eq_true rfl, Nat.le_of_ble_eq_true rfl⟩ ⟨Nat.le_of_ble_eq_true rfl, Nat.le_of_ble_eq_true rfl⟩ dX10_finest_3 ?_
  refine zr_if_eq C 31 dX10_finest_6 (by decide) (fun hc2 => ?_) (fun hc2 => ?_)
  · have hJ := zif hc2 hJ
    refine zr_iconst C dX10_finest_31 (v := (-1 : Int32)) (by decide) ?_
    exact zr_iret C hret (Prod.mk.inj (zs_e hJ)).1 rfl (congrArg (zen G) (Prod.mk.inj (zs_e hJ)).2) dX10_finest_32
  · have hJ := zif' hc2 hJ
    refine zr_iload_n C 2 dX10_finest_9 rfl ?_
    obtain ⟨r3, hr3, hJ⟩ := zb_e hJ
    refine zr_callSI C (M_X10_isSlice G l hr3) zin_X10_isSlice zm_34_4 rfl rfl (Nat.le_of_ble_eq_true rfl) ⟨Nat.le_of_ble_eq_true rfl, Nat.le_of_ble_eq_true rfl⟩ ⟨Nat.le_of_ble_eq_true rfl, Nat.le_of_ble_eq_true rfl⟩ dX10_finest_10 ?_
    refine zr_if_eq C 31 dX10_finest_13 (by decide) (fun hc4 => ?_) (fun hc4 => ?_)
    · have hJ := zif hc4 hJ
      refine zr_iconst C dX10_finest_31 (v := (-1 : Int32)) (by decide) ?_
      exact zr_iret C hret (Prod.mk.inj (zs_e hJ)).1 rfl (congrArg (zen G) (Prod.mk.inj (zs_e hJ)).2) dX10_finest_32
    · have hJ := zif' hc4 hJ
      refine zr_iload_n C 3 dX10_finest_16 rfl ?_
      obtain ⟨r5, hr5, hJ⟩ := zb_e hJ
      refine zr_callSI C (M_X10_isSlice G l hr5) zin_X10_isSlice zm_34_4 rfl rfl (Nat.le_of_ble_eq_true rfl) ⟨Nat.le_of_ble_eq_true rfl, Nat.le_of_ble_eq_true rfl⟩ ⟨Nat.le_of_ble_eq_true rfl, Nat.le_of_ble_eq_true rfl⟩ dX10_finest_17 ?_
      refine zr_if_eq C 31 dX10_finest_20 (by decide) (fun hc6 => ?_) (fun hc6 => ?_)
      · have hJ := zif hc6 hJ
        refine zr_iconst C dX10_finest_31 (v := (-1 : Int32)) (by decide) ?_
        exact zr_iret C hret (Prod.mk.inj (zs_e hJ)).1 rfl (congrArg (zen G) (Prod.mk.inj (zs_e hJ)).2) dX10_finest_32
      · have hJ := zif' hc6 hJ
        refine zr_iload_n C 2 dX10_finest_23 rfl ?_
        refine zr_iload_n C 3 dX10_finest_24 rfl ?_
        obtain ⟨r7, hr7, hJ⟩ := zb_e hJ
        refine zr_callSI C (M_X10_isRange G l hr7) zin_X10_isRange zm_36_21 rfl rfl (Nat.le_of_ble_eq_true rfl) ⟨Nat.le_of_ble_eq_true rfl, Nat.le_of_ble_eq_true rfl⟩ ⟨Nat.le_of_ble_eq_true rfl, Nat.le_of_ble_eq_true rfl⟩ dX10_finest_25 ?_
        refine zr_if_ne C 33 dX10_finest_28 (by decide) (fun hc8 => ?_) (fun hc8 => ?_)
        · have hJ := zif' hc8 hJ
          refine zr_aload_n C 0 dX10_finest_33 rfl ?_
          refine zg_10_5 C 0 zk_0 zm_2_9 dX10_finest_34 ?_
          refine zr_iload_n C 1 dX10_finest_37 rfl ?_
          obtain ⟨r9, σ10, hr9, hJ⟩ := zb2_e hJ
          refine zr_callVI C 82 (zk_lt zk_82 (by decide)) (zen_obj zk_82) (rfl : zcl[0]? = some (RX0, TX0, 7)) (M_X0_divide G l hr9) zin_X0_divide zm_32_18 rfl rfl (Nat.le_of_ble_eq_true rfl) ⟨Nat.le_of_ble_eq_true rfl, Nat.le_of_ble_eq_true rfl⟩ ⟨Nat.le_of_ble_eq_true rfl, Nat.le_of_ble_eq_true rfl⟩ dX10_finest_38 ?_
          refine zr_istore C [(5, .int r9), (0, .ref (G.1 + 0)), (1, .int a1), (2, .int a2), (3, .int a3), (4, .int a4)] dX10_finest_41 (by decide) rfl ?_
          refine zr_iload C 0 dX10_finest_43 rfl ?_
          refine zr_iconst C dX10_finest_45 (v := (1 : Int32)) (by decide) ?_
          refine zr_icmp_ge C 54 dX10_finest_46 (by decide) (fun hc11 => ?_) (fun hc11 => ?_)
          · have hJ := zif hc11 hJ
            refine zr_aload_n C 1 dX10_finest_54 rfl ?_
            refine zr_iload_n C 3 dX10_finest_55 rfl ?_
            refine zr_iload_n C 4 dX10_finest_56 rfl ?_
            refine zr_iload C 0 dX10_finest_57 rfl ?_
            refine zr_iload C 5 dX10_finest_59 rfl ?_
            obtain ⟨r12, σ13, hr12, hJ⟩ := zb2_e hJ
            refine zr_callVI C 0 (zk_lt zk_0 (by decide)) (zen_obj zk_0) (rfl : zcl[10]? = some (RX10, TX10, 12)) (M_X10_nearestSlice G l hr12) zin_X10_nearestSlice zm_37_0 rfl rfl (Nat.le_of_ble_eq_true rfl) ⟨Nat.le_of_ble_eq_true rfl, Nat.le_of_ble_eq_true rfl⟩ ⟨Nat.le_of_ble_eq_true rfl, Nat.le_of_ble_eq_true rfl⟩ dX10_finest_61 ?_
            exact zr_iret C hret (Prod.mk.inj (zs_e hJ)).1 rfl (congrArg (zen G) (Prod.mk.inj (zs_e hJ)).2) dX10_finest_64
          · have hJ := zif' hc11 hJ
            refine zr_bipush C dX10_finest_49 (v := (-4 : Int32)) (by decide) ?_
            refine zr_goto C 64 dX10_finest_51 (by decide) ?_
            exact zr_iret C hret (Prod.mk.inj (zs_e hJ)).1 rfl (congrArg (zen G) (Prod.mk.inj (zs_e hJ)).2) dX10_finest_64
        · have hJ := zif hc8 hJ
          refine zr_iconst C dX10_finest_31 (v := (-1 : Int32)) (by decide) ?_
          exact zr_iret C hret (Prod.mk.inj (zs_e hJ)).1 rfl (congrArg (zen G) (Prod.mk.inj (zs_e hJ)).2) dX10_finest_32
theorem dX10_forget_0 : decode cX10_forget 0 = .ok (.aload_n 0, 1) := by decide +kernel
theorem dX10_forget_1 : decode cX10_forget 1 = .ok (.getfield 73, 3) := by decide +kernel
theorem dX10_forget_4 : decode cX10_forget 4 = .ok (.getfield 112, 3) := by decide +kernel
theorem dX10_forget_7 : decode cX10_forget 7 = .ok (.istore_n 1, 1) := by decide +kernel
theorem dX10_forget_8 : decode cX10_forget 8 = .ok (.aload_n 0, 1) := by decide +kernel
theorem dX10_forget_9 : decode cX10_forget 9 = .ok (.getfield 73, 3) := by decide +kernel
theorem dX10_forget_12 : decode cX10_forget 12 = .ok (.iconst 0, 1) := by decide +kernel
theorem dX10_forget_13 : decode cX10_forget 13 = .ok (.putfield 112, 3) := by decide +kernel
theorem dX10_forget_16 : decode cX10_forget 16 = .ok (.iload_n 1, 1) := by decide +kernel
theorem dX10_forget_17 : decode cX10_forget 17 = .ok (.ireturn, 1) := by decide +kernel
set_option maxRecDepth 100000 in
set_option maxHeartbeats 4000000 in
theorem M_X10_forget (G : zG) (l : Launch) {σ : zS} {r : Int32} {σ' : zS} (hJ : J_X10_forget σ = some (r, σ')) : zMI G l yX10_forget cX10_forget 2 (some .int) (zrm 0 0) [.ref (G.1 + 0)] 137 (zen G σ) r 137 (zen G σ') := by
  unfold J_X10_forget at hJ
  refine zentI (by decide +kernel) (Nat.le_of_ble_eq_true rfl) ?_
  intro p e s m args below meth c C hret
  refine zr_sub [0] [(0, .ref (G.1 + 0))] rfl ?_
  refine zr_aload_n C 0 dX10_forget_0 rfl ?_
  refine zg_10_9 C 0 zk_0 zm_3_1 dX10_forget_1 ?_
  refine zg_5_0 C 92 zk_92 zm_10_7 dX10_forget_4 ?_
  obtain ⟨v1, hv1, hJ⟩ := zlet_e hJ
  refine zr_topi hv1 ?_
  refine zr_istore_n C [(1, .int v1), (0, .ref (G.1 + 0))] dX10_forget_7 (by decide) rfl ?_
  refine zr_aload_n C 1 dX10_forget_8 rfl ?_
  refine zg_10_9 C 0 zk_0 zm_3_1 dX10_forget_9 ?_
  refine zr_iconst C dX10_forget_12 (v := (0 : Int32)) (by decide) ?_
  obtain ⟨σ2, hσ2, hJ⟩ := zlet_e hJ
  refine zp_5_0 C 92 zk_92 zm_10_7 hσ2 dX10_forget_13 ?_
  refine zr_iload_n C 0 dX10_forget_16 rfl ?_
  exact zr_iret C hret (Prod.mk.inj (zs_e hJ)).1 rfl (congrArg (zen G) (Prod.mk.inj (zs_e hJ)).2) dX10_forget_17
theorem dX10_goes_0 : decode cX10_goes 0 = .ok (.iload_n 2, 1) := by decide +kernel
theorem dX10_goes_1 : decode cX10_goes 1 = .ok (.iload_n 1, 1) := by decide +kernel
theorem dX10_goes_2 : decode cX10_goes 2 = .ok (.invokestatic 228, 3) := by decide +kernel
theorem dX10_goes_5 : decode cX10_goes 5 = .ok (.ifCond .eq 15, 3) := by decide +kernel
theorem dX10_goes_8 : decode cX10_goes 8 = .ok (.aload_n 0, 1) := by decide +kernel
theorem dX10_goes_9 : decode cX10_goes 9 = .ok (.getfield 45, 3) := by decide +kernel
theorem dX10_goes_12 : decode cX10_goes 12 = .ok (.iload_n 1, 1) := by decide +kernel
theorem dX10_goes_13 : decode cX10_goes 13 = .ok (.iload_n 2, 1) := by decide +kernel
theorem dX10_goes_14 : decode cX10_goes 14 = .ok (.invokevirtual 231, 3) := by decide +kernel
theorem dX10_goes_17 : decode cX10_goes 17 = .ok (.goto 4, 3) := by decide +kernel
theorem dX10_goes_20 : decode cX10_goes 20 = .ok (.iconst (-1), 1) := by decide +kernel
theorem dX10_goes_21 : decode cX10_goes 21 = .ok (.ireturn, 1) := by decide +kernel
set_option maxRecDepth 100000 in
set_option maxHeartbeats 4000000 in
theorem M_X10_goes (G : zG) (l : Launch) {a1 : Int32} {a2 : Int32} {σ : zS} {r : Int32} (hJ : J_X10_goes a1 a2 σ = some r) : zMI G l yX10_goes cX10_goes 3 (some .int) (zrm 17 402) [.ref (G.1 + 0), .int a1, .int a2] 137 (zen G σ) r 137 (zen G σ) := by
  unfold J_X10_goes at hJ
  refine zentI (by decide +kernel) (Nat.le_of_ble_eq_true rfl) ?_
  intro p e s m args below meth c C hret
  refine zr_sub [0, 1, 2] [(0, .ref (G.1 + 0)), (1, .int a1), (2, .int a2)] rfl ?_
  refine zr_iload_n C 2 dX10_goes_0 rfl ?_
  refine zr_iload_n C 1 dX10_goes_1 rfl ?_
  obtain ⟨r1, hr1, hJ⟩ := zb_e hJ
  refine zr_callSI C (M_X10_isOneOf G l hr1) zin_X10_isOneOf zm_32_4 rfl rfl (Nat.le_of_ble_eq_true rfl) ⟨Nat.le_of_ble_eq_true rfl, Nat.le_of_ble_eq_true rfl⟩ ⟨Nat.le_of_ble_eq_true rfl, Nat.le_of_ble_eq_true rfl⟩ dX10_goes_2 ?_
  refine zr_if_eq C 20 dX10_goes_5 (by decide) (fun hc2 => ?_) (fun hc2 => ?_)
  · have hJ := zif hc2 hJ
    refine zr_iconst C dX10_goes_20 (v := (-1 : Int32)) (by decide) ?_
    exact zr_iret C hret (zs_e hJ) rfl rfl dX10_goes_21
  · have hJ := zif' hc2 hJ
    refine zr_aload_n C 0 dX10_goes_8 rfl ?_
    refine zg_10_5 C 0 zk_0 zm_2_9 dX10_goes_9 ?_
    refine zr_iload_n C 1 dX10_goes_12 rfl ?_
    refine zr_iload_n C 2 dX10_goes_13 rfl ?_
    obtain ⟨r3, hr3, hJ⟩ := zb_e hJ
    refine zr_callVI C 82 (zk_lt zk_82 (by decide)) (zen_obj zk_82) (rfl : zcl[0]? = some (RX0, TX0, 7)) (M_X0_counterFor G l hr3) zin_X0_counterFor zm_32_5 rfl rfl (Nat.le_of_ble_eq_true rfl) ⟨Nat.le_of_ble_eq_true rfl, Nat.le_of_ble_eq_true rfl⟩ ⟨Nat.le_of_ble_eq_true rfl, Nat.le_of_ble_eq_true rfl⟩ dX10_goes_14 ?_
    refine zr_goto C 21 dX10_goes_17 (by decide) ?_
    exact zr_iret C hret (zs_e hJ) rfl rfl dX10_goes_21
theorem dX10_leastLines_0 : decode cX10_leastLines 0 = .ok (.iconst 0, 1) := by decide +kernel
theorem dX10_leastLines_1 : decode cX10_leastLines 1 = .ok (.istore 4, 2) := by decide +kernel
theorem dX10_leastLines_3 : decode cX10_leastLines 3 = .ok (.iconst 0, 1) := by decide +kernel
theorem dX10_leastLines_4 : decode cX10_leastLines 4 = .ok (.istore 5, 2) := by decide +kernel
theorem dX10_leastLines_6 : decode cX10_leastLines 6 = .ok (.iload_n 3, 1) := by decide +kernel
theorem dX10_leastLines_7 : decode cX10_leastLines 7 = .ok (.istore 6, 2) := by decide +kernel
theorem dX10_leastLines_9 : decode cX10_leastLines 9 = .ok (.aload_n 0, 1) := by decide +kernel
theorem dX10_leastLines_10 : decode cX10_leastLines 10 = .ok (.getfield 19, 3) := by decide +kernel
theorem dX10_leastLines_13 : decode cX10_leastLines 13 = .ok (.getfield 113, 3) := by decide +kernel
theorem dX10_leastLines_16 : decode cX10_leastLines 16 = .ok (.iconst 1, 1) := by decide +kernel
theorem dX10_leastLines_17 : decode cX10_leastLines 17 = .ok (.isub, 1) := by decide +kernel
theorem dX10_leastLines_18 : decode cX10_leastLines 18 = .ok (.istore 7, 2) := by decide +kernel
theorem dX10_leastLines_20 : decode cX10_leastLines 20 = .ok (.iload 7, 2) := by decide +kernel
theorem dX10_leastLines_22 : decode cX10_leastLines 22 = .ok (.ifCond .lt 60, 3) := by decide +kernel
theorem dX10_leastLines_25 : decode cX10_leastLines 25 = .ok (.iload 6, 2) := by decide +kernel
theorem dX10_leastLines_27 : decode cX10_leastLines 27 = .ok (.ifCond .le 55, 3) := by decide +kernel
theorem dX10_leastLines_30 : decode cX10_leastLines 30 = .ok (.iload 5, 2) := by decide +kernel
theorem dX10_leastLines_32 : decode cX10_leastLines 32 = .ok (.aload_n 0, 1) := by decide +kernel
theorem dX10_leastLines_33 : decode cX10_leastLines 33 = .ok (.getfield 19, 3) := by decide +kernel
theorem dX10_leastLines_36 : decode cX10_leastLines 36 = .ok (.iload_n 1, 1) := by decide +kernel
theorem dX10_leastLines_37 : decode cX10_leastLines 37 = .ok (.iload 7, 2) := by decide +kernel
theorem dX10_leastLines_39 : decode cX10_leastLines 39 = .ok (.iload 6, 2) := by decide +kernel
theorem dX10_leastLines_41 : decode cX10_leastLines 41 = .ok (.invokevirtual 189, 3) := by decide +kernel
theorem dX10_leastLines_44 : decode cX10_leastLines 44 = .ok (.iadd, 1) := by decide +kernel
theorem dX10_leastLines_45 : decode cX10_leastLines 45 = .ok (.iload_n 2, 1) := by decide +kernel
theorem dX10_leastLines_46 : decode cX10_leastLines 46 = .ok (.if_icmp .ge 30, 3) := by decide +kernel
theorem dX10_leastLines_49 : decode cX10_leastLines 49 = .ok (.iload 4, 2) := by decide +kernel
theorem dX10_leastLines_51 : decode cX10_leastLines 51 = .ok (.iconst 1, 1) := by decide +kernel
theorem dX10_leastLines_52 : decode cX10_leastLines 52 = .ok (.iload 7, 2) := by decide +kernel
theorem dX10_leastLines_54 : decode cX10_leastLines 54 = .ok (.ishl, 1) := by decide +kernel
theorem dX10_leastLines_55 : decode cX10_leastLines 55 = .ok (.ior, 1) := by decide +kernel
theorem dX10_leastLines_56 : decode cX10_leastLines 56 = .ok (.istore 4, 2) := by decide +kernel
theorem dX10_leastLines_58 : decode cX10_leastLines 58 = .ok (.iload 5, 2) := by decide +kernel
theorem dX10_leastLines_60 : decode cX10_leastLines 60 = .ok (.aload_n 0, 1) := by decide +kernel
theorem dX10_leastLines_61 : decode cX10_leastLines 61 = .ok (.getfield 19, 3) := by decide +kernel
theorem dX10_leastLines_64 : decode cX10_leastLines 64 = .ok (.iload 7, 2) := by decide +kernel
theorem dX10_leastLines_66 : decode cX10_leastLines 66 = .ok (.iload_n 1, 1) := by decide +kernel
theorem dX10_leastLines_67 : decode cX10_leastLines 67 = .ok (.invokevirtual 192, 3) := by decide +kernel
theorem dX10_leastLines_70 : decode cX10_leastLines 70 = .ok (.iadd, 1) := by decide +kernel
theorem dX10_leastLines_71 : decode cX10_leastLines 71 = .ok (.istore 5, 2) := by decide +kernel
theorem dX10_leastLines_73 : decode cX10_leastLines 73 = .ok (.iinc 6 (-1), 3) := by decide +kernel
theorem dX10_leastLines_76 : decode cX10_leastLines 76 = .ok (.iinc 7 (-1), 3) := by decide +kernel
theorem dX10_leastLines_79 : decode cX10_leastLines 79 = .ok (.goto (-59), 3) := by decide +kernel
theorem dX10_leastLines_82 : decode cX10_leastLines 82 = .ok (.iload 4, 2) := by decide +kernel
theorem dX10_leastLines_84 : decode cX10_leastLines 84 = .ok (.ireturn, 1) := by decide +kernel
set_option maxRecDepth 100000 in
set_option maxHeartbeats 4000000 in
theorem M_X10_leastLines (G : zG) (l : Launch) {a1 : Int32} {a2 : Int32} {a3 : Int32} {σ : zS} {r : Int32} (hJ : J_X10_leastLines a1 a2 a3 σ = some r) : zMI G l yX10_leastLines cX10_leastLines 8 (some .int) (zrm 3 74) [.ref (G.1 + 0), .int a1, .int a2, .int a3] 137 (zen G σ) r 137 (zen G σ) := by
  unfold J_X10_leastLines at hJ
  refine zentI (by decide +kernel) (Nat.le_of_ble_eq_true rfl) ?_
  intro p e s m args below meth c C hret
  refine zr_sub [0, 1, 2, 3] [(0, .ref (G.1 + 0)), (1, .int a1), (2, .int a2), (3, .int a3)] rfl ?_
  refine zr_iconst C dX10_leastLines_0 (v := (0 : Int32)) (by decide) ?_
  refine zr_istore C [(4, .int (0 : Int32)), (0, .ref (G.1 + 0)), (1, .int a1), (2, .int a2), (3, .int a3)] dX10_leastLines_1 (by decide) rfl ?_
  refine zr_iconst C dX10_leastLines_3 (v := (0 : Int32)) (by decide) ?_
  refine zr_istore C [(5, .int (0 : Int32)), (4, .int (0 : Int32)), (0, .ref (G.1 + 0)), (1, .int a1), (2, .int a2), (3, .int a3)] dX10_leastLines_4 (by decide) rfl ?_
  refine zr_iload_n C 5 dX10_leastLines_6 rfl ?_
  refine zr_istore C [(6, .int a3), (5, .int (0 : Int32)), (4, .int (0 : Int32)), (0, .ref (G.1 + 0)), (1, .int a1), (2, .int a2), (3, .int a3)] dX10_leastLines_7 (by decide) rfl ?_
  refine zr_aload_n C 3 dX10_leastLines_9 rfl ?_
  obtain ⟨p1, hp1, hJ⟩ := zlet_e hJ
  obtain ⟨hp2, hJ⟩ := zg_e hJ
  refine zg_10_1 C 0 zk_0 zm_1_20 dX10_leastLines_10 ?_
  refine zr_topr hp1 ?_
  refine zg_3_0 C p1 (zkP_0 hp2) zm_10_8 dX10_leastLines_13 ?_
  refine zr_iconst C dX10_leastLines_16 (v := (1 : Int32)) (by decide) ?_
  refine zr_isub C dX10_leastLines_17 ?_
  obtain ⟨v3, hv3, hJ⟩ := zlet_e hJ
  refine zr_topi hv3 ?_
  refine zr_istore C [(7, .int v3), (6, .int a3), (5, .int (0 : Int32)), (4, .int (0 : Int32)), (0, .ref (G.1 + 0)), (1, .int a1), (2, .int a2), (3, .int a3)] dX10_leastLines_18 (by decide) rfl ?_
  have hl20 : ∀ (n : Nat) (w4_20 : Int32) (w5_20 : Int32) (w6_20 : Int32) (w7_20 : Int32), L_X10_leastLines_20 a1 a2 σ n w4_20 w5_20 w6_20 w7_20 = some r → zU G 8 p l e (zrm 3 74) s m args below meth c (MQ below (va_Qi (fun x (_ : Unit) => x = r) (fun _ t => zok G 137 (zen G σ) t) (zA G)) args s 0 0 (zA G)) σ 20 [(0, .ref (G.1 + 0)), (1, .int a1), (2, .int a2), (4, .int w4_20), (5, .int w5_20), (6, .int w6_20), (7, .int w7_20)] [] := by
    intro n
    induction n with
    | zero =>
      intro w4_20 w5_20 w6_20 w7_20 hJ
      rw [L_X10_leastLines_20] at hJ
      cases hJ
    | succ n ih =>
      intro w4_20 w5_20 w6_20 w7_20 hJ
      rw [L_X10_leastLines_20] at hJ
      obtain ⟨r_20, hr_20, hJ⟩ := zlet_e hJ
      have ih20 : ∀ (w4_20 : Int32) (w5_20 : Int32) (w6_20 : Int32) (w7_20 : Int32), r_20 w4_20 w5_20 w6_20 w7_20 = some r → zU G 8 p l e (zrm 3 74) s m args below meth c (MQ below (va_Qi (fun x (_ : Unit) => x = r) (fun _ t => zok G 137 (zen G σ) t) (zA G)) args s 0 0 (zA G)) σ 20 [(0, .ref (G.1 + 0)), (1, .int a1), (2, .int a2), (4, .int w4_20), (5, .int w5_20), (6, .int w6_20), (7, .int w7_20)] [] := by
        rw [hr_20]
        exact ih
      refine zr_iload C 6 dX10_leastLines_20 rfl ?_
      refine zr_if_lt C 82 dX10_leastLines_22 (by decide) (fun hc4 => ?_) (fun hc4 => ?_)
      · have hJ := zif hc4 hJ
        refine zr_iload C 3 dX10_leastLines_82 rfl ?_
        exact zr_iret C hret (zs_e hJ) rfl rfl dX10_leastLines_84
      · have hJ := zif' hc4 hJ
        refine zr_iload C 5 dX10_leastLines_25 rfl ?_
        refine zr_if_le C 82 dX10_leastLines_27 (by decide) (fun hc5 => ?_) (fun hc5 => ?_)
        · have hJ := zif hc5 hJ
          refine zr_iload C 3 dX10_leastLines_82 rfl ?_
          exact zr_iret C hret (zs_e hJ) rfl rfl dX10_leastLines_84
        · have hJ := zif' hc5 hJ
          refine zr_iload C 4 dX10_leastLines_30 rfl ?_
          refine zr_aload_n C 0 dX10_leastLines_32 rfl ?_
          obtain ⟨p6, hp6, hJ⟩ := zlet_e hJ
          obtain ⟨hp7, hJ⟩ := zg_e hJ
          refine zg_10_1 C 0 zk_0 zm_1_20 dX10_leastLines_33 ?_
          refine zr_topr hp6 ?_
          refine zr_iload_n C 1 dX10_leastLines_36 rfl ?_
          refine zr_iload C 6 dX10_leastLines_37 rfl ?_
          refine zr_iload C 5 dX10_leastLines_39 rfl ?_
          obtain ⟨r8, hr8, hJ⟩ := zb_e hJ
          refine zr_callVI C p6 (zk_lt (zkP_0 hp7) (by decide)) (zen_obj (zkP_0 hp7)) (rfl : zcl[3]? = some (RX3, TX3, 19)) (M_X3_mostOf G l hp7 hr8) zin_X3_mostOf zm_26_10 rfl rfl (Nat.le_of_ble_eq_true rfl) ⟨Nat.le_of_ble_eq_true rfl, Nat.le_of_ble_eq_true rfl⟩ ⟨Nat.le_of_ble_eq_true rfl, Nat.le_of_ble_eq_true rfl⟩ dX10_leastLines_41 ?_
          refine zr_iadd C dX10_leastLines_44 ?_
          refine zr_iload_n C 2 dX10_leastLines_45 rfl ?_
          refine zr_icmp_ge C 76 dX10_leastLines_46 (by decide) (fun hc9 => ?_) (fun hc9 => ?_)
          · have hJ := zif hc9 hJ
            obtain ⟨v10, hv10, hJ⟩ := zlet_e hJ
            refine zr_iinc C v10 6 [(7, .int v10), (0, .ref (G.1 + 0)), (1, .int a1), (2, .int a2), (4, .int w4_20), (5, .int w5_20), (6, .int w6_20)] dX10_leastLines_76 rfl (hv10.trans (zinc (by decide))) (by decide) rfl ?_
            refine zr_goto C 20 dX10_leastLines_79 (by decide) ?_
            refine zr_sub [1, 2, 3, 4, 5, 6, 0] [(0, .ref (G.1 + 0)), (1, .int a1), (2, .int a2), (4, .int w4_20), (5, .int w5_20), (6, .int w6_20), (7, .int v10)] rfl ?_
            exact ih20 _ _ _ _ hJ
          · have hJ := zif' hc9 hJ
            refine zr_iload C 3 dX10_leastLines_49 rfl ?_
            refine zr_iconst C dX10_leastLines_51 (v := (1 : Int32)) (by decide) ?_
            refine zr_iload C 6 dX10_leastLines_52 rfl ?_
            refine zr_ishl C dX10_leastLines_54 ?_
            refine zr_ior C dX10_leastLines_55 ?_
            obtain ⟨v11, hv11, hJ⟩ := zlet_e hJ
            refine zr_topi hv11 ?_
            refine zr_istore C [(4, .int v11), (0, .ref (G.1 + 0)), (1, .int a1), (2, .int a2), (5, .int w5_20), (6, .int w6_20), (7, .int w7_20)] dX10_leastLines_56 (by decide) rfl ?_
            refine zr_iload C 4 dX10_leastLines_58 rfl ?_
            refine zr_aload_n C 1 dX10_leastLines_60 rfl ?_
            obtain ⟨p12, hp12, hJ⟩ := zlet_e hJ
            obtain ⟨hp13, hJ⟩ := zg_e hJ
            refine zg_10_1 C 0 zk_0 zm_1_20 dX10_leastLines_61 ?_
            refine zr_topr hp12 ?_
            refine zr_iload C 6 dX10_leastLines_64 rfl ?_
            refine zr_iload_n C 2 dX10_leastLines_66 rfl ?_
            obtain ⟨r14, hr14, hJ⟩ := zb_e hJ
            refine zr_callVI C p12 (zk_lt (zkP_0 hp13) (by decide)) (zen_obj (zkP_0 hp13)) (rfl : zcl[3]? = some (RX3, TX3, 19)) (M_X3_made G l hp13 hr14) zin_X3_made zm_27_2 rfl rfl (Nat.le_of_ble_eq_true rfl) ⟨Nat.le_of_ble_eq_true rfl, Nat.le_of_ble_eq_true rfl⟩ ⟨Nat.le_of_ble_eq_true rfl, Nat.le_of_ble_eq_true rfl⟩ dX10_leastLines_67 ?_
            refine zr_iadd C dX10_leastLines_70 ?_
            obtain ⟨v15, hv15, hJ⟩ := zlet_e hJ
            refine zr_topi hv15 ?_
            refine zr_istore C [(5, .int v15), (4, .int v11), (0, .ref (G.1 + 0)), (1, .int a1), (2, .int a2), (6, .int w6_20), (7, .int w7_20)] dX10_leastLines_71 (by decide) rfl ?_
            obtain ⟨v16, hv16, hJ⟩ := zlet_e hJ
            refine zr_iinc C v16 5 [(6, .int v16), (5, .int v15), (4, .int v11), (0, .ref (G.1 + 0)), (1, .int a1), (2, .int a2), (7, .int w7_20)] dX10_leastLines_73 rfl (hv16.trans (zinc (by decide))) (by decide) rfl ?_
            obtain ⟨v17, hv17, hJ⟩ := zlet_e hJ
            refine zr_iinc C v17 6 [(7, .int v17), (6, .int v16), (5, .int v15), (4, .int v11), (0, .ref (G.1 + 0)), (1, .int a1), (2, .int a2)] dX10_leastLines_76 rfl (hv17.trans (zinc (by decide))) (by decide) rfl ?_
            refine zr_goto C 20 dX10_leastLines_79 (by decide) ?_
            refine zr_sub [4, 5, 6, 3, 2, 1, 0] [(0, .ref (G.1 + 0)), (1, .int a1), (2, .int a2), (4, .int v11), (5, .int v15), (6, .int v16), (7, .int v17)] rfl ?_
            exact ih20 _ _ _ _ hJ
  refine zr_sub [4, 5, 6, 3, 2, 1, 0] [(0, .ref (G.1 + 0)), (1, .int a1), (2, .int a2), (4, .int (0 : Int32)), (5, .int (0 : Int32)), (6, .int a3), (7, .int v3)] rfl ?_
  exact hl20 _ _ _ _ _ hJ
