theorem dX10_hot_0 : decode cX10_hot 0 = .ok (.iload_n 1, 1) := by decide +kernel
theorem dX10_hot_1 : decode cX10_hot 1 = .ok (.invokestatic 120, 3) := by decide +kernel
theorem dX10_hot_4 : decode cX10_hot 4 = .ok (.ifCond .eq 21, 3) := by decide +kernel
theorem dX10_hot_7 : decode cX10_hot 7 = .ok (.iload_n 2, 1) := by decide +kernel
theorem dX10_hot_8 : decode cX10_hot 8 = .ok (.iconst 1, 1) := by decide +kernel
theorem dX10_hot_9 : decode cX10_hot 9 = .ok (.if_icmp .lt 16, 3) := by decide +kernel
theorem dX10_hot_12 : decode cX10_hot 12 = .ok (.iload_n 2, 1) := by decide +kernel
theorem dX10_hot_13 : decode cX10_hot 13 = .ok (.bipush 100, 2) := by decide +kernel
theorem dX10_hot_15 : decode cX10_hot 15 = .ok (.if_icmp .gt 10, 3) := by decide +kernel
theorem dX10_hot_18 : decode cX10_hot 18 = .ok (.iload_n 3, 1) := by decide +kernel
theorem dX10_hot_19 : decode cX10_hot 19 = .ok (.invokestatic 152, 3) := by decide +kernel
theorem dX10_hot_22 : decode cX10_hot 22 = .ok (.ifCond .ne 5, 3) := by decide +kernel
theorem dX10_hot_25 : decode cX10_hot 25 = .ok (.iconst (-1), 1) := by decide +kernel
theorem dX10_hot_26 : decode cX10_hot 26 = .ok (.ireturn, 1) := by decide +kernel
theorem dX10_hot_27 : decode cX10_hot 27 = .ok (.aload_n 0, 1) := by decide +kernel
theorem dX10_hot_28 : decode cX10_hot 28 = .ok (.getfield 19, 3) := by decide +kernel
theorem dX10_hot_31 : decode cX10_hot 31 = .ok (.iload_n 1, 1) := by decide +kernel
theorem dX10_hot_32 : decode cX10_hot 32 = .ok (.invokevirtual 148, 3) := by decide +kernel
theorem dX10_hot_35 : decode cX10_hot 35 = .ok (.istore 4, 2) := by decide +kernel
theorem dX10_hot_37 : decode cX10_hot 37 = .ok (.iload 4, 2) := by decide +kernel
theorem dX10_hot_39 : decode cX10_hot 39 = .ok (.iconst 1, 1) := by decide +kernel
theorem dX10_hot_40 : decode cX10_hot 40 = .ok (.if_icmp .ge 6, 3) := by decide +kernel
theorem dX10_hot_43 : decode cX10_hot 43 = .ok (.bipush (-4), 2) := by decide +kernel
theorem dX10_hot_45 : decode cX10_hot 45 = .ok (.ireturn, 1) := by decide +kernel
theorem dX10_hot_46 : decode cX10_hot 46 = .ok (.iload_n 2, 1) := by decide +kernel
theorem dX10_hot_47 : decode cX10_hot 47 = .ok (.iload 4, 2) := by decide +kernel
theorem dX10_hot_49 : decode cX10_hot 49 = .ok (.imul, 1) := by decide +kernel
theorem dX10_hot_50 : decode cX10_hot 50 = .ok (.bipush 99, 2) := by decide +kernel
theorem dX10_hot_52 : decode cX10_hot 52 = .ok (.iadd, 1) := by decide +kernel
theorem dX10_hot_53 : decode cX10_hot 53 = .ok (.bipush 100, 2) := by decide +kernel
theorem dX10_hot_55 : decode cX10_hot 55 = .ok (.idiv, 1) := by decide +kernel
theorem dX10_hot_56 : decode cX10_hot 56 = .ok (.istore 5, 2) := by decide +kernel
theorem dX10_hot_58 : decode cX10_hot 58 = .ok (.aload_n 0, 1) := by decide +kernel
theorem dX10_hot_59 : decode cX10_hot 59 = .ok (.iload_n 1, 1) := by decide +kernel
theorem dX10_hot_60 : decode cX10_hot 60 = .ok (.iload 5, 2) := by decide +kernel
theorem dX10_hot_62 : decode cX10_hot 62 = .ok (.invokevirtual 182, 3) := by decide +kernel
theorem dX10_hot_65 : decode cX10_hot 65 = .ok (.istore 6, 2) := by decide +kernel
theorem dX10_hot_67 : decode cX10_hot 67 = .ok (.iload_n 3, 1) := by decide +kernel
theorem dX10_hot_68 : decode cX10_hot 68 = .ok (.ifCond .ne 8, 3) := by decide +kernel
theorem dX10_hot_71 : decode cX10_hot 71 = .ok (.iload 6, 2) := by decide +kernel
theorem dX10_hot_73 : decode cX10_hot 73 = .ok (.goto 12, 3) := by decide +kernel
theorem dX10_hot_76 : decode cX10_hot 76 = .ok (.aload_n 0, 1) := by decide +kernel
theorem dX10_hot_77 : decode cX10_hot 77 = .ok (.iload_n 1, 1) := by decide +kernel
theorem dX10_hot_78 : decode cX10_hot 78 = .ok (.iload 5, 2) := by decide +kernel
theorem dX10_hot_80 : decode cX10_hot 80 = .ok (.iload 6, 2) := by decide +kernel
theorem dX10_hot_82 : decode cX10_hot 82 = .ok (.invokevirtual 185, 3) := by decide +kernel
theorem dX10_hot_85 : decode cX10_hot 85 = .ok (.ireturn, 1) := by decide +kernel
set_option maxRecDepth 100000 in
set_option maxHeartbeats 4000000 in
theorem M_X10_hot (G : zG) (l : Launch) {a1 : Int32} {a2 : Int32} {a3 : Int32} {σ : zS} {r : Int32} (hJ : J_X10_hot a1 a2 a3 σ = some r) : zMI G l yX10_hot cX10_hot 7 (some .int) (zrm 4 101) [.ref (G.1 + 0), .int a1, .int a2, .int a3] 137 (zen G σ) r 137 (zen G σ) := by
  unfold J_X10_hot at hJ
  refine zentI (by decide +kernel) (Nat.le_of_ble_eq_true rfl) ?_
  intro p e s m args below meth c C hret
  refine zr_sub [0, 1, 2, 3] [(0, .ref (G.1 + 0)), (1, .int a1), (2, .int a2), (3, .int a3)] rfl ?_
  refine zr_iload_n C 1 dX10_hot_0 rfl ?_
  obtain ⟨r1, hr1, hJ⟩ := zb_e hJ
  refine zr_callSI C (M_X10_isEvent G l hr1) zin_X10_isEvent zm_14_23 rfl rfl (Nat.le_of_ble_eq_true rfl) ⟨Nat.le_of_ble_eq_true rfl, Nat.le_of_ble_eq_true rfl⟩ ⟨Nat.le_of_ble_eq_true rfl, Nat.le_of_ble_eq_true rfl⟩ dX10_hot_1 ?_
  refine zr_if_eq C 25 dX10_hot_4 (by decide) (fun hc2 => ?_) (fun hc2 => ?_)
  · have hJ := zif hc2 hJ
    refine zr_iconst C dX10_hot_25 (v := (-1 : Int32)) (by decide) ?_
    exact zr_iret C hret (zs_e hJ) rfl rfl dX10_hot_26
  · have hJ := zif' hc2 hJ
    refine zr_iload_n C 2 dX10_hot_7 rfl ?_
    refine zr_iconst C dX10_hot_8 (v := (1 : Int32)) (by decide) ?_
    refine zr_icmp_lt C 25 dX10_hot_9 (by decide) (fun hc3 => ?_) (fun hc3 => ?_)
    · have hJ := zif hc3 hJ
      refine zr_iconst C dX10_hot_25 (v := (-1 : Int32)) (by decide) ?_
      exact zr_iret C hret (zs_e hJ) rfl rfl dX10_hot_26
    · have hJ := zif' hc3 hJ
      refine zr_iload_n C 2 dX10_hot_12 rfl ?_
      refine zr_bipush C dX10_hot_13 (v := (100 : Int32)) (by decide) ?_
      refine zr_icmp_gt C 25 dX10_hot_15 (by decide) (fun hc4 => ?_) (fun hc4 => ?_)
      · have hJ := zif hc4 hJ
        refine zr_iconst C dX10_hot_25 (v := (-1 : Int32)) (by decide) ?_
        exact zr_iret C hret (zs_e hJ) rfl rfl dX10_hot_26
      · have hJ := zif' hc4 hJ
        refine zr_iload_n C 3 dX10_hot_18 rfl ?_
        obtain ⟨r5, hr5, hJ⟩ := zb_e hJ
        refine zr_callSI C (M_X10_isEither G l hr5) zin_X10_isEither zm_23_7 rfl rfl (Nat.le_of_ble_eq_true rfl) ⟨Nat.le_of_ble_eq_true rfl, Nat.le_of_ble_eq_true rfl⟩ ⟨Nat.le_of_ble_eq_true rfl, Nat.le_of_ble_eq_true rfl⟩ dX10_hot_19 ?_
        refine zr_if_ne C 27 dX10_hot_22 (by decide) (fun hc6 => ?_) (fun hc6 => ?_)
        · have hJ := zif' hc6 hJ
          refine zr_aload_n C 0 dX10_hot_27 rfl ?_
          obtain ⟨p7, hp7, hJ⟩ := zlet_e hJ
          obtain ⟨hp8, hJ⟩ := zg_e hJ
          refine zg_10_1 C 0 zk_0 zm_1_20 dX10_hot_28 ?_
          refine zr_topr hp7 ?_
          refine zr_iload_n C 1 dX10_hot_31 rfl ?_
          obtain ⟨r9, hr9, hJ⟩ := zb_e hJ
          refine zr_callVI C p7 (zk_lt (zkP_0 hp8) (by decide)) (zen_obj (zkP_0 hp8)) (rfl : zcl[3]? = some (RX3, TX3, 19)) (M_X3_total G l hp8 hr9) zin_X3_total zm_22_11 rfl rfl (Nat.le_of_ble_eq_true rfl) ⟨Nat.le_of_ble_eq_true rfl, Nat.le_of_ble_eq_true rfl⟩ ⟨Nat.le_of_ble_eq_true rfl, Nat.le_of_ble_eq_true rfl⟩ dX10_hot_32 ?_
          refine zr_istore C [(4, .int r9), (0, .ref (G.1 + 0)), (1, .int a1), (2, .int a2), (3, .int a3)] dX10_hot_35 (by decide) rfl ?_
          refine zr_iload C 0 dX10_hot_37 rfl ?_
          refine zr_iconst C dX10_hot_39 (v := (1 : Int32)) (by decide) ?_
          refine zr_icmp_ge C 46 dX10_hot_40 (by decide) (fun hc10 => ?_) (fun hc10 => ?_)
          · have hJ := zif hc10 hJ
            refine zr_iload_n C 3 dX10_hot_46 rfl ?_
            refine zr_iload C 0 dX10_hot_47 rfl ?_
            refine zr_imul C dX10_hot_49 ?_
            refine zr_bipush C dX10_hot_50 (v := (99 : Int32)) (by decide) ?_
            refine zr_iadd C dX10_hot_52 ?_
            refine zr_bipush C dX10_hot_53 (v := (100 : Int32)) (by decide) ?_
            refine zr_idiv C dX10_hot_55 (by decide) ?_
            obtain ⟨v11, hv11, hJ⟩ := zlet_e hJ
            refine zr_topi hv11 ?_
            refine zr_istore C [(5, .int v11), (4, .int r9), (0, .ref (G.1 + 0)), (1, .int a1), (2, .int a2), (3, .int a3)] dX10_hot_56 (by decide) rfl ?_
            refine zr_aload_n C 2 dX10_hot_58 rfl ?_
            refine zr_iload_n C 3 dX10_hot_59 rfl ?_
            refine zr_iload C 0 dX10_hot_60 rfl ?_
            obtain ⟨r12, hr12, hJ⟩ := zb_e hJ
            refine zr_callVI C 0 (zk_lt zk_0 (by decide)) (zen_obj zk_0) (rfl : zcl[10]? = some (RX10, TX10, 12)) (M_X10_fewestLines G l hr12) zin_X10_fewestLines zm_26_6 rfl rfl (Nat.le_of_ble_eq_true rfl) ⟨Nat.le_of_ble_eq_true rfl, Nat.le_of_ble_eq_true rfl⟩ ⟨Nat.le_of_ble_eq_true rfl, Nat.le_of_ble_eq_true rfl⟩ dX10_hot_62 ?_
            refine zr_istore C [(6, .int r12), (5, .int v11), (4, .int r9), (0, .ref (G.1 + 0)), (1, .int a1), (2, .int a2), (3, .int a3)] dX10_hot_65 (by decide) rfl ?_
            refine zr_iload_n C 6 dX10_hot_67 rfl ?_
            refine zr_if_ne C 76 dX10_hot_68 (by decide) (fun hc13 => ?_) (fun hc13 => ?_)
            · have hJ := zif' hc13 hJ
              refine zr_aload_n C 3 dX10_hot_76 rfl ?_
              refine zr_iload_n C 4 dX10_hot_77 rfl ?_
              refine zr_iload C 1 dX10_hot_78 rfl ?_
              refine zr_iload C 0 dX10_hot_80 rfl ?_
              obtain ⟨r14, hr14, hJ⟩ := zb_e hJ
              refine zr_callVI C 0 (zk_lt zk_0 (by decide)) (zen_obj zk_0) (rfl : zcl[10]? = some (RX10, TX10, 12)) (M_X10_leastLines G l hr14) zin_X10_leastLines zm_26_22 rfl rfl (Nat.le_of_ble_eq_true rfl) ⟨Nat.le_of_ble_eq_true rfl, Nat.le_of_ble_eq_true rfl⟩ ⟨Nat.le_of_ble_eq_true rfl, Nat.le_of_ble_eq_true rfl⟩ dX10_hot_82 ?_
              exact zr_iret C hret (zs_e hJ) rfl rfl dX10_hot_85
            · have hJ := zif hc13 hJ
              refine zr_iload C 0 dX10_hot_71 rfl ?_
              refine zr_goto C 85 dX10_hot_73 (by decide) ?_
              exact zr_iret C hret (zs_e hJ) rfl rfl dX10_hot_85
          · have hJ := zif' hc10 hJ
            refine zr_bipush C dX10_hot_43 (v := (-4 : Int32)) (by decide) ?_
            exact zr_iret C hret (zs_e hJ) rfl rfl dX10_hot_45
        · have hJ := zif hc6 hJ
          refine zr_iconst C dX10_hot_25 (v := (-1 : Int32)) (by decide) ?_
          exact zr_iret C hret (zs_e hJ) rfl rfl dX10_hot_26
theorem dX1_take_0 : decode cX1_take 0 = .ok (.iconst 0, 1) := by decide +kernel
theorem dX1_take_1 : decode cX1_take 1 = .ok (.istore_n 2, 1) := by decide +kernel
theorem dX1_take_2 : decode cX1_take 2 = .ok (.iload_n 2, 1) := by decide +kernel
theorem dX1_take_3 : decode cX1_take 3 = .ok (.bipush 16, 2) := by decide +kernel
theorem dX1_take_5 : decode cX1_take 5 = .ok (.if_icmp .ge 37, 3) := by decide +kernel
theorem dX1_take_8 : decode cX1_take 8 = .ok (.iconst 0, 1) := by decide +kernel
theorem dX1_take_9 : decode cX1_take 9 = .ok (.istore_n 3, 1) := by decide +kernel
theorem dX1_take_10 : decode cX1_take 10 = .ok (.iload_n 3, 1) := by decide +kernel
theorem dX1_take_11 : decode cX1_take 11 = .ok (.bipush 8, 2) := by decide +kernel
theorem dX1_take_13 : decode cX1_take 13 = .ok (.if_icmp .ge 23, 3) := by decide +kernel
theorem dX1_take_16 : decode cX1_take 16 = .ok (.aload_n 0, 1) := by decide +kernel
theorem dX1_take_17 : decode cX1_take 17 = .ok (.getfield 11, 3) := by decide +kernel
theorem dX1_take_20 : decode cX1_take 20 = .ok (.iload_n 2, 1) := by decide +kernel
theorem dX1_take_21 : decode cX1_take 21 = .ok (.aaload, 1) := by decide +kernel
theorem dX1_take_22 : decode cX1_take 22 = .ok (.iload_n 3, 1) := by decide +kernel
theorem dX1_take_23 : decode cX1_take 23 = .ok (.aload_n 1, 1) := by decide +kernel
theorem dX1_take_24 : decode cX1_take 24 = .ok (.iload_n 2, 1) := by decide +kernel
theorem dX1_take_25 : decode cX1_take 25 = .ok (.iload_n 3, 1) := by decide +kernel
theorem dX1_take_26 : decode cX1_take 26 = .ok (.invokevirtual 16, 3) := by decide +kernel
theorem dX1_take_29 : decode cX1_take 29 = .ok (.iastore, 1) := by decide +kernel
theorem dX1_take_30 : decode cX1_take 30 = .ok (.iinc 3 1, 3) := by decide +kernel
theorem dX1_take_33 : decode cX1_take 33 = .ok (.goto (-23), 3) := by decide +kernel
theorem dX1_take_36 : decode cX1_take 36 = .ok (.iinc 2 1, 3) := by decide +kernel
theorem dX1_take_39 : decode cX1_take 39 = .ok (.goto (-37), 3) := by decide +kernel
theorem dX1_take_42 : decode cX1_take 42 = .ok (.return_, 1) := by decide +kernel
set_option maxRecDepth 100000 in
set_option maxHeartbeats 4000000 in
theorem M_X1_take (G : zG) (l : Launch) {p1 : Nat} (hp1 : zP p1 = true) {σ : zS} {σ' : zS} (hJ : J_X1_take p1 σ = some σ') : zMV G l yX1_take cX1_take 4 none (zrm 1 22) [.ref (G.1 + 64), .ref (G.1 + p1)] 137 (zen G σ) 137 (zen G σ') := by
  unfold J_X1_take at hJ
  refine zentV (by decide +kernel) (Nat.le_of_ble_eq_true rfl) ?_
  intro p e s m args below meth c C hret
  refine zr_sub [0, 1] [(0, .ref (G.1 + 64)), (1, .ref (G.1 + p1))] rfl ?_
  refine zr_iconst C dX1_take_0 (v := (0 : Int32)) (by decide) ?_
  refine zr_istore_n C [(2, .int (0 : Int32)), (0, .ref (G.1 + 64)), (1, .ref (G.1 + p1))] dX1_take_1 (by decide) rfl ?_
  have hl2 : ∀ (n : Nat) (w2_2 : Int32) (σ_2 : zS), L_X1_take_2 p1 n w2_2 σ_2 = some σ' → zU G 4 p l e (zrm 1 22) s m args below meth c (MQ below (va_Qv (fun (_ : Unit) => True) (fun _ t => zok G 137 (zen G σ') t) (zA G)) args s 0 0 (zA G)) σ_2 2 [(0, .ref (G.1 + 64)), (1, .ref (G.1 + p1)), (2, .int w2_2)] [] := by
    intro n
    induction n with
    | zero =>
      intro w2_2 σ_2 hJ
      rw [L_X1_take_2] at hJ
      cases hJ
    | succ n ih =>
      intro w2_2 σ_2 hJ
      rw [L_X1_take_2] at hJ
      obtain ⟨r_2, hr_2, hJ⟩ := zlet_e hJ
      have ih2 : ∀ (w2_2 : Int32) (σ_2 : zS), r_2 w2_2 σ_2 = some σ' → zU G 4 p l e (zrm 1 22) s m args below meth c (MQ below (va_Qv (fun (_ : Unit) => True) (fun _ t => zok G 137 (zen G σ') t) (zA G)) args s 0 0 (zA G)) σ_2 2 [(0, .ref (G.1 + 64)), (1, .ref (G.1 + p1)), (2, .int w2_2)] [] := by
        rw [hr_2]
        exact ih
      refine zr_iload_n C 2 dX1_take_2 rfl ?_
      refine zr_bipush C dX1_take_3 (v := (16 : Int32)) (by decide) ?_
      refine zr_icmp_ge C 42 dX1_take_5 (by decide) (fun hc1 => ?_) (fun hc1 => ?_)
      · have hJ := zif hc1 hJ
        exact zr_vret C hret rfl (congrArg (zen G) (zs_e hJ)) dX1_take_42
      · have hJ := zif' hc1 hJ
        refine zr_iconst C dX1_take_8 (v := (0 : Int32)) (by decide) ?_
        refine zr_istore_n C [(3, .int (0 : Int32)), (0, .ref (G.1 + 64)), (1, .ref (G.1 + p1)), (2, .int w2_2)] dX1_take_9 (by decide) rfl ?_
        obtain ⟨k36, hk36, hJ⟩ := zlet_e hJ
        have hj36 : ∀ (σ_36 : zS), k36 σ_36 = some σ' → zU G 4 p l e (zrm 1 22) s m args below meth c (MQ below (va_Qv (fun (_ : Unit) => True) (fun _ t => zok G 137 (zen G σ') t) (zA G)) args s 0 0 (zA G)) σ_36 36 [(0, .ref (G.1 + 64)), (1, .ref (G.1 + p1)), (2, .int w2_2)] [] := by
          intro σ_36 hJ
          rw [hk36] at hJ
          unfold D_X1_take_36 at hJ
          obtain ⟨v2, hv2, hJ⟩ := zlet_e hJ
          refine zr_iinc C v2 2 [(2, .int v2), (0, .ref (G.1 + 64)), (1, .ref (G.1 + p1))] dX1_take_36 rfl (hv2.trans (zinc (by decide))) (by decide) rfl ?_
          refine zr_goto C 2 dX1_take_39 (by decide) ?_
          refine zr_sub [1, 2, 0] [(0, .ref (G.1 + 64)), (1, .ref (G.1 + p1)), (2, .int v2)] rfl ?_
          exact ih2 _ _ hJ
        have hl10 : ∀ (n : Nat) (w3_10 : Int32) (σ_10 : zS), L_X1_take_10 p1 w2_2 k36 n w3_10 σ_10 = some σ' → zU G 4 p l e (zrm 1 22) s m args below meth c (MQ below (va_Qv (fun (_ : Unit) => True) (fun _ t => zok G 137 (zen G σ') t) (zA G)) args s 0 0 (zA G)) σ_10 10 [(0, .ref (G.1 + 64)), (1, .ref (G.1 + p1)), (2, .int w2_2), (3, .int w3_10)] [] := by
          intro n
          induction n with
          | zero =>
            intro w3_10 σ_10 hJ
            rw [L_X1_take_10] at hJ
            cases hJ
          | succ n ih =>
            intro w3_10 σ_10 hJ
            rw [L_X1_take_10] at hJ
            obtain ⟨r_10, hr_10, hJ⟩ := zlet_e hJ
            have ih10 : ∀ (w3_10 : Int32) (σ_10 : zS), r_10 w3_10 σ_10 = some σ' → zU G 4 p l e (zrm 1 22) s m args below meth c (MQ below (va_Qv (fun (_ : Unit) => True) (fun _ t => zok G 137 (zen G σ') t) (zA G)) args s 0 0 (zA G)) σ_10 10 [(0, .ref (G.1 + 64)), (1, .ref (G.1 + p1)), (2, .int w2_2), (3, .int w3_10)] [] := by
              rw [hr_10]
              exact ih
            refine zr_iload_n C 3 dX1_take_10 rfl ?_
            refine zr_bipush C dX1_take_11 (v := (8 : Int32)) (by decide) ?_
            refine zr_icmp_ge C 36 dX1_take_13 (by decide) (fun hc3 => ?_) (fun hc3 => ?_)
            · have hJ := zif hc3 hJ
              refine zr_sub [0, 1, 2] [(0, .ref (G.1 + 64)), (1, .ref (G.1 + p1)), (2, .int w2_2)] rfl ?_
              exact hj36 _ hJ
            · have hJ := zif' hc3 hJ
              refine zr_aload_n C 0 dX1_take_16 rfl ?_
              refine zg_1_0 C 64 zk_64 zm_5_5 dX1_take_17 ?_
              refine zr_iload_n C 2 dX1_take_20 rfl ?_
              obtain ⟨hg4, hJ⟩ := zg_e hJ
              refine zu_aald C 65 zk_65 hg4 dX1_take_21 ?_
              refine zr_iload_n C 3 dX1_take_22 rfl ?_
              refine zr_aload_n C 1 dX1_take_23 rfl ?_
              refine zr_iload_n C 2 dX1_take_24 rfl ?_
              refine zr_iload_n C 3 dX1_take_25 rfl ?_
              obtain ⟨r5, hr5, hJ⟩ := zb_e hJ
              refine zr_callVI C p1 (zk_lt (zkP_0 hp1) (by decide)) (zen_obj (zkP_0 hp1)) (rfl : zcl[3]? = some (RX3, TX3, 19)) (M_X3_made G l hp1 hr5) zin_X3_made zm_27_19 rfl rfl (Nat.le_of_ble_eq_true rfl) ⟨Nat.le_of_ble_eq_true rfl, Nat.le_of_ble_eq_true rfl⟩ ⟨Nat.le_of_ble_eq_true rfl, Nat.le_of_ble_eq_true rfl⟩ dX1_take_26 ?_
              obtain ⟨hg6, hJ⟩ := zg_e hJ
              obtain ⟨σ7, hσ7, hJ⟩ := zlet_e hJ
              refine zv_iast C (65 + 1 + w2_2.toNatClampNeg) (zk_rowK (zi_lt hg4)) hg6 hσ7 dX1_take_29 ?_
              obtain ⟨v8, hv8, hJ⟩ := zlet_e hJ
              refine zr_iinc C v8 3 [(3, .int v8), (0, .ref (G.1 + 64)), (1, .ref (G.1 + p1)), (2, .int w2_2)] dX1_take_30 rfl (hv8.trans (zinc (by decide))) (by decide) rfl ?_
              refine zr_goto C 10 dX1_take_33 (by decide) ?_
              refine zr_sub [1, 2, 3, 0] [(0, .ref (G.1 + 64)), (1, .ref (G.1 + p1)), (2, .int w2_2), (3, .int v8)] rfl ?_
              exact ih10 _ _ hJ
        refine zr_sub [1, 2, 3, 0] [(0, .ref (G.1 + 64)), (1, .ref (G.1 + p1)), (2, .int w2_2), (3, .int (0 : Int32))] rfl ?_
        exact hl10 _ _ _ hJ
  refine zr_sub [1, 2, 0] [(0, .ref (G.1 + 64)), (1, .ref (G.1 + p1)), (2, .int (0 : Int32))] rfl ?_
  exact hl2 _ _ _ hJ
theorem dX10_keep_0 : decode cX10_keep 0 = .ok (.aload_n 0, 1) := by decide +kernel
theorem dX10_keep_1 : decode cX10_keep 1 = .ok (.getfield 38, 3) := by decide +kernel
theorem dX10_keep_4 : decode cX10_keep 4 = .ok (.aload_n 0, 1) := by decide +kernel
theorem dX10_keep_5 : decode cX10_keep 5 = .ok (.getfield 19, 3) := by decide +kernel
theorem dX10_keep_8 : decode cX10_keep 8 = .ok (.invokevirtual 195, 3) := by decide +kernel
theorem dX10_keep_11 : decode cX10_keep 11 = .ok (.aload_n 0, 1) := by decide +kernel
theorem dX10_keep_12 : decode cX10_keep 12 = .ok (.getfield 19, 3) := by decide +kernel
theorem dX10_keep_15 : decode cX10_keep 15 = .ok (.getfield 113, 3) := by decide +kernel
theorem dX10_keep_18 : decode cX10_keep 18 = .ok (.ireturn, 1) := by decide +kernel
set_option maxRecDepth 100000 in
set_option maxHeartbeats 4000000 in
theorem M_X10_keep (G : zG) (l : Launch) {σ : zS} {r : Int32} {σ' : zS} (hJ : J_X10_keep σ = some (r, σ')) : zMI G l yX10_keep cX10_keep 1 (some .int) (zrm 2 45) [.ref (G.1 + 0)] 137 (zen G σ) r 137 (zen G σ') := by
  unfold J_X10_keep at hJ
  refine zentI (by decide +kernel) (Nat.le_of_ble_eq_true rfl) ?_
  intro p e s m args below meth c C hret
  refine zr_sub [0] [(0, .ref (G.1 + 0))] rfl ?_
  refine zr_aload_n C 0 dX10_keep_0 rfl ?_
  refine zg_10_4 C 0 zk_0 zm_2_5 dX10_keep_1 ?_
  refine zr_aload_n C 0 dX10_keep_4 rfl ?_
  obtain ⟨p1, hp1, hJ⟩ := zlet_e hJ
  obtain ⟨hp2, hJ⟩ := zg_e hJ
  refine zg_10_1 C 0 zk_0 zm_1_20 dX10_keep_5 ?_
  refine zr_topr hp1 ?_
  obtain ⟨σ4, hr3, hJ⟩ := zb_e hJ
  refine zr_callVV C 64 (zk_lt zk_64 (by decide)) (zen_obj zk_64) (rfl : zcl[1]? = some (RX1, TX1, 1)) (M_X1_take G l hp2 hr3) zin_X1_take zm_27_15 rfl rfl (Nat.le_of_ble_eq_true rfl) ⟨Nat.le_of_ble_eq_true rfl, Nat.le_of_ble_eq_true rfl⟩ ⟨Nat.le_of_ble_eq_true rfl, Nat.le_of_ble_eq_true rfl⟩ dX10_keep_8 ?_
  refine zr_aload_n C 0 dX10_keep_11 rfl ?_
  obtain ⟨p5, hp5, hJ⟩ := zlet_e hJ
  obtain ⟨hp6, hJ⟩ := zg_e hJ
  refine zg_10_1 C 0 zk_0 zm_1_20 dX10_keep_12 ?_
  refine zr_topr hp5 ?_
  refine zg_3_0 C p5 (zkP_0 hp6) zm_10_8 dX10_keep_15 ?_
  exact zr_iret C hret (Prod.mk.inj (zs_e hJ)).1 rfl (congrArg (zen G) (Prod.mk.inj (zs_e hJ)).2) dX10_keep_18
theorem dX7_has_0 : decode cX7_has 0 = .ok (.iload_n 1, 1) := by decide +kernel
theorem dX7_has_1 : decode cX7_has 1 = .ok (.ifCond .lt 12, 3) := by decide +kernel
theorem dX7_has_4 : decode cX7_has 4 = .ok (.iload_n 1, 1) := by decide +kernel
theorem dX7_has_5 : decode cX7_has 5 = .ok (.iconst 4, 1) := by decide +kernel
theorem dX7_has_6 : decode cX7_has 6 = .ok (.if_icmp .ge 7, 3) := by decide +kernel
theorem dX7_has_9 : decode cX7_has 9 = .ok (.iconst 1, 1) := by decide +kernel
theorem dX7_has_10 : decode cX7_has 10 = .ok (.goto 4, 3) := by decide +kernel
theorem dX7_has_13 : decode cX7_has 13 = .ok (.iconst 0, 1) := by decide +kernel
theorem dX7_has_14 : decode cX7_has 14 = .ok (.ireturn, 1) := by decide +kernel
set_option maxRecDepth 100000 in
set_option maxHeartbeats 4000000 in
theorem M_X7_has (G : zG) (l : Launch) {a1 : Int32} {σ : zS} {r : Int32} (hJ : J_X7_has a1 σ = some r) : zMI G l yX7_has cX7_has 2 (some .boolean) (zrm 0 0) [.ref (G.1 + 97), .int a1] 137 (zen G σ) r 137 (zen G σ) := by
  unfold J_X7_has at hJ
  refine zentI (by decide +kernel) (Nat.le_of_ble_eq_true rfl) ?_
  intro p e s m args below meth c C hret
  refine zr_sub [0, 1] [(0, .ref (G.1 + 97)), (1, .int a1)] rfl ?_
  refine zr_iload_n C 1 dX7_has_0 rfl ?_
  refine zr_if_lt C 13 dX7_has_1 (by decide) (fun hc1 => ?_) (fun hc1 => ?_)
  · have hJ := zif hc1 hJ
    refine zr_iconst C dX7_has_13 (v := (0 : Int32)) (by decide) ?_
    exact zr_zret C hret (zs_e hJ) rfl rfl rfl dX7_has_14
  · have hJ := zif' hc1 hJ
    refine zr_iload_n C 1 dX7_has_4 rfl ?_
    refine zr_iconst C dX7_has_5 (v := (4 : Int32)) (by decide) ?_
    refine zr_icmp_ge C 13 dX7_has_6 (by decide) (fun hc2 => ?_) (fun hc2 => ?_)
    · have hJ := zif hc2 hJ
      refine zr_iconst C dX7_has_13 (v := (0 : Int32)) (by decide) ?_
      exact zr_zret C hret (zs_e hJ) rfl rfl rfl dX7_has_14
    · have hJ := zif' hc2 hJ
      refine zr_iconst C dX7_has_9 (v := (1 : Int32)) (by decide) ?_
      refine zr_goto C 14 dX7_has_10 (by decide) ?_
      exact zr_zret C hret (zs_e hJ) rfl rfl rfl dX7_has_14
theorem dX7_lowestBits_0 : decode cX7_lowestBits 0 = .ok (.iload_n 0, 1) := by decide +kernel
theorem dX7_lowestBits_1 : decode cX7_lowestBits 1 = .ok (.ifCond .ne 6, 3) := by decide +kernel
theorem dX7_lowestBits_4 : decode cX7_lowestBits 4 = .ok (.iload_n 1, 1) := by decide +kernel
theorem dX7_lowestBits_5 : decode cX7_lowestBits 5 = .ok (.i2b, 1) := by decide +kernel
theorem dX7_lowestBits_6 : decode cX7_lowestBits 6 = .ok (.ireturn, 1) := by decide +kernel
theorem dX7_lowestBits_7 : decode cX7_lowestBits 7 = .ok (.iload_n 0, 1) := by decide +kernel
theorem dX7_lowestBits_8 : decode cX7_lowestBits 8 = .ok (.iconst 1, 1) := by decide +kernel
theorem dX7_lowestBits_9 : decode cX7_lowestBits 9 = .ok (.if_icmp .ne 8, 3) := by decide +kernel
theorem dX7_lowestBits_12 : decode cX7_lowestBits 12 = .ok (.iload_n 1, 1) := by decide +kernel
theorem dX7_lowestBits_13 : decode cX7_lowestBits 13 = .ok (.i2s, 1) := by decide +kernel
theorem dX7_lowestBits_14 : decode cX7_lowestBits 14 = .ok (.goto 4, 3) := by decide +kernel
theorem dX7_lowestBits_17 : decode cX7_lowestBits 17 = .ok (.iload_n 1, 1) := by decide +kernel
theorem dX7_lowestBits_18 : decode cX7_lowestBits 18 = .ok (.ireturn, 1) := by decide +kernel
set_option maxRecDepth 100000 in
set_option maxHeartbeats 4000000 in
theorem M_X7_lowestBits (G : zG) (l : Launch) {a0 : Int32} {a1 : Int32} {σ : zS} {r : Int32} (hJ : J_X7_lowestBits a0 a1 σ = some r) : zMI G l yX7_lowestBits cX7_lowestBits 2 (some .int) (zrm 0 0) [.int a0, .int a1] 137 (zen G σ) r 137 (zen G σ) := by
  unfold J_X7_lowestBits at hJ
  refine zentI (by decide +kernel) (Nat.le_of_ble_eq_true rfl) ?_
  intro p e s m args below meth c C hret
  refine zr_sub [0, 1] [(0, .int a0), (1, .int a1)] rfl ?_
  refine zr_iload_n C 0 dX7_lowestBits_0 rfl ?_
  refine zr_if_ne C 7 dX7_lowestBits_1 (by decide) (fun hc1 => ?_) (fun hc1 => ?_)
  · have hJ := zif' hc1 hJ
    refine zr_iload_n C 0 dX7_lowestBits_7 rfl ?_
    refine zr_iconst C dX7_lowestBits_8 (v := (1 : Int32)) (by decide) ?_
    refine zr_icmp_ne C 17 dX7_lowestBits_9 (by decide) (fun hc2 => ?_) (fun hc2 => ?_)
    · have hJ := zif' hc2 hJ
      refine zr_iload_n C 1 dX7_lowestBits_17 rfl ?_
      exact zr_iret C hret (zs_e hJ) rfl rfl dX7_lowestBits_18
    · have hJ := zif hc2 hJ
      refine zr_iload_n C 1 dX7_lowestBits_12 rfl ?_
      refine zr_i2s C dX7_lowestBits_13 ?_
      refine zr_goto C 18 dX7_lowestBits_14 (by decide) ?_
      exact zr_iret C hret (zs_e hJ) rfl rfl dX7_lowestBits_18
  · have hJ := zif hc1 hJ
    refine zr_iload_n C 1 dX7_lowestBits_4 rfl ?_
    refine zr_i2b C dX7_lowestBits_5 ?_
    exact zr_iret C hret (zs_e hJ) rfl rfl dX7_lowestBits_6
theorem dX7_put_0 : decode cX7_put 0 = .ok (.aload_n 0, 1) := by decide +kernel
theorem dX7_put_1 : decode cX7_put 1 = .ok (.getfield 15, 3) := by decide +kernel
theorem dX7_put_4 : decode cX7_put 4 = .ok (.iload_n 1, 1) := by decide +kernel
theorem dX7_put_5 : decode cX7_put 5 = .ok (.iaload, 1) := by decide +kernel
theorem dX7_put_6 : decode cX7_put 6 = .ok (.ifCond .ge 6, 3) := by decide +kernel
theorem dX7_put_9 : decode cX7_put 9 = .ok (.bipush (-11), 2) := by decide +kernel
theorem dX7_put_11 : decode cX7_put 11 = .ok (.ireturn, 1) := by decide +kernel
theorem dX7_put_12 : decode cX7_put 12 = .ok (.iload_n 2, 1) := by decide +kernel
theorem dX7_put_13 : decode cX7_put 13 = .ok (.ifCond .lt 13, 3) := by decide +kernel
theorem dX7_put_16 : decode cX7_put 16 = .ok (.iload_n 2, 1) := by decide +kernel
theorem dX7_put_17 : decode cX7_put 17 = .ok (.aload_n 0, 1) := by decide +kernel
theorem dX7_put_18 : decode cX7_put 18 = .ok (.getfield 15, 3) := by decide +kernel
theorem dX7_put_21 : decode cX7_put 21 = .ok (.iload_n 1, 1) := by decide +kernel
theorem dX7_put_22 : decode cX7_put 22 = .ok (.iaload, 1) := by decide +kernel
theorem dX7_put_23 : decode cX7_put 23 = .ok (.if_icmp .lt 6, 3) := by decide +kernel
theorem dX7_put_26 : decode cX7_put 26 = .ok (.bipush (-12), 2) := by decide +kernel
theorem dX7_put_28 : decode cX7_put 28 = .ok (.ireturn, 1) := by decide +kernel
theorem dX7_put_29 : decode cX7_put 29 = .ok (.aload_n 0, 1) := by decide +kernel
theorem dX7_put_30 : decode cX7_put 30 = .ok (.getfield 20, 3) := by decide +kernel
theorem dX7_put_33 : decode cX7_put 33 = .ok (.iload_n 1, 1) := by decide +kernel
theorem dX7_put_34 : decode cX7_put 34 = .ok (.aaload, 1) := by decide +kernel
theorem dX7_put_35 : decode cX7_put 35 = .ok (.iload_n 2, 1) := by decide +kernel
theorem dX7_put_36 : decode cX7_put 36 = .ok (.aload_n 0, 1) := by decide +kernel
theorem dX7_put_37 : decode cX7_put 37 = .ok (.getfield 11, 3) := by decide +kernel
theorem dX7_put_40 : decode cX7_put 40 = .ok (.iload_n 1, 1) := by decide +kernel
theorem dX7_put_41 : decode cX7_put 41 = .ok (.iaload, 1) := by decide +kernel
theorem dX7_put_42 : decode cX7_put 42 = .ok (.iload_n 3, 1) := by decide +kernel
theorem dX7_put_43 : decode cX7_put 43 = .ok (.invokestatic 23, 3) := by decide +kernel
theorem dX7_put_46 : decode cX7_put 46 = .ok (.iastore, 1) := by decide +kernel
theorem dX7_put_47 : decode cX7_put 47 = .ok (.iconst 1, 1) := by decide +kernel
theorem dX7_put_48 : decode cX7_put 48 = .ok (.ireturn, 1) := by decide +kernel
set_option maxRecDepth 100000 in
set_option maxHeartbeats 4000000 in
theorem M_X7_put (G : zG) (l : Launch) {a1 : Int32} {a2 : Int32} {a3 : Int32} {σ : zS} {r : Int32} {σ' : zS} (hJ : J_X7_put a1 a2 a3 σ = some (r, σ')) : zMI G l yX7_put cX7_put 4 (some .int) (zrm 1 21) [.ref (G.1 + 97), .int a1, .int a2, .int a3] 137 (zen G σ) r 137 (zen G σ') := by
  unfold J_X7_put at hJ
  refine zentI (by decide +kernel) (Nat.le_of_ble_eq_true rfl) ?_
  intro p e s m args below meth c C hret
  refine zr_sub [0, 1, 2, 3] [(0, .ref (G.1 + 97)), (1, .int a1), (2, .int a2), (3, .int a3)] rfl ?_
  refine zr_aload_n C 0 dX7_put_0 rfl ?_
  refine zg_7_1 C 97 zk_97 zm_7_0 dX7_put_1 ?_
  refine zr_iload_n C 1 dX7_put_4 rfl ?_
  obtain ⟨hg1, hJ⟩ := zg_e hJ
  refine zu_iald C 99 zk_99 hg1 dX7_put_5 ?_
  refine zr_if_ge C 12 dX7_put_6 (by decide) (fun hc2 => ?_) (fun hc2 => ?_)
  · have hJ := zif hc2 hJ
    refine zr_iload_n C 2 dX7_put_12 rfl ?_
    refine zr_if_lt C 26 dX7_put_13 (by decide) (fun hc3 => ?_) (fun hc3 => ?_)
    · have hJ := zif hc3 hJ
      refine zr_bipush C dX7_put_26 (v := (-12 : Int32)) (by decide) ?_
      exact zr_iret C hret (Prod.mk.inj (zs_e hJ)).1 rfl (congrArg (zen G) (Prod.mk.inj (zs_e hJ)).2) dX7_put_28
    · have hJ := zif' hc3 hJ
      refine zr_iload_n C 2 dX7_put_16 rfl ?_
      refine zr_aload_n C 0 dX7_put_17 rfl ?_
      refine zg_7_1 C 97 zk_97 zm_7_0 dX7_put_18 ?_
      refine zr_iload_n C 1 dX7_put_21 rfl ?_
      obtain ⟨hg4, hJ⟩ := zg_e hJ
      refine zu_iald C 99 zk_99 hg4 dX7_put_22 ?_
      refine zr_icmp_lt C 29 dX7_put_23 (by decide) (fun hc5 => ?_) (fun hc5 => ?_)
      · have hJ := zif hc5 hJ
        refine zr_aload_n C 0 dX7_put_29 rfl ?_
        refine zg_7_2 C 97 zk_97 zm_7_2 dX7_put_30 ?_
        refine zr_iload_n C 1 dX7_put_33 rfl ?_
        obtain ⟨hg6, hJ⟩ := zg_e hJ
        refine zu_aald C 100 zk_100 hg6 dX7_put_34 ?_
        refine zr_iload_n C 2 dX7_put_35 rfl ?_
        refine zr_aload_n C 0 dX7_put_36 rfl ?_
        refine zg_7_0 C 97 zk_97 zm_6_23 dX7_put_37 ?_
        refine zr_iload_n C 1 dX7_put_40 rfl ?_
        obtain ⟨hg7, hJ⟩ := zg_e hJ
        refine zu_iald C 98 zk_98 hg7 dX7_put_41 ?_
        refine zr_iload_n C 3 dX7_put_42 rfl ?_
        obtain ⟨r8, hr8, hJ⟩ := zb_e hJ
        refine zr_callSI C (M_X7_lowestBits G l hr8) zin_X7_lowestBits zm_47_18 rfl rfl (Nat.le_of_ble_eq_true rfl) ⟨Nat.le_of_ble_eq_true rfl, Nat.le_of_ble_eq_true rfl⟩ ⟨Nat.le_of_ble_eq_true rfl, Nat.le_of_ble_eq_true rfl⟩ dX7_put_43 ?_
        obtain ⟨hg9, hJ⟩ := zg_e hJ
        obtain ⟨σ10, hσ10, hJ⟩ := zlet_e hJ
        refine zv_iast C (100 + 1 + a1.toNatClampNeg) (zk_rowS (zi_lt hg6)) hg9 hσ10 dX7_put_46 ?_
        refine zr_iconst C dX7_put_47 (v := (1 : Int32)) (by decide) ?_
        exact zr_iret C hret (Prod.mk.inj (zs_e hJ)).1 rfl (congrArg (zen G) (Prod.mk.inj (zs_e hJ)).2) dX7_put_48
      · have hJ := zif' hc5 hJ
        refine zr_bipush C dX7_put_26 (v := (-12 : Int32)) (by decide) ?_
        exact zr_iret C hret (Prod.mk.inj (zs_e hJ)).1 rfl (congrArg (zen G) (Prod.mk.inj (zs_e hJ)).2) dX7_put_28
  · have hJ := zif' hc2 hJ
    refine zr_bipush C dX7_put_9 (v := (-11 : Int32)) (by decide) ?_
    exact zr_iret C hret (Prod.mk.inj (zs_e hJ)).1 rfl (congrArg (zen G) (Prod.mk.inj (zs_e hJ)).2) dX7_put_11
theorem dX10_lay_0 : decode cX10_lay 0 = .ok (.aload_n 0, 1) := by decide +kernel
theorem dX10_lay_1 : decode cX10_lay 1 = .ok (.getfield 80, 3) := by decide +kernel
theorem dX10_lay_4 : decode cX10_lay 4 = .ok (.iload_n 1, 1) := by decide +kernel
theorem dX10_lay_5 : decode cX10_lay 5 = .ok (.invokevirtual 348, 3) := by decide +kernel
theorem dX10_lay_8 : decode cX10_lay 8 = .ok (.ifCond .ne 5, 3) := by decide +kernel
theorem dX10_lay_11 : decode cX10_lay 11 = .ok (.iconst (-1), 1) := by decide +kernel
theorem dX10_lay_12 : decode cX10_lay 12 = .ok (.ireturn, 1) := by decide +kernel
theorem dX10_lay_13 : decode cX10_lay 13 = .ok (.aload_n 0, 1) := by decide +kernel
theorem dX10_lay_14 : decode cX10_lay 14 = .ok (.getfield 80, 3) := by decide +kernel
theorem dX10_lay_17 : decode cX10_lay 17 = .ok (.iload_n 1, 1) := by decide +kernel
theorem dX10_lay_18 : decode cX10_lay 18 = .ok (.iload_n 2, 1) := by decide +kernel
theorem dX10_lay_19 : decode cX10_lay 19 = .ok (.iload_n 3, 1) := by decide +kernel
theorem dX10_lay_20 : decode cX10_lay 20 = .ok (.invokevirtual 356, 3) := by decide +kernel
theorem dX10_lay_23 : decode cX10_lay 23 = .ok (.ireturn, 1) := by decide +kernel
set_option maxRecDepth 100000 in
set_option maxHeartbeats 4000000 in
theorem M_X10_lay (G : zG) (l : Launch) {a1 : Int32} {a2 : Int32} {a3 : Int32} {σ : zS} {r : Int32} {σ' : zS} (hJ : J_X10_lay a1 a2 a3 σ = some (r, σ')) : zMI G l yX10_lay cX10_lay 4 (some .int) (zrm 2 44) [.ref (G.1 + 0), .int a1, .int a2, .int a3] 137 (zen G σ) r 137 (zen G σ') := by
  unfold J_X10_lay at hJ
  refine zentI (by decide +kernel) (Nat.le_of_ble_eq_true rfl) ?_
  intro p e s m args below meth c C hret
  refine zr_sub [0, 1, 2, 3] [(0, .ref (G.1 + 0)), (1, .int a1), (2, .int a2), (3, .int a3)] rfl ?_
  refine zr_aload_n C 0 dX10_lay_0 rfl ?_
  refine zg_10_10 C 0 zk_0 zm_3_5 dX10_lay_1 ?_
  refine zr_iload_n C 1 dX10_lay_4 rfl ?_
  obtain ⟨r1, hr1, hJ⟩ := zb_e hJ
  refine zr_callVI C 97 (zk_lt zk_97 (by decide)) (zen_obj zk_97) (rfl : zcl[7]? = some (RX7, TX7, 3)) (M_X7_has G l hr1) zin_X7_has zm_46_15 rfl rfl (Nat.le_of_ble_eq_true rfl) ⟨Nat.le_of_ble_eq_true rfl, Nat.le_of_ble_eq_true rfl⟩ ⟨Nat.le_of_ble_eq_true rfl, Nat.le_of_ble_eq_true rfl⟩ dX10_lay_5 ?_
  refine zr_if_ne C 13 dX10_lay_8 (by decide) (fun hc2 => ?_) (fun hc2 => ?_)
  · have hJ := zif' hc2 hJ
    refine zr_aload_n C 0 dX10_lay_13 rfl ?_
    refine zg_10_10 C 0 zk_0 zm_3_5 dX10_lay_14 ?_
    refine zr_iload_n C 1 dX10_lay_17 rfl ?_
    refine zr_iload_n C 2 dX10_lay_18 rfl ?_
    refine zr_iload_n C 3 dX10_lay_19 rfl ?_
    obtain ⟨r3, σ4, hr3, hJ⟩ := zb2_e hJ
    refine zr_callVI C 97 (zk_lt zk_97 (by decide)) (zen_obj zk_97) (rfl : zcl[7]? = some (RX7, TX7, 3)) (M_X7_put G l hr3) zin_X7_put zm_47_14 rfl rfl (Nat.le_of_ble_eq_true rfl) ⟨Nat.le_of_ble_eq_true rfl, Nat.le_of_ble_eq_true rfl⟩ ⟨Nat.le_of_ble_eq_true rfl, Nat.le_of_ble_eq_true rfl⟩ dX10_lay_20 ?_
    exact zr_iret C hret (Prod.mk.inj (zs_e hJ)).1 rfl (congrArg (zen G) (Prod.mk.inj (zs_e hJ)).2) dX10_lay_23
  · have hJ := zif hc2 hJ
    refine zr_iconst C dX10_lay_11 (v := (-1 : Int32)) (by decide) ?_
    exact zr_iret C hret (Prod.mk.inj (zs_e hJ)).1 rfl (congrArg (zen G) (Prod.mk.inj (zs_e hJ)).2) dX10_lay_12
theorem dX3_hasLine_0 : decode cX3_hasLine 0 = .ok (.iload_n 1, 1) := by decide +kernel
theorem dX3_hasLine_1 : decode cX3_hasLine 1 = .ok (.ifCond .lt 15, 3) := by decide +kernel
theorem dX3_hasLine_4 : decode cX3_hasLine 4 = .ok (.iload_n 1, 1) := by decide +kernel
theorem dX3_hasLine_5 : decode cX3_hasLine 5 = .ok (.aload_n 0, 1) := by decide +kernel
theorem dX3_hasLine_6 : decode cX3_hasLine 6 = .ok (.getfield 9, 3) := by decide +kernel
theorem dX3_hasLine_9 : decode cX3_hasLine 9 = .ok (.if_icmp .ge 7, 3) := by decide +kernel
theorem dX3_hasLine_12 : decode cX3_hasLine 12 = .ok (.iconst 1, 1) := by decide +kernel
theorem dX3_hasLine_13 : decode cX3_hasLine 13 = .ok (.goto 4, 3) := by decide +kernel
theorem dX3_hasLine_16 : decode cX3_hasLine 16 = .ok (.iconst 0, 1) := by decide +kernel
theorem dX3_hasLine_17 : decode cX3_hasLine 17 = .ok (.ireturn, 1) := by decide +kernel
set_option maxRecDepth 100000 in
set_option maxHeartbeats 4000000 in
theorem M_X3_hasLine (G : zG) (l : Launch) {p0 : Nat} (hp0 : zP p0 = true) {a1 : Int32} {σ : zS} {r : Int32} (hJ : J_X3_hasLine p0 a1 σ = some r) : zMI G l yX3_hasLine cX3_hasLine 2 (some .boolean) (zrm 0 0) [.ref (G.1 + p0), .int a1] 137 (zen G σ) r 137 (zen G σ) := by
  unfold J_X3_hasLine at hJ
  refine zentI (by decide +kernel) (Nat.le_of_ble_eq_true rfl) ?_
  intro p e s m args below meth c C hret
  refine zr_sub [0, 1] [(0, .ref (G.1 + p0)), (1, .int a1)] rfl ?_
  refine zr_iload_n C 1 dX3_hasLine_0 rfl ?_
  refine zr_if_lt C 16 dX3_hasLine_1 (by decide) (fun hc1 => ?_) (fun hc1 => ?_)
  · have hJ := zif hc1 hJ
    refine zr_iconst C dX3_hasLine_16 (v := (0 : Int32)) (by decide) ?_
    exact zr_zret C hret (zs_e hJ) rfl rfl rfl dX3_hasLine_17
  · have hJ := zif' hc1 hJ
    refine zr_iload_n C 1 dX3_hasLine_4 rfl ?_
    refine zr_aload_n C 0 dX3_hasLine_5 rfl ?_
    refine zg_3_0 C p0 (zkP_0 hp0) zm_3_16 dX3_hasLine_6 ?_
    refine zr_icmp_ge C 16 dX3_hasLine_9 (by decide) (fun hc2 => ?_) (fun hc2 => ?_)
    · have hJ := zif hc2 hJ
      refine zr_iconst C dX3_hasLine_16 (v := (0 : Int32)) (by decide) ?_
      exact zr_zret C hret (zs_e hJ) rfl rfl rfl dX3_hasLine_17
    · have hJ := zif' hc2 hJ
      refine zr_iconst C dX3_hasLine_12 (v := (1 : Int32)) (by decide) ?_
      refine zr_goto C 17 dX3_hasLine_13 (by decide) ?_
      exact zr_zret C hret (zs_e hJ) rfl rfl rfl dX3_hasLine_17
theorem dX10_line_0 : decode cX10_line 0 = .ok (.aload_n 0, 1) := by decide +kernel
theorem dX10_line_1 : decode cX10_line 1 = .ok (.getfield 19, 3) := by decide +kernel
theorem dX10_line_4 : decode cX10_line 4 = .ok (.iload_n 1, 1) := by decide +kernel
theorem dX10_line_5 : decode cX10_line 5 = .ok (.invokevirtual 116, 3) := by decide +kernel
theorem dX10_line_8 : decode cX10_line 8 = .ok (.ifCond .ne 5, 3) := by decide +kernel
theorem dX10_line_11 : decode cX10_line 11 = .ok (.iconst (-1), 1) := by decide +kernel
theorem dX10_line_12 : decode cX10_line 12 = .ok (.ireturn, 1) := by decide +kernel
theorem dX10_line_13 : decode cX10_line 13 = .ok (.iload_n 2, 1) := by decide +kernel
theorem dX10_line_14 : decode cX10_line 14 = .ok (.bipush 10, 2) := by decide +kernel
theorem dX10_line_16 : decode cX10_line 16 = .ok (.isub, 1) := by decide +kernel
theorem dX10_line_17 : decode cX10_line 17 = .ok (.invokestatic 120, 3) := by decide +kernel
theorem dX10_line_20 : decode cX10_line 20 = .ok (.ifCond .eq 18, 3) := by decide +kernel
theorem dX10_line_23 : decode cX10_line 23 = .ok (.aload_n 0, 1) := by decide +kernel
theorem dX10_line_24 : decode cX10_line 24 = .ok (.getfield 19, 3) := by decide +kernel
theorem dX10_line_27 : decode cX10_line 27 = .ok (.getfield 123, 3) := by decide +kernel
theorem dX10_line_30 : decode cX10_line 30 = .ok (.iload_n 1, 1) := by decide +kernel
theorem dX10_line_31 : decode cX10_line 31 = .ok (.aaload, 1) := by decide +kernel
theorem dX10_line_32 : decode cX10_line 32 = .ok (.iload_n 2, 1) := by decide +kernel
theorem dX10_line_33 : decode cX10_line 33 = .ok (.bipush 10, 2) := by decide +kernel
theorem dX10_line_35 : decode cX10_line 35 = .ok (.isub, 1) := by decide +kernel
theorem dX10_line_36 : decode cX10_line 36 = .ok (.iaload, 1) := by decide +kernel
theorem dX10_line_37 : decode cX10_line 37 = .ok (.ireturn, 1) := by decide +kernel
theorem dX10_line_38 : decode cX10_line 38 = .ok (.iload_n 2, 1) := by decide +kernel
theorem dX10_line_39 : decode cX10_line 39 = .ok (.tableswitch 55 0 2 #[25, 35, 45], 25) := by decide +kernel
theorem dX10_line_64 : decode cX10_line 64 = .ok (.aload_n 0, 1) := by decide +kernel
theorem dX10_line_65 : decode cX10_line 65 = .ok (.getfield 19, 3) := by decide +kernel
theorem dX10_line_68 : decode cX10_line 68 = .ok (.getfield 127, 3) := by decide +kernel
theorem dX10_line_71 : decode cX10_line 71 = .ok (.iload_n 1, 1) := by decide +kernel
theorem dX10_line_72 : decode cX10_line 72 = .ok (.iaload, 1) := by decide +kernel
theorem dX10_line_73 : decode cX10_line 73 = .ok (.ireturn, 1) := by decide +kernel
theorem dX10_line_74 : decode cX10_line 74 = .ok (.aload_n 0, 1) := by decide +kernel
theorem dX10_line_75 : decode cX10_line 75 = .ok (.getfield 19, 3) := by decide +kernel
theorem dX10_line_78 : decode cX10_line 78 = .ok (.getfield 131, 3) := by decide +kernel
theorem dX10_line_81 : decode cX10_line 81 = .ok (.iload_n 1, 1) := by decide +kernel
theorem dX10_line_82 : decode cX10_line 82 = .ok (.iaload, 1) := by decide +kernel
theorem dX10_line_83 : decode cX10_line 83 = .ok (.ireturn, 1) := by decide +kernel
theorem dX10_line_84 : decode cX10_line 84 = .ok (.aload_n 0, 1) := by decide +kernel
theorem dX10_line_85 : decode cX10_line 85 = .ok (.getfield 19, 3) := by decide +kernel
theorem dX10_line_88 : decode cX10_line 88 = .ok (.getfield 134, 3) := by decide +kernel
theorem dX10_line_91 : decode cX10_line 91 = .ok (.iload_n 1, 1) := by decide +kernel
theorem dX10_line_92 : decode cX10_line 92 = .ok (.iaload, 1) := by decide +kernel
theorem dX10_line_93 : decode cX10_line 93 = .ok (.ireturn, 1) := by decide +kernel
theorem dX10_line_94 : decode cX10_line 94 = .ok (.iconst (-1), 1) := by decide +kernel
theorem dX10_line_95 : decode cX10_line 95 = .ok (.ireturn, 1) := by decide +kernel
set_option maxRecDepth 100000 in
set_option maxHeartbeats 4000000 in
theorem M_X10_line (G : zG) (l : Launch) {a1 : Int32} {a2 : Int32} {σ : zS} {r : Int32} (hJ : J_X10_line a1 a2 σ = some r) : zMI G l yX10_line cX10_line 3 (some .int) (zrm 1 21) [.ref (G.1 + 0), .int a1, .int a2] 137 (zen G σ) r 137 (zen G σ) := by
  unfold J_X10_line at hJ
  refine zentI (by decide +kernel) (Nat.le_of_ble_eq_true rfl) ?_
  intro p e s m args below meth c C hret
  refine zr_sub [0, 1, 2] [(0, .ref (G.1 + 0)), (1, .int a1), (2, .int a2)] rfl ?_
  refine zr_aload_n C 0 dX10_line_0 rfl ?_
  obtain ⟨p1, hp1, hJ⟩ := zlet_e hJ
  obtain ⟨hp2, hJ⟩ := zg_e hJ
  refine zg_10_1 C 0 zk_0 zm_1_20 dX10_line_1 ?_
  refine zr_topr hp1 ?_
  refine zr_iload_n C 1 dX10_line_4 rfl ?_
  obtain ⟨r3, hr3, hJ⟩ := zb_e hJ
  refine zr_callVI C p1 (zk_lt (zkP_0 hp2) (by decide)) (zen_obj (zkP_0 hp2)) (rfl : zcl[3]? = some (RX3, TX3, 19)) (M_X3_hasLine G l hp2 hr3) zin_X3_hasLine zm_20_19 rfl rfl (Nat.le_of_ble_eq_true rfl) ⟨Nat.le_of_ble_eq_true rfl, Nat.le_of_ble_eq_true rfl⟩ ⟨Nat.le_of_ble_eq_true rfl, Nat.le_of_ble_eq_true rfl⟩ dX10_line_5 ?_
  refine zr_if_ne C 13 dX10_line_8 (by decide) (fun hc4 => ?_) (fun hc4 => ?_)
  · have hJ := zif' hc4 hJ
    refine zr_iload_n C 2 dX10_line_13 rfl ?_
    refine zr_bipush C dX10_line_14 (v := (10 : Int32)) (by decide) ?_
    refine zr_isub C dX10_line_16 ?_
    obtain ⟨r5, hr5, hJ⟩ := zb_e hJ
    refine zr_callSI C (M_X10_isEvent G l hr5) zin_X10_isEvent zm_14_23 rfl rfl (Nat.le_of_ble_eq_true rfl) ⟨Nat.le_of_ble_eq_true rfl, Nat.le_of_ble_eq_true rfl⟩ ⟨Nat.le_of_ble_eq_true rfl, Nat.le_of_ble_eq_true rfl⟩ dX10_line_17 ?_
    refine zr_if_eq C 38 dX10_line_20 (by decide) (fun hc6 => ?_) (fun hc6 => ?_)
    · have hJ := zif hc6 hJ
      refine zr_iload_n C 2 dX10_line_38 rfl ?_
      by_cases hs7 : a2 = (0 : Int32)
      · have hJ := zif hs7 hJ
        refine zr_tin C 64 dX10_line_39 (by rw [hs7]; decide) (by rw [hs7]; decide) (by rw [hs7]; rfl) (by decide) ?_
        refine zr_aload_n C 0 dX10_line_64 rfl ?_
        obtain ⟨p8, hp8, hJ⟩ := zlet_e hJ
        obtain ⟨hp9, hJ⟩ := zg_e hJ
        refine zg_10_1 C 0 zk_0 zm_1_20 dX10_line_65 ?_
        refine zr_topr hp8 ?_
        refine zg_3_1 C p8 (zkP_0 hp9) zm_20_16 dX10_line_68 ?_
        refine zr_iload_n C 1 dX10_line_71 rfl ?_
        obtain ⟨hg10, hJ⟩ := zg_e hJ
        refine zu_iald C (p8 + 1) (zkP_1 hp9) hg10 dX10_line_72 ?_
        exact zr_iret C hret (zs_e hJ) rfl rfl dX10_line_73
      have hJ := zif' hs7 hJ
      by_cases hs11 : a2 = (1 : Int32)
      · have hJ := zif hs11 hJ
        refine zr_tin C 74 dX10_line_39 (by rw [hs11]; decide) (by rw [hs11]; decide) (by rw [hs11]; rfl) (by decide) ?_
        refine zr_aload_n C 0 dX10_line_74 rfl ?_
        obtain ⟨p12, hp12, hJ⟩ := zlet_e hJ
        obtain ⟨hp13, hJ⟩ := zg_e hJ
        refine zg_10_1 C 0 zk_0 zm_1_20 dX10_line_75 ?_
        refine zr_topr hp12 ?_
        refine zg_3_2 C p12 (zkP_0 hp13) zm_20_17 dX10_line_78 ?_
        refine zr_iload_n C 1 dX10_line_81 rfl ?_
        obtain ⟨hg14, hJ⟩ := zg_e hJ
        refine zu_iald C (p12 + 2) (zkP_2 hp13) hg14 dX10_line_82 ?_
        exact zr_iret C hret (zs_e hJ) rfl rfl dX10_line_83
      have hJ := zif' hs11 hJ
      by_cases hs15 : a2 = (2 : Int32)
      · have hJ := zif hs15 hJ
        refine zr_tin C 84 dX10_line_39 (by rw [hs15]; decide) (by rw [hs15]; decide) (by rw [hs15]; rfl) (by decide) ?_
        refine zr_aload_n C 0 dX10_line_84 rfl ?_
        obtain ⟨p16, hp16, hJ⟩ := zlet_e hJ
        obtain ⟨hp17, hJ⟩ := zg_e hJ
        refine zg_10_1 C 0 zk_0 zm_1_20 dX10_line_85 ?_
        refine zr_topr hp16 ?_
        refine zg_3_3 C p16 (zkP_0 hp17) zm_20_18 dX10_line_88 ?_
        refine zr_iload_n C 1 dX10_line_91 rfl ?_
        obtain ⟨hg18, hJ⟩ := zg_e hJ
        refine zu_iald C (p16 + 3) (zkP_3 hp17) hg18 dX10_line_92 ?_
        exact zr_iret C hret (zs_e hJ) rfl rfl dX10_line_93
      have hJ := zif' hs15 hJ
      refine zr_tout C 94 dX10_line_39 (by have ghs7 := lv_neT hs7 (show ((0 : Int32)).toInt = 0 by decide); have ghs11 := lv_neT hs11 (show ((1 : Int32)).toInt = 1 by decide); have ghs15 := lv_neT hs15 (show ((2 : Int32)).toInt = 2 by decide); omega) (by decide) ?_
      refine zr_iconst C dX10_line_94 (v := (-1 : Int32)) (by decide) ?_
      exact zr_iret C hret (zs_e hJ) rfl rfl dX10_line_95
    · have hJ := zif' hc6 hJ
      refine zr_aload_n C 0 dX10_line_23 rfl ?_
      obtain ⟨p19, hp19, hJ⟩ := zlet_e hJ
      obtain ⟨hp20, hJ⟩ := zg_e hJ
      refine zg_10_1 C 0 zk_0 zm_1_20 dX10_line_24 ?_
      refine zr_topr hp19 ?_
      refine zg_3_4 C p19 (zkP_0 hp20) zm_20_15 dX10_line_27 ?_
      refine zr_iload_n C 1 dX10_line_30 rfl ?_
      obtain ⟨hg21, hJ⟩ := zg_e hJ
      refine zu_aald C (p19 + 4) (zkP_4 hp20) hg21 dX10_line_31 ?_
      refine zr_iload_n C 2 dX10_line_32 rfl ?_
      refine zr_bipush C dX10_line_33 (v := (10 : Int32)) (by decide) ?_
      refine zr_isub C dX10_line_35 ?_
      obtain ⟨hg22, hJ⟩ := zg_e hJ
      refine zu_iald C ((p19 + 4) + 1 + a1.toNatClampNeg) (zk_rowP hp20 (zi_lt hg21)) hg22 dX10_line_36 ?_
      exact zr_iret C hret (zs_e hJ) rfl rfl dX10_line_37
  · have hJ := zif hc4 hJ
    refine zr_iconst C dX10_line_11 (v := (-1 : Int32)) (by decide) ?_
    exact zr_iret C hret (zs_e hJ) rfl rfl dX10_line_12
theorem dX2_take_0 : decode cX2_take 0 = .ok (.aload_n 0, 1) := by decide +kernel
theorem dX2_take_1 : decode cX2_take 1 = .ok (.iconst 0, 1) := by decide +kernel
theorem dX2_take_2 : decode cX2_take 2 = .ok (.putfield 9, 3) := by decide +kernel
theorem dX2_take_5 : decode cX2_take 5 = .ok (.aload_n 0, 1) := by decide +kernel
theorem dX2_take_6 : decode cX2_take 6 = .ok (.iconst 0, 1) := by decide +kernel
theorem dX2_take_7 : decode cX2_take 7 = .ok (.putfield 15, 3) := by decide +kernel
theorem dX2_take_10 : decode cX2_take 10 = .ok (.iconst 0, 1) := by decide +kernel
theorem dX2_take_11 : decode cX2_take 11 = .ok (.istore 5, 2) := by decide +kernel
theorem dX2_take_13 : decode cX2_take 13 = .ok (.iconst 0, 1) := by decide +kernel
theorem dX2_take_14 : decode cX2_take 14 = .ok (.istore 6, 2) := by decide +kernel
theorem dX2_take_16 : decode cX2_take 16 = .ok (.iconst 0, 1) := by decide +kernel
theorem dX2_take_17 : decode cX2_take 17 = .ok (.istore 7, 2) := by decide +kernel
theorem dX2_take_19 : decode cX2_take 19 = .ok (.iload 7, 2) := by decide +kernel
theorem dX2_take_21 : decode cX2_take 21 = .ok (.aload_n 1, 1) := by decide +kernel
theorem dX2_take_22 : decode cX2_take 22 = .ok (.getfield 24, 3) := by decide +kernel
theorem dX2_take_25 : decode cX2_take 25 = .ok (.if_icmp .ge 75, 3) := by decide +kernel
theorem dX2_take_28 : decode cX2_take 28 = .ok (.aload_n 1, 1) := by decide +kernel
theorem dX2_take_29 : decode cX2_take 29 = .ok (.iload 7, 2) := by decide +kernel
theorem dX2_take_31 : decode cX2_take 31 = .ok (.iload_n 3, 1) := by decide +kernel
theorem dX2_take_32 : decode cX2_take 32 = .ok (.invokevirtual 29, 3) := by decide +kernel
theorem dX2_take_35 : decode cX2_take 35 = .ok (.istore 8, 2) := by decide +kernel
theorem dX2_take_37 : decode cX2_take 37 = .ok (.iload 8, 2) := by decide +kernel
theorem dX2_take_39 : decode cX2_take 39 = .ok (.iload 5, 2) := by decide +kernel
theorem dX2_take_41 : decode cX2_take 41 = .ok (.if_icmp .eq 34, 3) := by decide +kernel
theorem dX2_take_44 : decode cX2_take 44 = .ok (.iload 8, 2) := by decide +kernel
theorem dX2_take_46 : decode cX2_take 46 = .ok (.istore 5, 2) := by decide +kernel
theorem dX2_take_48 : decode cX2_take 48 = .ok (.aload_n 0, 1) := by decide +kernel
theorem dX2_take_49 : decode cX2_take 49 = .ok (.dup, 1) := by decide +kernel
theorem dX2_take_50 : decode cX2_take 50 = .ok (.getfield 9, 3) := by decide +kernel
theorem dX2_take_53 : decode cX2_take 53 = .ok (.iload 6, 2) := by decide +kernel
theorem dX2_take_55 : decode cX2_take 55 = .ok (.iload 4, 2) := by decide +kernel
theorem dX2_take_57 : decode cX2_take 57 = .ok (.iand, 1) := by decide +kernel
theorem dX2_take_58 : decode cX2_take 58 = .ok (.iadd, 1) := by decide +kernel
theorem dX2_take_59 : decode cX2_take 59 = .ok (.putfield 9, 3) := by decide +kernel
theorem dX2_take_62 : decode cX2_take 62 = .ok (.aload_n 0, 1) := by decide +kernel
theorem dX2_take_63 : decode cX2_take 63 = .ok (.dup, 1) := by decide +kernel
theorem dX2_take_64 : decode cX2_take 64 = .ok (.getfield 15, 3) := by decide +kernel
theorem dX2_take_67 : decode cX2_take 67 = .ok (.iconst 1, 1) := by decide +kernel
theorem dX2_take_68 : decode cX2_take 68 = .ok (.iadd, 1) := by decide +kernel
theorem dX2_take_69 : decode cX2_take 69 = .ok (.putfield 15, 3) := by decide +kernel
theorem dX2_take_72 : decode cX2_take 72 = .ok (.iconst 0, 1) := by decide +kernel
theorem dX2_take_73 : decode cX2_take 73 = .ok (.istore 6, 2) := by decide +kernel
theorem dX2_take_75 : decode cX2_take 75 = .ok (.iload 6, 2) := by decide +kernel
theorem dX2_take_77 : decode cX2_take 77 = .ok (.aload_n 1, 1) := by decide +kernel
theorem dX2_take_78 : decode cX2_take 78 = .ok (.getfield 33, 3) := by decide +kernel
theorem dX2_take_81 : decode cX2_take 81 = .ok (.aload_n 1, 1) := by decide +kernel
theorem dX2_take_82 : decode cX2_take 82 = .ok (.getfield 37, 3) := by decide +kernel
theorem dX2_take_85 : decode cX2_take 85 = .ok (.iload 7, 2) := by decide +kernel
theorem dX2_take_87 : decode cX2_take 87 = .ok (.baload, 1) := by decide +kernel
theorem dX2_take_88 : decode cX2_take 88 = .ok (.aaload, 1) := by decide +kernel
theorem dX2_take_89 : decode cX2_take 89 = .ok (.iload_n 2, 1) := by decide +kernel
theorem dX2_take_90 : decode cX2_take 90 = .ok (.iaload, 1) := by decide +kernel
theorem dX2_take_91 : decode cX2_take 91 = .ok (.iadd, 1) := by decide +kernel
theorem dX2_take_92 : decode cX2_take 92 = .ok (.istore 6, 2) := by decide +kernel
theorem dX2_take_94 : decode cX2_take 94 = .ok (.iinc 7 1, 3) := by decide +kernel
theorem dX2_take_97 : decode cX2_take 97 = .ok (.goto (-78), 3) := by decide +kernel
theorem dX2_take_100 : decode cX2_take 100 = .ok (.aload_n 0, 1) := by decide +kernel
theorem dX2_take_101 : decode cX2_take 101 = .ok (.dup, 1) := by decide +kernel
theorem dX2_take_102 : decode cX2_take 102 = .ok (.getfield 9, 3) := by decide +kernel
theorem dX2_take_105 : decode cX2_take 105 = .ok (.iload 6, 2) := by decide +kernel
theorem dX2_take_107 : decode cX2_take 107 = .ok (.iload 4, 2) := by decide +kernel
theorem dX2_take_109 : decode cX2_take 109 = .ok (.iand, 1) := by decide +kernel
theorem dX2_take_110 : decode cX2_take 110 = .ok (.iadd, 1) := by decide +kernel
theorem dX2_take_111 : decode cX2_take 111 = .ok (.putfield 9, 3) := by decide +kernel
theorem dX2_take_114 : decode cX2_take 114 = .ok (.aload_n 0, 1) := by decide +kernel
theorem dX2_take_115 : decode cX2_take 115 = .ok (.dup, 1) := by decide +kernel
theorem dX2_take_116 : decode cX2_take 116 = .ok (.getfield 15, 3) := by decide +kernel
theorem dX2_take_119 : decode cX2_take 119 = .ok (.iconst 1, 1) := by decide +kernel
theorem dX2_take_120 : decode cX2_take 120 = .ok (.iadd, 1) := by decide +kernel
theorem dX2_take_121 : decode cX2_take 121 = .ok (.putfield 15, 3) := by decide +kernel
theorem dX2_take_124 : decode cX2_take 124 = .ok (.return_, 1) := by decide +kernel
set_option maxRecDepth 100000 in
set_option maxHeartbeats 4000000 in
theorem M_X2_take (G : zG) (l : Launch) {p1 : Nat} (hp1 : zP p1 = true) {a2 : Int32} {a3 : Int32} {a4 : Int32} {σ : zS} {σ' : zS} (hJ : J_X2_take p1 a2 a3 a4 σ = some σ') : zMV G l yX2_take cX2_take 9 none (zrm 1 22) [.ref (G.1 + 91), .ref (G.1 + p1), .int a2, .int a3, .int a4] 137 (zen G σ) 137 (zen G σ') := by
  unfold J_X2_take at hJ
  refine zentV (by decide +kernel) (Nat.le_of_ble_eq_true rfl) ?_
  intro p e s m args below meth c C hret
  refine zr_sub [0, 1, 2, 3, 4] [(0, .ref (G.1 + 91)), (1, .ref (G.1 + p1)), (2, .int a2), (3, .int a3), (4, .int a4)] rfl ?_
  refine zr_aload_n C 0 dX2_take_0 rfl ?_
  refine zr_iconst C dX2_take_1 (v := (0 : Int32)) (by decide) ?_
  obtain ⟨σ1, hσ1, hJ⟩ := zlet_e hJ
  refine zp_2_0 C 91 zk_91 zm_6_7 hσ1 dX2_take_2 ?_
  refine zr_aload_n C 0 dX2_take_5 rfl ?_
  refine zr_iconst C dX2_take_6 (v := (0 : Int32)) (by decide) ?_
  obtain ⟨σ2, hσ2, hJ⟩ := zlet_e hJ
  refine zp_2_1 C 91 zk_91 zm_6_8 hσ2 dX2_take_7 ?_
  refine zr_iconst C dX2_take_10 (v := (0 : Int32)) (by decide) ?_
  refine zr_istore C [(5, .int (0 : Int32)), (0, .ref (G.1 + 91)), (1, .ref (G.1 + p1)), (2, .int a2), (3, .int a3), (4, .int a4)] dX2_take_11 (by decide) rfl ?_
  refine zr_iconst C dX2_take_13 (v := (0 : Int32)) (by decide) ?_
  refine zr_istore C [(6, .int (0 : Int32)), (5, .int (0 : Int32)), (0, .ref (G.1 + 91)), (1, .ref (G.1 + p1)), (2, .int a2), (3, .int a3), (4, .int a4)] dX2_take_14 (by decide) rfl ?_
  refine zr_iconst C dX2_take_16 (v := (0 : Int32)) (by decide) ?_
  refine zr_istore C [(7, .int (0 : Int32)), (6, .int (0 : Int32)), (5, .int (0 : Int32)), (0, .ref (G.1 + 91)), (1, .ref (G.1 + p1)), (2, .int a2), (3, .int a3), (4, .int a4)] dX2_take_17 (by decide) rfl ?_
  obtain ⟨k100, hk100, hJ⟩ := zlet_e hJ
  have hj100 : ∀ (w6_100 : Int32) (σ_100 : zS), k100 w6_100 σ_100 = some σ' → zU G 9 p l e (zrm 1 22) s m args below meth c (MQ below (va_Qv (fun (_ : Unit) => True) (fun _ t => zok G 137 (zen G σ') t) (zA G)) args s 0 0 (zA G)) σ_100 100 [(0, .ref (G.1 + 91)), (4, .int a4), (6, .int w6_100)] [] := by
    intro w6_100 σ_100 hJ
    rw [hk100] at hJ
    unfold D_X2_take_100 at hJ
    refine zr_aload_n C 0 dX2_take_100 rfl ?_
    refine zr_dup C dX2_take_101 rfl ?_
    refine zg_2_0 C 91 zk_91 zm_6_7 dX2_take_102 ?_
    refine zr_iload C 2 dX2_take_105 rfl ?_
    refine zr_iload C 1 dX2_take_107 rfl ?_
    refine zr_iand C dX2_take_109 ?_
    refine zr_iadd C dX2_take_110 ?_
    obtain ⟨σ3, hσ3, hJ⟩ := zlet_e hJ
    refine zp_2_0 C 91 zk_91 zm_6_7 hσ3 dX2_take_111 ?_
    refine zr_aload_n C 0 dX2_take_114 rfl ?_
    refine zr_dup C dX2_take_115 rfl ?_
    refine zg_2_1 C 91 zk_91 zm_6_8 dX2_take_116 ?_
    refine zr_iconst C dX2_take_119 (v := (1 : Int32)) (by decide) ?_
    refine zr_iadd C dX2_take_120 ?_
    obtain ⟨σ4, hσ4, hJ⟩ := zlet_e hJ
    refine zp_2_1 C 91 zk_91 zm_6_8 hσ4 dX2_take_121 ?_
    exact zr_vret C hret rfl (congrArg (zen G) (zs_e hJ)) dX2_take_124
  have hl19 : ∀ (n : Nat) (w5_19 : Int32) (w6_19 : Int32) (w7_19 : Int32) (σ_19 : zS), L_X2_take_19 p1 a2 a3 a4 k100 n w5_19 w6_19 w7_19 σ_19 = some σ' → zU G 9 p l e (zrm 1 22) s m args below meth c (MQ below (va_Qv (fun (_ : Unit) => True) (fun _ t => zok G 137 (zen G σ') t) (zA G)) args s 0 0 (zA G)) σ_19 19 [(0, .ref (G.1 + 91)), (1, .ref (G.1 + p1)), (2, .int a2), (3, .int a3), (4, .int a4), (5, .int w5_19), (6, .int w6_19), (7, .int w7_19)] [] := by
    intro n
    induction n with
    | zero =>
      intro w5_19 w6_19 w7_19 σ_19 hJ
      rw [L_X2_take_19] at hJ
      cases hJ
    | succ n ih =>
      intro w5_19 w6_19 w7_19 σ_19 hJ
      rw [L_X2_take_19] at hJ
      obtain ⟨r_19, hr_19, hJ⟩ := zlet_e hJ
      have ih19 : ∀ (w5_19 : Int32) (w6_19 : Int32) (w7_19 : Int32) (σ_19 : zS), r_19 w5_19 w6_19 w7_19 σ_19 = some σ' → zU G 9 p l e (zrm 1 22) s m args below meth c (MQ below (va_Qv (fun (_ : Unit) => True) (fun _ t => zok G 137 (zen G σ') t) (zA G)) args s 0 0 (zA G)) σ_19 19 [(0, .ref (G.1 + 91)), (1, .ref (G.1 + p1)), (2, .int a2), (3, .int a3), (4, .int a4), (5, .int w5_19), (6, .int w6_19), (7, .int w7_19)] [] := by
        rw [hr_19]
        exact ih
      refine zr_iload C 7 dX2_take_19 rfl ?_
      refine zr_aload_n C 1 dX2_take_21 rfl ?_
      refine zg_3_15 C p1 (zkP_0 hp1) zm_42_15 dX2_take_22 ?_
      refine zr_icmp_ge C 100 dX2_take_25 (by decide) (fun hc5 => ?_) (fun hc5 => ?_)
      · have hJ := zif hc5 hJ
        refine zr_sub [0, 4, 6] [(0, .ref (G.1 + 91)), (4, .int a4), (6, .int w6_19)] rfl ?_
        exact hj100 _ _ hJ
      · have hJ := zif' hc5 hJ
        refine zr_aload_n C 1 dX2_take_28 rfl ?_
        refine zr_iload C 7 dX2_take_29 rfl ?_
        refine zr_iload_n C 3 dX2_take_31 rfl ?_
        obtain ⟨r6, hr6, hJ⟩ := zb_e hJ
        refine zr_callVI C p1 (zk_lt (zkP_0 hp1) (by decide)) (zen_obj (zkP_0 hp1)) (rfl : zcl[3]? = some (RX3, TX3, 19)) (M_X3_sliceOf G l hp1 hr6) zin_X3_sliceOf zm_42_18 rfl rfl (Nat.le_of_ble_eq_true rfl) ⟨Nat.le_of_ble_eq_true rfl, Nat.le_of_ble_eq_true rfl⟩ ⟨Nat.le_of_ble_eq_true rfl, Nat.le_of_ble_eq_true rfl⟩ dX2_take_32 ?_
        refine zr_istore C [(8, .int r6), (0, .ref (G.1 + 91)), (1, .ref (G.1 + p1)), (2, .int a2), (3, .int a3), (4, .int a4), (5, .int w5_19), (6, .int w6_19), (7, .int w7_19)] dX2_take_35 (by decide) rfl ?_
        refine zr_iload C 0 dX2_take_37 rfl ?_
        refine zr_iload C 6 dX2_take_39 rfl ?_
        obtain ⟨k75, hk75, hJ⟩ := zlet_e hJ
        have hj75 : ∀ (w5_75 : Int32) (w6_75 : Int32) (σ_75 : zS), k75 w5_75 w6_75 σ_75 = some σ' → zU G 9 p l e (zrm 1 22) s m args below meth c (MQ below (va_Qv (fun (_ : Unit) => True) (fun _ t => zok G 137 (zen G σ') t) (zA G)) args s 0 0 (zA G)) σ_75 75 [(0, .ref (G.1 + 91)), (1, .ref (G.1 + p1)), (2, .int a2), (3, .int a3), (4, .int a4), (5, .int w5_75), (6, .int w6_75), (7, .int w7_19)] [] := by
          intro w5_75 w6_75 σ_75 hJ
          rw [hk75] at hJ
          unfold D_X2_take_75 at hJ
          refine zr_iload C 6 dX2_take_75 rfl ?_
          refine zr_aload_n C 1 dX2_take_77 rfl ?_
          refine zg_3_4 C p1 (zkP_0 hp1) zm_42_16 dX2_take_78 ?_
          refine zr_aload_n C 1 dX2_take_81 rfl ?_
          refine zg_3_17 C p1 (zkP_0 hp1) zm_42_17 dX2_take_82 ?_
          refine zr_iload C 7 dX2_take_85 rfl ?_
          obtain ⟨hg7, hJ⟩ := zg_e hJ
          refine zu_bald C (p1 + 28) (zkP_28 hp1) hg7 dX2_take_87 ?_
          obtain ⟨hg8, hJ⟩ := zg_e hJ
          refine zu_aald C (p1 + 4) (zkP_4 hp1) hg8 dX2_take_88 ?_
          refine zr_iload_n C 2 dX2_take_89 rfl ?_
          obtain ⟨hg9, hJ⟩ := zg_e hJ
          refine zu_iald C ((p1 + 4) + 1 + (σ_75.1 (p1 + 28) w7_19.toNatClampNeg).toNatClampNeg) (zk_rowP hp1 (zi_lt hg8)) hg9 dX2_take_90 ?_
          refine zr_iadd C dX2_take_91 ?_
          obtain ⟨v10, hv10, hJ⟩ := zlet_e hJ
          refine zr_topi hv10 ?_
          refine zr_istore C [(6, .int v10), (0, .ref (G.1 + 91)), (1, .ref (G.1 + p1)), (2, .int a2), (3, .int a3), (4, .int a4), (5, .int w5_75), (7, .int w7_19)] dX2_take_92 (by decide) rfl ?_
          obtain ⟨v11, hv11, hJ⟩ := zlet_e hJ
          refine zr_iinc C v11 7 [(7, .int v11), (6, .int v10), (0, .ref (G.1 + 91)), (1, .ref (G.1 + p1)), (2, .int a2), (3, .int a3), (4, .int a4), (5, .int w5_75)] dX2_take_94 rfl (hv11.trans (zinc (by decide))) (by decide) rfl ?_
          refine zr_goto C 19 dX2_take_97 (by decide) ?_
          refine zr_sub [2, 3, 4, 5, 6, 7, 1, 0] [(0, .ref (G.1 + 91)), (1, .ref (G.1 + p1)), (2, .int a2), (3, .int a3), (4, .int a4), (5, .int w5_75), (6, .int v10), (7, .int v11)] rfl ?_
          exact ih19 _ _ _ _ hJ
        refine zr_icmp_eq C 75 dX2_take_41 (by decide) (fun hc12 => ?_) (fun hc12 => ?_)
        · have hJ := zif hc12 hJ
          refine zr_sub [1, 2, 3, 4, 5, 6, 7, 8] [(0, .ref (G.1 + 91)), (1, .ref (G.1 + p1)), (2, .int a2), (3, .int a3), (4, .int a4), (5, .int w5_19), (6, .int w6_19), (7, .int w7_19)] rfl ?_
          exact hj75 _ _ _ hJ
        · have hJ := zif' hc12 hJ
          refine zr_iload C 0 dX2_take_44 rfl ?_
          refine zr_istore C [(5, .int r6), (8, .int r6), (0, .ref (G.1 + 91)), (1, .ref (G.1 + p1)), (2, .int a2), (3, .int a3), (4, .int a4), (6, .int w6_19), (7, .int w7_19)] dX2_take_46 (by decide) rfl ?_
          refine zr_aload_n C 2 dX2_take_48 rfl ?_
          refine zr_dup C dX2_take_49 rfl ?_
          refine zg_2_0 C 91 zk_91 zm_6_7 dX2_take_50 ?_
          refine zr_iload C 7 dX2_take_53 rfl ?_
          refine zr_iload C 6 dX2_take_55 rfl ?_
          refine zr_iand C dX2_take_57 ?_
          refine zr_iadd C dX2_take_58 ?_
          obtain ⟨σ13, hσ13, hJ⟩ := zlet_e hJ
          refine zp_2_0 C 91 zk_91 zm_6_7 hσ13 dX2_take_59 ?_
          refine zr_aload_n C 2 dX2_take_62 rfl ?_
          refine zr_dup C dX2_take_63 rfl ?_
          refine zg_2_1 C 91 zk_91 zm_6_8 dX2_take_64 ?_
          refine zr_iconst C dX2_take_67 (v := (1 : Int32)) (by decide) ?_
          refine zr_iadd C dX2_take_68 ?_
          obtain ⟨σ14, hσ14, hJ⟩ := zlet_e hJ
          refine zp_2_1 C 91 zk_91 zm_6_8 hσ14 dX2_take_69 ?_
          refine zr_iconst C dX2_take_72 (v := (0 : Int32)) (by decide) ?_
          refine zr_istore C [(6, .int (0 : Int32)), (5, .int r6), (8, .int r6), (0, .ref (G.1 + 91)), (1, .ref (G.1 + p1)), (2, .int a2), (3, .int a3), (4, .int a4), (7, .int w7_19)] dX2_take_73 (by decide) rfl ?_
          refine zr_sub [3, 4, 5, 6, 7, 1, 0, 8] [(0, .ref (G.1 + 91)), (1, .ref (G.1 + p1)), (2, .int a2), (3, .int a3), (4, .int a4), (5, .int r6), (6, .int (0 : Int32)), (7, .int w7_19)] rfl ?_
          exact hj75 _ _ _ hJ
  refine zr_sub [3, 4, 5, 6, 7, 2, 1, 0] [(0, .ref (G.1 + 91)), (1, .ref (G.1 + p1)), (2, .int a2), (3, .int a3), (4, .int a4), (5, .int (0 : Int32)), (6, .int (0 : Int32)), (7, .int (0 : Int32))] rfl ?_
  exact hl19 _ _ _ _ _ hJ
theorem dX10_looked_0 : decode cX10_looked 0 = .ok (.aload_n 0, 1) := by decide +kernel
theorem dX10_looked_1 : decode cX10_looked 1 = .ok (.getfield 45, 3) := by decide +kernel
theorem dX10_looked_4 : decode cX10_looked 4 = .ok (.iload_n 1, 1) := by decide +kernel
theorem dX10_looked_5 : decode cX10_looked 5 = .ok (.iload_n 2, 1) := by decide +kernel
theorem dX10_looked_6 : decode cX10_looked 6 = .ok (.invokevirtual 313, 3) := by decide +kernel
theorem dX10_looked_9 : decode cX10_looked 9 = .ok (.ifCond .eq 21, 3) := by decide +kernel
theorem dX10_looked_12 : decode cX10_looked 12 = .ok (.iload_n 3, 1) := by decide +kernel
theorem dX10_looked_13 : decode cX10_looked 13 = .ok (.invokestatic 240, 3) := by decide +kernel
theorem dX10_looked_16 : decode cX10_looked 16 = .ok (.ifCond .eq 14, 3) := by decide +kernel
theorem dX10_looked_19 : decode cX10_looked 19 = .ok (.iload 4, 2) := by decide +kernel
theorem dX10_looked_21 : decode cX10_looked 21 = .ok (.ifCond .lt 9, 3) := by decide +kernel
theorem dX10_looked_24 : decode cX10_looked 24 = .ok (.iload 4, 2) := by decide +kernel
theorem dX10_looked_26 : decode cX10_looked 26 = .ok (.iconst 2, 1) := by decide +kernel
theorem dX10_looked_27 : decode cX10_looked 27 = .ok (.if_icmp .le 5, 3) := by decide +kernel
theorem dX10_looked_30 : decode cX10_looked 30 = .ok (.iconst (-1), 1) := by decide +kernel
theorem dX10_looked_31 : decode cX10_looked 31 = .ok (.ireturn, 1) := by decide +kernel
theorem dX10_looked_32 : decode cX10_looked 32 = .ok (.aload_n 0, 1) := by decide +kernel
theorem dX10_looked_33 : decode cX10_looked 33 = .ok (.getfield 66, 3) := by decide +kernel
theorem dX10_looked_36 : decode cX10_looked 36 = .ok (.aload_n 0, 1) := by decide +kernel
theorem dX10_looked_37 : decode cX10_looked 37 = .ok (.getfield 19, 3) := by decide +kernel
theorem dX10_looked_40 : decode cX10_looked 40 = .ok (.iload_n 2, 1) := by decide +kernel
theorem dX10_looked_41 : decode cX10_looked 41 = .ok (.iload_n 3, 1) := by decide +kernel
theorem dX10_looked_42 : decode cX10_looked 42 = .ok (.aload_n 0, 1) := by decide +kernel
theorem dX10_looked_43 : decode cX10_looked 43 = .ok (.getfield 45, 3) := by decide +kernel
theorem dX10_looked_46 : decode cX10_looked 46 = .ok (.iload_n 1, 1) := by decide +kernel
theorem dX10_looked_47 : decode cX10_looked 47 = .ok (.invokevirtual 316, 3) := by decide +kernel
theorem dX10_looked_50 : decode cX10_looked 50 = .ok (.invokevirtual 319, 3) := by decide +kernel
theorem dX10_looked_53 : decode cX10_looked 53 = .ok (.iload 4, 2) := by decide +kernel
theorem dX10_looked_55 : decode cX10_looked 55 = .ok (.lookupswitch 50 #[(0, 25), (1, 33)], 25) := by decide +kernel
theorem dX10_looked_80 : decode cX10_looked 80 = .ok (.aload_n 0, 1) := by decide +kernel
theorem dX10_looked_81 : decode cX10_looked 81 = .ok (.getfield 66, 3) := by decide +kernel
theorem dX10_looked_84 : decode cX10_looked 84 = .ok (.getfield 322, 3) := by decide +kernel
theorem dX10_looked_87 : decode cX10_looked 87 = .ok (.ireturn, 1) := by decide +kernel
theorem dX10_looked_88 : decode cX10_looked 88 = .ok (.aload_n 0, 1) := by decide +kernel
theorem dX10_looked_89 : decode cX10_looked 89 = .ok (.getfield 19, 3) := by decide +kernel
theorem dX10_looked_92 : decode cX10_looked 92 = .ok (.iload_n 2, 1) := by decide +kernel
theorem dX10_looked_93 : decode cX10_looked 93 = .ok (.invokevirtual 148, 3) := by decide +kernel
theorem dX10_looked_96 : decode cX10_looked 96 = .ok (.aload_n 0, 1) := by decide +kernel
theorem dX10_looked_97 : decode cX10_looked 97 = .ok (.getfield 66, 3) := by decide +kernel
theorem dX10_looked_100 : decode cX10_looked 100 = .ok (.getfield 322, 3) := by decide +kernel
theorem dX10_looked_103 : decode cX10_looked 103 = .ok (.isub, 1) := by decide +kernel
theorem dX10_looked_104 : decode cX10_looked 104 = .ok (.ireturn, 1) := by decide +kernel
theorem dX10_looked_105 : decode cX10_looked 105 = .ok (.aload_n 0, 1) := by decide +kernel
theorem dX10_looked_106 : decode cX10_looked 106 = .ok (.getfield 66, 3) := by decide +kernel
theorem dX10_looked_109 : decode cX10_looked 109 = .ok (.getfield 325, 3) := by decide +kernel
theorem dX10_looked_112 : decode cX10_looked 112 = .ok (.ireturn, 1) := by decide +kernel
set_option maxRecDepth 100000 in
set_option maxHeartbeats 4000000 in
theorem M_X10_looked (G : zG) (l : Launch) {a1 : Int32} {a2 : Int32} {a3 : Int32} {a4 : Int32} {σ : zS} {r : Int32} {σ' : zS} (hJ : J_X10_looked a1 a2 a3 a4 σ = some (r, σ')) : zMI G l yX10_looked cX10_looked 5 (some .int) (zrm 3 63) [.ref (G.1 + 0), .int a1, .int a2, .int a3, .int a4] 137 (zen G σ) r 137 (zen G σ') := by
  unfold J_X10_looked at hJ
  refine zentI (by decide +kernel) (Nat.le_of_ble_eq_true rfl) ?_
  intro p e s m args below meth c C hret
  refine zr_sub [0, 1, 2, 3, 4] [(0, .ref (G.1 + 0)), (1, .int a1), (2, .int a2), (3, .int a3), (4, .int a4)] rfl ?_
  refine zr_aload_n C 0 dX10_looked_0 rfl ?_
  refine zg_10_5 C 0 zk_0 zm_2_9 dX10_looked_1 ?_
  refine zr_iload_n C 1 dX10_looked_4 rfl ?_
  refine zr_iload_n C 2 dX10_looked_5 rfl ?_
  obtain ⟨r1, hr1, hJ⟩ := zb_e hJ
  refine zr_callVI C 82 (zk_lt zk_82 (by decide)) (zen_obj zk_82) (rfl : zcl[0]? = some (RX0, TX0, 7)) (M_X0_counts G l hr1) zin_X0_counts zm_41_12 rfl rfl (Nat.le_of_ble_eq_true rfl) ⟨Nat.le_of_ble_eq_true rfl, Nat.le_of_ble_eq_true rfl⟩ ⟨Nat.le_of_ble_eq_true rfl, Nat.le_of_ble_eq_true rfl⟩ dX10_looked_6 ?_
  refine zr_if_eq C 30 dX10_looked_9 (by decide) (fun hc2 => ?_) (fun hc2 => ?_)
  · have hJ := zif hc2 hJ
    refine zr_iconst C dX10_looked_30 (v := (-1 : Int32)) (by decide) ?_
    exact zr_iret C hret (Prod.mk.inj (zs_e hJ)).1 rfl (congrArg (zen G) (Prod.mk.inj (zs_e hJ)).2) dX10_looked_31
  · have hJ := zif' hc2 hJ
    refine zr_iload_n C 3 dX10_looked_12 rfl ?_
    obtain ⟨r3, hr3, hJ⟩ := zb_e hJ
    refine zr_callSI C (M_X10_isSlice G l hr3) zin_X10_isSlice zm_34_4 rfl rfl (Nat.le_of_ble_eq_true rfl) ⟨Nat.le_of_ble_eq_true rfl, Nat.le_of_ble_eq_true rfl⟩ ⟨Nat.le_of_ble_eq_true rfl, Nat.le_of_ble_eq_true rfl⟩ dX10_looked_13 ?_
    refine zr_if_eq C 30 dX10_looked_16 (by decide) (fun hc4 => ?_) (fun hc4 => ?_)
    · have hJ := zif hc4 hJ
      refine zr_iconst C dX10_looked_30 (v := (-1 : Int32)) (by decide) ?_
      exact zr_iret C hret (Prod.mk.inj (zs_e hJ)).1 rfl (congrArg (zen G) (Prod.mk.inj (zs_e hJ)).2) dX10_looked_31
    · have hJ := zif' hc4 hJ
      refine zr_iload C 4 dX10_looked_19 rfl ?_
      refine zr_if_lt C 30 dX10_looked_21 (by decide) (fun hc5 => ?_) (fun hc5 => ?_)
      · have hJ := zif hc5 hJ
        refine zr_iconst C dX10_looked_30 (v := (-1 : Int32)) (by decide) ?_
        exact zr_iret C hret (Prod.mk.inj (zs_e hJ)).1 rfl (congrArg (zen G) (Prod.mk.inj (zs_e hJ)).2) dX10_looked_31
      · have hJ := zif' hc5 hJ
        refine zr_iload C 4 dX10_looked_24 rfl ?_
        refine zr_iconst C dX10_looked_26 (v := (2 : Int32)) (by decide) ?_
        refine zr_icmp_le C 32 dX10_looked_27 (by decide) (fun hc6 => ?_) (fun hc6 => ?_)
        · have hJ := zif hc6 hJ
          refine zr_aload_n C 0 dX10_looked_32 rfl ?_
          refine zg_10_8 C 0 zk_0 zm_2_21 dX10_looked_33 ?_
          refine zr_aload_n C 0 dX10_looked_36 rfl ?_
          obtain ⟨p7, hp7, hJ⟩ := zlet_e hJ
          obtain ⟨hp8, hJ⟩ := zg_e hJ
          refine zg_10_1 C 0 zk_0 zm_1_20 dX10_looked_37 ?_
          refine zr_topr hp7 ?_
          refine zr_iload_n C 2 dX10_looked_40 rfl ?_
          refine zr_iload_n C 3 dX10_looked_41 rfl ?_
          refine zr_aload_n C 0 dX10_looked_42 rfl ?_
          refine zg_10_5 C 0 zk_0 zm_2_9 dX10_looked_43 ?_
          refine zr_iload_n C 1 dX10_looked_46 rfl ?_
          obtain ⟨r9, hr9, hJ⟩ := zb_e hJ
          refine zr_callVI C 82 (zk_lt zk_82 (by decide)) (zen_obj zk_82) (rfl : zcl[0]? = some (RX0, TX0, 7)) (M_X0_greatest G l hr9) zin_X0_greatest zm_41_17 rfl rfl (Nat.le_of_ble_eq_true rfl) ⟨Nat.le_of_ble_eq_true rfl, Nat.le_of_ble_eq_true rfl⟩ ⟨Nat.le_of_ble_eq_true rfl, Nat.le_of_ble_eq_true rfl⟩ dX10_looked_47 ?_
          obtain ⟨σ11, hr10, hJ⟩ := zb_e hJ
          refine zr_callVV C 91 (zk_lt zk_91 (by decide)) (zen_obj zk_91) (rfl : zcl[2]? = some (RX2, TX2, 4)) (M_X2_take G l hp8 hr10) zin_X2_take zm_42_11 rfl rfl (Nat.le_of_ble_eq_true rfl) ⟨Nat.le_of_ble_eq_true rfl, Nat.le_of_ble_eq_true rfl⟩ ⟨Nat.le_of_ble_eq_true rfl, Nat.le_of_ble_eq_true rfl⟩ dX10_looked_50 ?_
          refine zr_iload C 4 dX10_looked_53 rfl ?_
          by_cases hs12 : a4 = (0 : Int32)
          · have hJ := zif hs12 hJ
            refine zr_lsw C 80 dX10_looked_55 (by decide) (off := 25) (by rw [hs12]; decide) (by decide) ?_
            refine zr_aload_n C 0 dX10_looked_80 rfl ?_
            refine zg_10_8 C 0 zk_0 zm_2_21 dX10_looked_81 ?_
            refine zg_2_0 C 91 zk_91 zm_42_9 dX10_looked_84 ?_
            exact zr_iret C hret (Prod.mk.inj (zs_e hJ)).1 rfl (congrArg (zen G) (Prod.mk.inj (zs_e hJ)).2) dX10_looked_87
          have hJ := zif' hs12 hJ
          by_cases hs13 : a4 = (1 : Int32)
          · have hJ := zif hs13 hJ
            refine zr_lsw C 88 dX10_looked_55 (by decide) (off := 33) (by rw [hs13]; decide) (by decide) ?_
            refine zr_aload_n C 0 dX10_looked_88 rfl ?_
            obtain ⟨p14, hp14, hJ⟩ := zlet_e hJ
            obtain ⟨hp15, hJ⟩ := zg_e hJ
            refine zg_10_1 C 0 zk_0 zm_1_20 dX10_looked_89 ?_
            refine zr_topr hp14 ?_
            refine zr_iload_n C 2 dX10_looked_92 rfl ?_
            obtain ⟨r16, hr16, hJ⟩ := zb_e hJ
            refine zr_callVI C p14 (zk_lt (zkP_0 hp15) (by decide)) (zen_obj (zkP_0 hp15)) (rfl : zcl[3]? = some (RX3, TX3, 19)) (M_X3_total G l hp15 hr16) zin_X3_total zm_22_11 rfl rfl (Nat.le_of_ble_eq_true rfl) ⟨Nat.le_of_ble_eq_true rfl, Nat.le_of_ble_eq_true rfl⟩ ⟨Nat.le_of_ble_eq_true rfl, Nat.le_of_ble_eq_true rfl⟩ dX10_looked_93 ?_
            refine zr_aload_n C 0 dX10_looked_96 rfl ?_
            refine zg_10_8 C 0 zk_0 zm_2_21 dX10_looked_97 ?_
            refine zg_2_0 C 91 zk_91 zm_42_9 dX10_looked_100 ?_
            refine zr_isub C dX10_looked_103 ?_
            exact zr_iret C hret (Prod.mk.inj (zs_e hJ)).1 rfl (congrArg (zen G) (Prod.mk.inj (zs_e hJ)).2) dX10_looked_104
          have hJ := zif' hs13 hJ
          refine zr_lsw C 105 dX10_looked_55 (by decide) (off := 50) (show Op.lookupswitch.offset [(0, 25), (1, 33)] (50) a4.toInt = 50 by rw [lv_osw hs12 (by decide), lv_osw hs13 (by decide)]; rfl) (by decide) ?_
          refine zr_aload_n C 0 dX10_looked_105 rfl ?_
          refine zg_10_8 C 0 zk_0 zm_2_21 dX10_looked_106 ?_
          refine zg_2_1 C 91 zk_91 zm_42_10 dX10_looked_109 ?_
          exact zr_iret C hret (Prod.mk.inj (zs_e hJ)).1 rfl (congrArg (zen G) (Prod.mk.inj (zs_e hJ)).2) dX10_looked_112
        · have hJ := zif' hc6 hJ
          refine zr_iconst C dX10_looked_30 (v := (-1 : Int32)) (by decide) ?_
          exact zr_iret C hret (Prod.mk.inj (zs_e hJ)).1 rfl (congrArg (zen G) (Prod.mk.inj (zs_e hJ)).2) dX10_looked_31
theorem dX3_hasLoop_0 : decode cX3_hasLoop 0 = .ok (.iload_n 1, 1) := by decide +kernel
theorem dX3_hasLoop_1 : decode cX3_hasLoop 1 = .ok (.ifCond .lt 15, 3) := by decide +kernel
theorem dX3_hasLoop_4 : decode cX3_hasLoop 4 = .ok (.iload_n 1, 1) := by decide +kernel
theorem dX3_hasLoop_5 : decode cX3_hasLoop 5 = .ok (.aload_n 0, 1) := by decide +kernel
theorem dX3_hasLoop_6 : decode cX3_hasLoop 6 = .ok (.getfield 30, 3) := by decide +kernel
theorem dX3_hasLoop_9 : decode cX3_hasLoop 9 = .ok (.if_icmp .ge 7, 3) := by decide +kernel
theorem dX3_hasLoop_12 : decode cX3_hasLoop 12 = .ok (.iconst 1, 1) := by decide +kernel
theorem dX3_hasLoop_13 : decode cX3_hasLoop 13 = .ok (.goto 4, 3) := by decide +kernel
theorem dX3_hasLoop_16 : decode cX3_hasLoop 16 = .ok (.iconst 0, 1) := by decide +kernel
theorem dX3_hasLoop_17 : decode cX3_hasLoop 17 = .ok (.ireturn, 1) := by decide +kernel
set_option maxRecDepth 100000 in
set_option maxHeartbeats 4000000 in
theorem M_X3_hasLoop (G : zG) (l : Launch) {p0 : Nat} (hp0 : zP p0 = true) {a1 : Int32} {σ : zS} {r : Int32} (hJ : J_X3_hasLoop p0 a1 σ = some r) : zMI G l yX3_hasLoop cX3_hasLoop 2 (some .boolean) (zrm 0 0) [.ref (G.1 + p0), .int a1] 137 (zen G σ) r 137 (zen G σ) := by
  unfold J_X3_hasLoop at hJ
  refine zentI (by decide +kernel) (Nat.le_of_ble_eq_true rfl) ?_
  intro p e s m args below meth c C hret
  refine zr_sub [0, 1] [(0, .ref (G.1 + p0)), (1, .int a1)] rfl ?_
  refine zr_iload_n C 1 dX3_hasLoop_0 rfl ?_
  refine zr_if_lt C 16 dX3_hasLoop_1 (by decide) (fun hc1 => ?_) (fun hc1 => ?_)
  · have hJ := zif hc1 hJ
    refine zr_iconst C dX3_hasLoop_16 (v := (0 : Int32)) (by decide) ?_
    exact zr_zret C hret (zs_e hJ) rfl rfl rfl dX3_hasLoop_17
  · have hJ := zif' hc1 hJ
    refine zr_iload_n C 1 dX3_hasLoop_4 rfl ?_
    refine zr_aload_n C 0 dX3_hasLoop_5 rfl ?_
    refine zg_3_5 C p0 (zkP_0 hp0) zm_3_23 dX3_hasLoop_6 ?_
    refine zr_icmp_ge C 16 dX3_hasLoop_9 (by decide) (fun hc2 => ?_) (fun hc2 => ?_)
    · have hJ := zif hc2 hJ
      refine zr_iconst C dX3_hasLoop_16 (v := (0 : Int32)) (by decide) ?_
      exact zr_zret C hret (zs_e hJ) rfl rfl rfl dX3_hasLoop_17
    · have hJ := zif' hc2 hJ
      refine zr_iconst C dX3_hasLoop_12 (v := (1 : Int32)) (by decide) ?_
      refine zr_goto C 17 dX3_hasLoop_13 (by decide) ?_
      exact zr_zret C hret (zs_e hJ) rfl rfl rfl dX3_hasLoop_17
theorem dX3_linesIn_0 : decode cX3_linesIn 0 = .ok (.iconst 1, 1) := by decide +kernel
theorem dX3_linesIn_1 : decode cX3_linesIn 1 = .ok (.aload_n 0, 1) := by decide +kernel
theorem dX3_linesIn_2 : decode cX3_linesIn 2 = .ok (.getfield 45, 3) := by decide +kernel
theorem dX3_linesIn_5 : decode cX3_linesIn 5 = .ok (.iload_n 1, 1) := by decide +kernel
theorem dX3_linesIn_6 : decode cX3_linesIn 6 = .ok (.iaload, 1) := by decide +kernel
theorem dX3_linesIn_7 : decode cX3_linesIn 7 = .ok (.ishl, 1) := by decide +kernel
theorem dX3_linesIn_8 : decode cX3_linesIn 8 = .ok (.iconst 1, 1) := by decide +kernel
theorem dX3_linesIn_9 : decode cX3_linesIn 9 = .ok (.aload_n 0, 1) := by decide +kernel
theorem dX3_linesIn_10 : decode cX3_linesIn 10 = .ok (.getfield 42, 3) := by decide +kernel
theorem dX3_linesIn_13 : decode cX3_linesIn 13 = .ok (.iload_n 1, 1) := by decide +kernel
theorem dX3_linesIn_14 : decode cX3_linesIn 14 = .ok (.iaload, 1) := by decide +kernel
theorem dX3_linesIn_15 : decode cX3_linesIn 15 = .ok (.ishl, 1) := by decide +kernel
theorem dX3_linesIn_16 : decode cX3_linesIn 16 = .ok (.isub, 1) := by decide +kernel
theorem dX3_linesIn_17 : decode cX3_linesIn 17 = .ok (.ireturn, 1) := by decide +kernel
set_option maxRecDepth 100000 in
set_option maxHeartbeats 4000000 in
theorem M_X3_linesIn (G : zG) (l : Launch) {p0 : Nat} (hp0 : zP p0 = true) {a1 : Int32} {σ : zS} {r : Int32} (hJ : J_X3_linesIn p0 a1 σ = some r) : zMI G l yX3_linesIn cX3_linesIn 2 (some .int) (zrm 0 0) [.ref (G.1 + p0), .int a1] 137 (zen G σ) r 137 (zen G σ) := by
  unfold J_X3_linesIn at hJ
  refine zentI (by decide +kernel) (Nat.le_of_ble_eq_true rfl) ?_
  intro p e s m args below meth c C hret
  refine zr_sub [0, 1] [(0, .ref (G.1 + p0)), (1, .int a1)] rfl ?_
  refine zr_iconst C dX3_linesIn_0 (v := (1 : Int32)) (by decide) ?_
  refine zr_aload_n C 0 dX3_linesIn_1 rfl ?_
  refine zg_3_10 C p0 (zkP_0 hp0) zm_4_4 dX3_linesIn_2 ?_
  refine zr_iload_n C 1 dX3_linesIn_5 rfl ?_
  obtain ⟨hg1, hJ⟩ := zg_e hJ
  refine zu_iald C (p0 + 25) (zkP_25 hp0) hg1 dX3_linesIn_6 ?_
  refine zr_ishl C dX3_linesIn_7 ?_
  refine zr_iconst C dX3_linesIn_8 (v := (1 : Int32)) (by decide) ?_
  refine zr_aload_n C 0 dX3_linesIn_9 rfl ?_
  refine zg_3_9 C p0 (zkP_0 hp0) zm_4_3 dX3_linesIn_10 ?_
  refine zr_iload_n C 1 dX3_linesIn_13 rfl ?_
  obtain ⟨hg2, hJ⟩ := zg_e hJ
  refine zu_iald C (p0 + 24) (zkP_24 hp0) hg2 dX3_linesIn_14 ?_
  refine zr_ishl C dX3_linesIn_15 ?_
  refine zr_isub C dX3_linesIn_16 ?_
  exact zr_iret C hret (zs_e hJ) rfl rfl dX3_linesIn_17
theorem dX3_stepsIn_0 : decode cX3_stepsIn 0 = .ok (.iconst 0, 1) := by decide +kernel
theorem dX3_stepsIn_1 : decode cX3_stepsIn 1 = .ok (.istore_n 2, 1) := by decide +kernel
theorem dX3_stepsIn_2 : decode cX3_stepsIn 2 = .ok (.aload_n 0, 1) := by decide +kernel
theorem dX3_stepsIn_3 : decode cX3_stepsIn 3 = .ok (.getfield 42, 3) := by decide +kernel
theorem dX3_stepsIn_6 : decode cX3_stepsIn 6 = .ok (.iload_n 1, 1) := by decide +kernel
theorem dX3_stepsIn_7 : decode cX3_stepsIn 7 = .ok (.iaload, 1) := by decide +kernel
theorem dX3_stepsIn_8 : decode cX3_stepsIn 8 = .ok (.istore_n 3, 1) := by decide +kernel
theorem dX3_stepsIn_9 : decode cX3_stepsIn 9 = .ok (.iload_n 3, 1) := by decide +kernel
theorem dX3_stepsIn_10 : decode cX3_stepsIn 10 = .ok (.aload_n 0, 1) := by decide +kernel
theorem dX3_stepsIn_11 : decode cX3_stepsIn 11 = .ok (.getfield 45, 3) := by decide +kernel
theorem dX3_stepsIn_14 : decode cX3_stepsIn 14 = .ok (.iload_n 1, 1) := by decide +kernel
theorem dX3_stepsIn_15 : decode cX3_stepsIn 15 = .ok (.iaload, 1) := by decide +kernel
theorem dX3_stepsIn_16 : decode cX3_stepsIn 16 = .ok (.if_icmp .ge 18, 3) := by decide +kernel
theorem dX3_stepsIn_19 : decode cX3_stepsIn 19 = .ok (.iload_n 2, 1) := by decide +kernel
theorem dX3_stepsIn_20 : decode cX3_stepsIn 20 = .ok (.aload_n 0, 1) := by decide +kernel
theorem dX3_stepsIn_21 : decode cX3_stepsIn 21 = .ok (.getfield 19, 3) := by decide +kernel
theorem dX3_stepsIn_24 : decode cX3_stepsIn 24 = .ok (.iload_n 3, 1) := by decide +kernel
theorem dX3_stepsIn_25 : decode cX3_stepsIn 25 = .ok (.iaload, 1) := by decide +kernel
theorem dX3_stepsIn_26 : decode cX3_stepsIn 26 = .ok (.iadd, 1) := by decide +kernel
theorem dX3_stepsIn_27 : decode cX3_stepsIn 27 = .ok (.istore_n 2, 1) := by decide +kernel
theorem dX3_stepsIn_28 : decode cX3_stepsIn 28 = .ok (.iinc 3 1, 3) := by decide +kernel
theorem dX3_stepsIn_31 : decode cX3_stepsIn 31 = .ok (.goto (-22), 3) := by decide +kernel
theorem dX3_stepsIn_34 : decode cX3_stepsIn 34 = .ok (.iload_n 2, 1) := by decide +kernel
theorem dX3_stepsIn_35 : decode cX3_stepsIn 35 = .ok (.ireturn, 1) := by decide +kernel
set_option maxRecDepth 100000 in
set_option maxHeartbeats 4000000 in
theorem M_X3_stepsIn (G : zG) (l : Launch) {p0 : Nat} (hp0 : zP p0 = true) {a1 : Int32} {σ : zS} {r : Int32} (hJ : J_X3_stepsIn p0 a1 σ = some r) : zMI G l yX3_stepsIn cX3_stepsIn 4 (some .int) (zrm 0 0) [.ref (G.1 + p0), .int a1] 137 (zen G σ) r 137 (zen G σ) := by
  unfold J_X3_stepsIn at hJ
  refine zentI (by decide +kernel) (Nat.le_of_ble_eq_true rfl) ?_
  intro p e s m args below meth c C hret
  refine zr_sub [0, 1] [(0, .ref (G.1 + p0)), (1, .int a1)] rfl ?_
  refine zr_iconst C dX3_stepsIn_0 (v := (0 : Int32)) (by decide) ?_
  refine zr_istore_n C [(2, .int (0 : Int32)), (0, .ref (G.1 + p0)), (1, .int a1)] dX3_stepsIn_1 (by decide) rfl ?_
  refine zr_aload_n C 1 dX3_stepsIn_2 rfl ?_
  refine zg_3_9 C p0 (zkP_0 hp0) zm_4_3 dX3_stepsIn_3 ?_
  refine zr_iload_n C 2 dX3_stepsIn_6 rfl ?_
  obtain ⟨hg1, hJ⟩ := zg_e hJ
  refine zu_iald C (p0 + 24) (zkP_24 hp0) hg1 dX3_stepsIn_7 ?_
  obtain ⟨v2, hv2, hJ⟩ := zlet_e hJ
  refine zr_topi hv2 ?_
  refine zr_istore_n C [(3, .int v2), (2, .int (0 : Int32)), (0, .ref (G.1 + p0)), (1, .int a1)] dX3_stepsIn_8 (by decide) rfl ?_
  have hl9 : ∀ (n : Nat) (w2_9 : Int32) (w3_9 : Int32), L_X3_stepsIn_9 p0 a1 σ n w2_9 w3_9 = some r → zU G 4 p l e (zrm 0 0) s m args below meth c (MQ below (va_Qi (fun x (_ : Unit) => x = r) (fun _ t => zok G 137 (zen G σ) t) (zA G)) args s 0 0 (zA G)) σ 9 [(0, .ref (G.1 + p0)), (1, .int a1), (2, .int w2_9), (3, .int w3_9)] [] := by
    intro n
    induction n with
    | zero =>
      intro w2_9 w3_9 hJ
      rw [L_X3_stepsIn_9] at hJ
      cases hJ
    | succ n ih =>
      intro w2_9 w3_9 hJ
      rw [L_X3_stepsIn_9] at hJ
      obtain ⟨r_9, hr_9, hJ⟩ := zlet_e hJ
      have ih9 : ∀ (w2_9 : Int32) (w3_9 : Int32), r_9 w2_9 w3_9 = some r → zU G 4 p l e (zrm 0 0) s m args below meth c (MQ below (va_Qi (fun x (_ : Unit) => x = r) (fun _ t => zok G 137 (zen G σ) t) (zA G)) args s 0 0 (zA G)) σ 9 [(0, .ref (G.1 + p0)), (1, .int a1), (2, .int w2_9), (3, .int w3_9)] [] := by
        rw [hr_9]
        exact ih
      refine zr_iload_n C 3 dX3_stepsIn_9 rfl ?_
      refine zr_aload_n C 0 dX3_stepsIn_10 rfl ?_
      refine zg_3_10 C p0 (zkP_0 hp0) zm_4_4 dX3_stepsIn_11 ?_
      refine zr_iload_n C 1 dX3_stepsIn_14 rfl ?_
      obtain ⟨hg3, hJ⟩ := zg_e hJ
      refine zu_iald C (p0 + 25) (zkP_25 hp0) hg3 dX3_stepsIn_15 ?_
      refine zr_icmp_ge C 34 dX3_stepsIn_16 (by decide) (fun hc4 => ?_) (fun hc4 => ?_)
      · have hJ := zif hc4 hJ
        refine zr_iload_n C 2 dX3_stepsIn_34 rfl ?_
        exact zr_iret C hret (zs_e hJ) rfl rfl dX3_stepsIn_35
      · have hJ := zif' hc4 hJ
        refine zr_iload_n C 2 dX3_stepsIn_19 rfl ?_
        refine zr_aload_n C 0 dX3_stepsIn_20 rfl ?_
        refine zg_3_2 C p0 (zkP_0 hp0) zm_3_19 dX3_stepsIn_21 ?_
        refine zr_iload_n C 3 dX3_stepsIn_24 rfl ?_
        obtain ⟨hg5, hJ⟩ := zg_e hJ
        refine zu_iald C (p0 + 2) (zkP_2 hp0) hg5 dX3_stepsIn_25 ?_
        refine zr_iadd C dX3_stepsIn_26 ?_
        obtain ⟨v6, hv6, hJ⟩ := zlet_e hJ
        refine zr_topi hv6 ?_
        refine zr_istore_n C [(2, .int v6), (0, .ref (G.1 + p0)), (1, .int a1), (3, .int w3_9)] dX3_stepsIn_27 (by decide) rfl ?_
        obtain ⟨v7, hv7, hJ⟩ := zlet_e hJ
        refine zr_iinc C v7 3 [(3, .int v7), (2, .int v6), (0, .ref (G.1 + p0)), (1, .int a1)] dX3_stepsIn_28 rfl (hv7.trans (zinc (by decide))) (by decide) rfl ?_
        refine zr_goto C 9 dX3_stepsIn_31 (by decide) ?_
        refine zr_sub [2, 3, 1, 0] [(0, .ref (G.1 + p0)), (1, .int a1), (2, .int v6), (3, .int v7)] rfl ?_
        exact ih9 _ _ hJ
  refine zr_sub [2, 3, 1, 0] [(0, .ref (G.1 + p0)), (1, .int a1), (2, .int (0 : Int32)), (3, .int v2)] rfl ?_
  exact hl9 _ _ _ hJ
theorem dX10_loop_0 : decode cX10_loop 0 = .ok (.aload_n 0, 1) := by decide +kernel
theorem dX10_loop_1 : decode cX10_loop 1 = .ok (.getfield 19, 3) := by decide +kernel
theorem dX10_loop_4 : decode cX10_loop 4 = .ok (.iload_n 1, 1) := by decide +kernel
theorem dX10_loop_5 : decode cX10_loop 5 = .ok (.invokevirtual 159, 3) := by decide +kernel
theorem dX10_loop_8 : decode cX10_loop 8 = .ok (.ifCond .ne 5, 3) := by decide +kernel
theorem dX10_loop_11 : decode cX10_loop 11 = .ok (.iconst (-1), 1) := by decide +kernel
theorem dX10_loop_12 : decode cX10_loop 12 = .ok (.ireturn, 1) := by decide +kernel
theorem dX10_loop_13 : decode cX10_loop 13 = .ok (.iload_n 2, 1) := by decide +kernel
theorem dX10_loop_14 : decode cX10_loop 14 = .ok (.tableswitch 82 0 4 #[34, 44, 54, 63, 73], 34) := by decide +kernel
theorem dX10_loop_48 : decode cX10_loop 48 = .ok (.aload_n 0, 1) := by decide +kernel
theorem dX10_loop_49 : decode cX10_loop 49 = .ok (.getfield 19, 3) := by decide +kernel
theorem dX10_loop_52 : decode cX10_loop 52 = .ok (.getfield 162, 3) := by decide +kernel
theorem dX10_loop_55 : decode cX10_loop 55 = .ok (.iload_n 1, 1) := by decide +kernel
theorem dX10_loop_56 : decode cX10_loop 56 = .ok (.iaload, 1) := by decide +kernel
theorem dX10_loop_57 : decode cX10_loop 57 = .ok (.ireturn, 1) := by decide +kernel
theorem dX10_loop_58 : decode cX10_loop 58 = .ok (.aload_n 0, 1) := by decide +kernel
theorem dX10_loop_59 : decode cX10_loop 59 = .ok (.getfield 19, 3) := by decide +kernel
theorem dX10_loop_62 : decode cX10_loop 62 = .ok (.getfield 165, 3) := by decide +kernel
theorem dX10_loop_65 : decode cX10_loop 65 = .ok (.iload_n 1, 1) := by decide +kernel
theorem dX10_loop_66 : decode cX10_loop 66 = .ok (.iaload, 1) := by decide +kernel
theorem dX10_loop_67 : decode cX10_loop 67 = .ok (.ireturn, 1) := by decide +kernel
theorem dX10_loop_68 : decode cX10_loop 68 = .ok (.aload_n 0, 1) := by decide +kernel
theorem dX10_loop_69 : decode cX10_loop 69 = .ok (.getfield 19, 3) := by decide +kernel
theorem dX10_loop_72 : decode cX10_loop 72 = .ok (.iload_n 1, 1) := by decide +kernel
theorem dX10_loop_73 : decode cX10_loop 73 = .ok (.invokevirtual 168, 3) := by decide +kernel
theorem dX10_loop_76 : decode cX10_loop 76 = .ok (.ireturn, 1) := by decide +kernel
theorem dX10_loop_77 : decode cX10_loop 77 = .ok (.aload_n 0, 1) := by decide +kernel
theorem dX10_loop_78 : decode cX10_loop 78 = .ok (.getfield 19, 3) := by decide +kernel
theorem dX10_loop_81 : decode cX10_loop 81 = .ok (.getfield 171, 3) := by decide +kernel
theorem dX10_loop_84 : decode cX10_loop 84 = .ok (.iload_n 1, 1) := by decide +kernel
theorem dX10_loop_85 : decode cX10_loop 85 = .ok (.iaload, 1) := by decide +kernel
theorem dX10_loop_86 : decode cX10_loop 86 = .ok (.ireturn, 1) := by decide +kernel
theorem dX10_loop_87 : decode cX10_loop 87 = .ok (.aload_n 0, 1) := by decide +kernel
theorem dX10_loop_88 : decode cX10_loop 88 = .ok (.getfield 19, 3) := by decide +kernel
theorem dX10_loop_91 : decode cX10_loop 91 = .ok (.iload_n 1, 1) := by decide +kernel
theorem dX10_loop_92 : decode cX10_loop 92 = .ok (.invokevirtual 174, 3) := by decide +kernel
theorem dX10_loop_95 : decode cX10_loop 95 = .ok (.ireturn, 1) := by decide +kernel
theorem dX10_loop_96 : decode cX10_loop 96 = .ok (.iconst (-1), 1) := by decide +kernel
theorem dX10_loop_97 : decode cX10_loop 97 = .ok (.ireturn, 1) := by decide +kernel
set_option maxRecDepth 100000 in
set_option maxHeartbeats 4000000 in
theorem M_X10_loop (G : zG) (l : Launch) {a1 : Int32} {a2 : Int32} {σ : zS} {r : Int32} (hJ : J_X10_loop a1 a2 σ = some r) : zMI G l yX10_loop cX10_loop 3 (some .int) (zrm 1 23) [.ref (G.1 + 0), .int a1, .int a2] 137 (zen G σ) r 137 (zen G σ) := by
  unfold J_X10_loop at hJ
  refine zentI (by decide +kernel) (Nat.le_of_ble_eq_true rfl) ?_
  intro p e s m args below meth c C hret
  refine zr_sub [0, 1, 2] [(0, .ref (G.1 + 0)), (1, .int a1), (2, .int a2)] rfl ?_
  refine zr_aload_n C 0 dX10_loop_0 rfl ?_
  obtain ⟨p1, hp1, hJ⟩ := zlet_e hJ
  obtain ⟨hp2, hJ⟩ := zg_e hJ
  refine zg_10_1 C 0 zk_0 zm_1_20 dX10_loop_1 ?_
  refine zr_topr hp1 ?_
  refine zr_iload_n C 1 dX10_loop_4 rfl ?_
  obtain ⟨r3, hr3, hJ⟩ := zb_e hJ
  refine zr_callVI C p1 (zk_lt (zkP_0 hp2) (by decide)) (zen_obj (zkP_0 hp2)) (rfl : zcl[3]? = some (RX3, TX3, 19)) (M_X3_hasLoop G l hp2 hr3) zin_X3_hasLoop zm_24_19 rfl rfl (Nat.le_of_ble_eq_true rfl) ⟨Nat.le_of_ble_eq_true rfl, Nat.le_of_ble_eq_true rfl⟩ ⟨Nat.le_of_ble_eq_true rfl, Nat.le_of_ble_eq_true rfl⟩ dX10_loop_5 ?_
  refine zr_if_ne C 13 dX10_loop_8 (by decide) (fun hc4 => ?_) (fun hc4 => ?_)
  · have hJ := zif' hc4 hJ
    refine zr_iload_n C 2 dX10_loop_13 rfl ?_
    by_cases hs5 : a2 = (0 : Int32)
    · have hJ := zif hs5 hJ
      refine zr_tin C 48 dX10_loop_14 (by rw [hs5]; decide) (by rw [hs5]; decide) (by rw [hs5]; rfl) (by decide) ?_
      refine zr_aload_n C 0 dX10_loop_48 rfl ?_
      obtain ⟨p6, hp6, hJ⟩ := zlet_e hJ
      obtain ⟨hp7, hJ⟩ := zg_e hJ
      refine zg_10_1 C 0 zk_0 zm_1_20 dX10_loop_49 ?_
      refine zr_topr hp6 ?_
      refine zg_3_6 C p6 (zkP_0 hp7) zm_24_16 dX10_loop_52 ?_
      refine zr_iload_n C 1 dX10_loop_55 rfl ?_
      obtain ⟨hg8, hJ⟩ := zg_e hJ
      refine zu_iald C (p6 + 21) (zkP_21 hp7) hg8 dX10_loop_56 ?_
      exact zr_iret C hret (zs_e hJ) rfl rfl dX10_loop_57
    have hJ := zif' hs5 hJ
    by_cases hs9 : a2 = (1 : Int32)
    · have hJ := zif hs9 hJ
      refine zr_tin C 58 dX10_loop_14 (by rw [hs9]; decide) (by rw [hs9]; decide) (by rw [hs9]; rfl) (by decide) ?_
      refine zr_aload_n C 0 dX10_loop_58 rfl ?_
      obtain ⟨p10, hp10, hJ⟩ := zlet_e hJ
      obtain ⟨hp11, hJ⟩ := zg_e hJ
      refine zg_10_1 C 0 zk_0 zm_1_20 dX10_loop_59 ?_
      refine zr_topr hp10 ?_
      refine zg_3_7 C p10 (zkP_0 hp11) zm_24_17 dX10_loop_62 ?_
      refine zr_iload_n C 1 dX10_loop_65 rfl ?_
      obtain ⟨hg12, hJ⟩ := zg_e hJ
      refine zu_iald C (p10 + 22) (zkP_22 hp11) hg12 dX10_loop_66 ?_
      exact zr_iret C hret (zs_e hJ) rfl rfl dX10_loop_67
    have hJ := zif' hs9 hJ
    by_cases hs13 : a2 = (2 : Int32)
    · have hJ := zif hs13 hJ
      refine zr_tin C 68 dX10_loop_14 (by rw [hs13]; decide) (by rw [hs13]; decide) (by rw [hs13]; rfl) (by decide) ?_
      refine zr_aload_n C 0 dX10_loop_68 rfl ?_
      obtain ⟨p14, hp14, hJ⟩ := zlet_e hJ
      obtain ⟨hp15, hJ⟩ := zg_e hJ
      refine zg_10_1 C 0 zk_0 zm_1_20 dX10_loop_69 ?_
      refine zr_topr hp14 ?_
      refine zr_iload_n C 1 dX10_loop_72 rfl ?_
      obtain ⟨r16, hr16, hJ⟩ := zb_e hJ
      refine zr_callVI C p14 (zk_lt (zkP_0 hp15) (by decide)) (zen_obj (zkP_0 hp15)) (rfl : zcl[3]? = some (RX3, TX3, 19)) (M_X3_linesIn G l hp15 hr16) zin_X3_linesIn zm_24_23 rfl rfl (Nat.le_of_ble_eq_true rfl) ⟨Nat.le_of_ble_eq_true rfl, Nat.le_of_ble_eq_true rfl⟩ ⟨Nat.le_of_ble_eq_true rfl, Nat.le_of_ble_eq_true rfl⟩ dX10_loop_73 ?_
      exact zr_iret C hret (zs_e hJ) rfl rfl dX10_loop_76
    have hJ := zif' hs13 hJ
    by_cases hs17 : a2 = (3 : Int32)
    · have hJ := zif hs17 hJ
      refine zr_tin C 77 dX10_loop_14 (by rw [hs17]; decide) (by rw [hs17]; decide) (by rw [hs17]; rfl) (by decide) ?_
      refine zr_aload_n C 0 dX10_loop_77 rfl ?_
      obtain ⟨p18, hp18, hJ⟩ := zlet_e hJ
      obtain ⟨hp19, hJ⟩ := zg_e hJ
      refine zg_10_1 C 0 zk_0 zm_1_20 dX10_loop_78 ?_
      refine zr_topr hp18 ?_
      refine zg_3_8 C p18 (zkP_0 hp19) zm_24_18 dX10_loop_81 ?_
      refine zr_iload_n C 1 dX10_loop_84 rfl ?_
      obtain ⟨hg20, hJ⟩ := zg_e hJ
      refine zu_iald C (p18 + 23) (zkP_23 hp19) hg20 dX10_loop_85 ?_
      exact zr_iret C hret (zs_e hJ) rfl rfl dX10_loop_86
    have hJ := zif' hs17 hJ
    by_cases hs21 : a2 = (4 : Int32)
    · have hJ := zif hs21 hJ
      refine zr_tin C 87 dX10_loop_14 (by rw [hs21]; decide) (by rw [hs21]; decide) (by rw [hs21]; rfl) (by decide) ?_
      refine zr_aload_n C 0 dX10_loop_87 rfl ?_
      obtain ⟨p22, hp22, hJ⟩ := zlet_e hJ
      obtain ⟨hp23, hJ⟩ := zg_e hJ
      refine zg_10_1 C 0 zk_0 zm_1_20 dX10_loop_88 ?_
      refine zr_topr hp22 ?_
      refine zr_iload_n C 1 dX10_loop_91 rfl ?_
      obtain ⟨r24, hr24, hJ⟩ := zb_e hJ
      refine zr_callVI C p22 (zk_lt (zkP_0 hp23) (by decide)) (zen_obj (zkP_0 hp23)) (rfl : zcl[3]? = some (RX3, TX3, 19)) (M_X3_stepsIn G l hp23 hr24) zin_X3_stepsIn zm_25_3 rfl rfl (Nat.le_of_ble_eq_true rfl) ⟨Nat.le_of_ble_eq_true rfl, Nat.le_of_ble_eq_true rfl⟩ ⟨Nat.le_of_ble_eq_true rfl, Nat.le_of_ble_eq_true rfl⟩ dX10_loop_92 ?_
      exact zr_iret C hret (zs_e hJ) rfl rfl dX10_loop_95
    have hJ := zif' hs21 hJ
    refine zr_tout C 96 dX10_loop_14 (by have ghs5 := lv_neT hs5 (show ((0 : Int32)).toInt = 0 by decide); have ghs9 := lv_neT hs9 (show ((1 : Int32)).toInt = 1 by decide); have ghs13 := lv_neT hs13 (show ((2 : Int32)).toInt = 2 by decide); have ghs17 := lv_neT hs17 (show ((3 : Int32)).toInt = 3 by decide); have ghs21 := lv_neT hs21 (show ((4 : Int32)).toInt = 4 by decide); omega) (by decide) ?_
    refine zr_iconst C dX10_loop_96 (v := (-1 : Int32)) (by decide) ?_
    exact zr_iret C hret (zs_e hJ) rfl rfl dX10_loop_97
  · have hJ := zif hc4 hJ
    refine zr_iconst C dX10_loop_11 (v := (-1 : Int32)) (by decide) ?_
    exact zr_iret C hret (zs_e hJ) rfl rfl dX10_loop_12
theorem dX10_mask_0 : decode cX10_mask 0 = .ok (.aload_n 0, 1) := by decide +kernel
theorem dX10_mask_1 : decode cX10_mask 1 = .ok (.getfield 45, 3) := by decide +kernel
theorem dX10_mask_4 : decode cX10_mask 4 = .ok (.iload_n 1, 1) := by decide +kernel
theorem dX10_mask_5 : decode cX10_mask 5 = .ok (.invokevirtual 208, 3) := by decide +kernel
theorem dX10_mask_8 : decode cX10_mask 8 = .ok (.ifCond .eq 10, 3) := by decide +kernel
theorem dX10_mask_11 : decode cX10_mask 11 = .ok (.iload_n 2, 1) := by decide +kernel
theorem dX10_mask_12 : decode cX10_mask 12 = .ok (.invokestatic 211, 3) := by decide +kernel
theorem dX10_mask_15 : decode cX10_mask 15 = .ok (.ifCond .ne 5, 3) := by decide +kernel
theorem dX10_mask_18 : decode cX10_mask 18 = .ok (.iconst (-1), 1) := by decide +kernel
theorem dX10_mask_19 : decode cX10_mask 19 = .ok (.ireturn, 1) := by decide +kernel
theorem dX10_mask_20 : decode cX10_mask 20 = .ok (.aload_n 0, 1) := by decide +kernel
theorem dX10_mask_21 : decode cX10_mask 21 = .ok (.getfield 45, 3) := by decide +kernel
theorem dX10_mask_24 : decode cX10_mask 24 = .ok (.getfield 214, 3) := by decide +kernel
theorem dX10_mask_27 : decode cX10_mask 27 = .ok (.iload_n 1, 1) := by decide +kernel
theorem dX10_mask_28 : decode cX10_mask 28 = .ok (.iaload, 1) := by decide +kernel
theorem dX10_mask_29 : decode cX10_mask 29 = .ok (.istore_n 3, 1) := by decide +kernel
theorem dX10_mask_30 : decode cX10_mask 30 = .ok (.aload_n 0, 1) := by decide +kernel
theorem dX10_mask_31 : decode cX10_mask 31 = .ok (.getfield 45, 3) := by decide +kernel
theorem dX10_mask_34 : decode cX10_mask 34 = .ok (.getfield 214, 3) := by decide +kernel
theorem dX10_mask_37 : decode cX10_mask 37 = .ok (.iload_n 1, 1) := by decide +kernel
theorem dX10_mask_38 : decode cX10_mask 38 = .ok (.iload_n 2, 1) := by decide +kernel
theorem dX10_mask_39 : decode cX10_mask 39 = .ok (.iastore, 1) := by decide +kernel
theorem dX10_mask_40 : decode cX10_mask 40 = .ok (.aload_n 0, 1) := by decide +kernel
theorem dX10_mask_41 : decode cX10_mask 41 = .ok (.getfield 45, 3) := by decide +kernel
theorem dX10_mask_44 : decode cX10_mask 44 = .ok (.iconst 0, 1) := by decide +kernel
theorem dX10_mask_45 : decode cX10_mask 45 = .ok (.putfield 217, 3) := by decide +kernel
theorem dX10_mask_48 : decode cX10_mask 48 = .ok (.iload_n 3, 1) := by decide +kernel
theorem dX10_mask_49 : decode cX10_mask 49 = .ok (.ireturn, 1) := by decide +kernel
set_option maxRecDepth 100000 in
set_option maxHeartbeats 4000000 in
theorem M_X10_mask (G : zG) (l : Launch) {a1 : Int32} {a2 : Int32} {σ : zS} {r : Int32} {σ' : zS} (hJ : J_X10_mask a1 a2 σ = some (r, σ')) : zMI G l yX10_mask cX10_mask 4 (some .int) (zrm 1 21) [.ref (G.1 + 0), .int a1, .int a2] 137 (zen G σ) r 137 (zen G σ') := by
  unfold J_X10_mask at hJ
  refine zentI (by decide +kernel) (Nat.le_of_ble_eq_true rfl) ?_
  intro p e s m args below meth c C hret
  refine zr_sub [0, 1, 2] [(0, .ref (G.1 + 0)), (1, .int a1), (2, .int a2)] rfl ?_
  refine zr_aload_n C 0 dX10_mask_0 rfl ?_
  refine zg_10_5 C 0 zk_0 zm_2_9 dX10_mask_1 ?_
  refine zr_iload_n C 1 dX10_mask_4 rfl ?_
  obtain ⟨r1, hr1, hJ⟩ := zb_e hJ
  refine zr_callVI C 82 (zk_lt zk_82 (by decide)) (zen_obj zk_82) (rfl : zcl[0]? = some (RX0, TX0, 7)) (M_X0_has G l hr1) zin_X0_has zm_29_19 rfl rfl (Nat.le_of_ble_eq_true rfl) ⟨Nat.le_of_ble_eq_true rfl, Nat.le_of_ble_eq_true rfl⟩ ⟨Nat.le_of_ble_eq_true rfl, Nat.le_of_ble_eq_true rfl⟩ dX10_mask_5 ?_
  refine zr_if_eq C 18 dX10_mask_8 (by decide) (fun hc2 => ?_) (fun hc2 => ?_)
  · have hJ := zif hc2 hJ
    refine zr_iconst C dX10_mask_18 (v := (-1 : Int32)) (by decide) ?_
    exact zr_iret C hret (Prod.mk.inj (zs_e hJ)).1 rfl (congrArg (zen G) (Prod.mk.inj (zs_e hJ)).2) dX10_mask_19
  · have hJ := zif' hc2 hJ
    refine zr_iload_n C 2 dX10_mask_11 rfl ?_
    obtain ⟨r3, hr3, hJ⟩ := zb_e hJ
    refine zr_callSI C (M_X10_isSet G l hr3) zin_X10_isSet zm_14_20 rfl rfl (Nat.le_of_ble_eq_true rfl) ⟨Nat.le_of_ble_eq_true rfl, Nat.le_of_ble_eq_true rfl⟩ ⟨Nat.le_of_ble_eq_true rfl, Nat.le_of_ble_eq_true rfl⟩ dX10_mask_12 ?_
    refine zr_if_ne C 20 dX10_mask_15 (by decide) (fun hc4 => ?_) (fun hc4 => ?_)
    · have hJ := zif' hc4 hJ
      refine zr_aload_n C 0 dX10_mask_20 rfl ?_
      refine zg_10_5 C 0 zk_0 zm_2_9 dX10_mask_21 ?_
      refine zg_0_1 C 82 zk_82 zm_29_17 dX10_mask_24 ?_
      refine zr_iload_n C 1 dX10_mask_27 rfl ?_
      obtain ⟨hg5, hJ⟩ := zg_e hJ
      refine zu_iald C 83 zk_83 hg5 dX10_mask_28 ?_
      obtain ⟨v6, hv6, hJ⟩ := zlet_e hJ
      refine zr_topi hv6 ?_
      refine zr_istore_n C [(3, .int v6), (0, .ref (G.1 + 0)), (1, .int a1), (2, .int a2)] dX10_mask_29 (by decide) rfl ?_
      refine zr_aload_n C 1 dX10_mask_30 rfl ?_
      refine zg_10_5 C 0 zk_0 zm_2_9 dX10_mask_31 ?_
      refine zg_0_1 C 82 zk_82 zm_29_17 dX10_mask_34 ?_
      refine zr_iload_n C 2 dX10_mask_37 rfl ?_
      refine zr_iload_n C 3 dX10_mask_38 rfl ?_
      obtain ⟨hg7, hJ⟩ := zg_e hJ
      obtain ⟨σ8, hσ8, hJ⟩ := zlet_e hJ
      refine zv_iast C 83 zk_83 hg7 hσ8 dX10_mask_39 ?_
      refine zr_aload_n C 1 dX10_mask_40 rfl ?_
      refine zg_10_5 C 0 zk_0 zm_2_9 dX10_mask_41 ?_
      refine zr_iconst C dX10_mask_44 (v := (0 : Int32)) (by decide) ?_
      obtain ⟨σ9, hσ9, hJ⟩ := zlet_e hJ
      refine zp_0_6 C 82 zk_82 zm_29_18 rfl rfl hσ9 dX10_mask_45 ?_
      refine zr_iload_n C 0 dX10_mask_48 rfl ?_
      exact zr_iret C hret (Prod.mk.inj (zs_e hJ)).1 rfl (congrArg (zen G) (Prod.mk.inj (zs_e hJ)).2) dX10_mask_49
    · have hJ := zif hc4 hJ
      refine zr_iconst C dX10_mask_18 (v := (-1 : Int32)) (by decide) ?_
      exact zr_iret C hret (Prod.mk.inj (zs_e hJ)).1 rfl (congrArg (zen G) (Prod.mk.inj (zs_e hJ)).2) dX10_mask_19
theorem dX10_over_0 : decode cX10_over 0 = .ok (.aload_n 0, 1) := by decide +kernel
theorem dX10_over_1 : decode cX10_over 1 = .ok (.getfield 45, 3) := by decide +kernel
theorem dX10_over_4 : decode cX10_over 4 = .ok (.iload_n 1, 1) := by decide +kernel
theorem dX10_over_5 : decode cX10_over 5 = .ok (.iload_n 2, 1) := by decide +kernel
theorem dX10_over_6 : decode cX10_over 6 = .ok (.invokevirtual 313, 3) := by decide +kernel
theorem dX10_over_9 : decode cX10_over 9 = .ok (.ifCond .eq 27, 3) := by decide +kernel
theorem dX10_over_12 : decode cX10_over 12 = .ok (.iload_n 3, 1) := by decide +kernel
theorem dX10_over_13 : decode cX10_over 13 = .ok (.ifCond .lt 23, 3) := by decide +kernel
theorem dX10_over_16 : decode cX10_over 16 = .ok (.iload_n 3, 1) := by decide +kernel
theorem dX10_over_17 : decode cX10_over 17 = .ok (.aload_n 0, 1) := by decide +kernel
theorem dX10_over_18 : decode cX10_over 18 = .ok (.getfield 45, 3) := by decide +kernel
theorem dX10_over_21 : decode cX10_over 21 = .ok (.iload_n 1, 1) := by decide +kernel
theorem dX10_over_22 : decode cX10_over 22 = .ok (.invokevirtual 316, 3) := by decide +kernel
theorem dX10_over_25 : decode cX10_over 25 = .ok (.if_icmp .gt 11, 3) := by decide +kernel
theorem dX10_over_28 : decode cX10_over 28 = .ok (.iload 4, 2) := by decide +kernel
theorem dX10_over_30 : decode cX10_over 30 = .ok (.invokestatic 152, 3) := by decide +kernel
theorem dX10_over_33 : decode cX10_over 33 = .ok (.ifCond .ne 5, 3) := by decide +kernel
theorem dX10_over_36 : decode cX10_over 36 = .ok (.iconst (-1), 1) := by decide +kernel
theorem dX10_over_37 : decode cX10_over 37 = .ok (.ireturn, 1) := by decide +kernel
theorem dX10_over_38 : decode cX10_over 38 = .ok (.iload_n 3, 1) := by decide +kernel
theorem dX10_over_39 : decode cX10_over 39 = .ok (.aload_n 0, 1) := by decide +kernel
theorem dX10_over_40 : decode cX10_over 40 = .ok (.getfield 19, 3) := by decide +kernel
theorem dX10_over_43 : decode cX10_over 43 = .ok (.iload_n 2, 1) := by decide +kernel
theorem dX10_over_44 : decode cX10_over 44 = .ok (.invokevirtual 148, 3) := by decide +kernel
theorem dX10_over_47 : decode cX10_over 47 = .ok (.iadd, 1) := by decide +kernel
theorem dX10_over_48 : decode cX10_over 48 = .ok (.istore 5, 2) := by decide +kernel
theorem dX10_over_50 : decode cX10_over 50 = .ok (.iload 4, 2) := by decide +kernel
theorem dX10_over_52 : decode cX10_over 52 = .ok (.ifCond .ne 17, 3) := by decide +kernel
theorem dX10_over_55 : decode cX10_over 55 = .ok (.iload 5, 2) := by decide +kernel
theorem dX10_over_57 : decode cX10_over 57 = .ok (.aload_n 0, 1) := by decide +kernel
theorem dX10_over_58 : decode cX10_over 58 = .ok (.getfield 45, 3) := by decide +kernel
theorem dX10_over_61 : decode cX10_over 61 = .ok (.iload_n 1, 1) := by decide +kernel
theorem dX10_over_62 : decode cX10_over 62 = .ok (.invokevirtual 316, 3) := by decide +kernel
theorem dX10_over_65 : decode cX10_over 65 = .ok (.iand, 1) := by decide +kernel
theorem dX10_over_66 : decode cX10_over 66 = .ok (.goto 15, 3) := by decide +kernel
theorem dX10_over_69 : decode cX10_over 69 = .ok (.iload 5, 2) := by decide +kernel
theorem dX10_over_71 : decode cX10_over 71 = .ok (.aload_n 0, 1) := by decide +kernel
theorem dX10_over_72 : decode cX10_over 72 = .ok (.getfield 45, 3) := by decide +kernel
theorem dX10_over_75 : decode cX10_over 75 = .ok (.getfield 221, 3) := by decide +kernel
theorem dX10_over_78 : decode cX10_over 78 = .ok (.iload_n 1, 1) := by decide +kernel
theorem dX10_over_79 : decode cX10_over 79 = .ok (.iaload, 1) := by decide +kernel
theorem dX10_over_80 : decode cX10_over 80 = .ok (.ishr, 1) := by decide +kernel
theorem dX10_over_81 : decode cX10_over 81 = .ok (.ireturn, 1) := by decide +kernel
set_option maxRecDepth 100000 in
set_option maxHeartbeats 4000000 in
theorem M_X10_over (G : zG) (l : Launch) {a1 : Int32} {a2 : Int32} {a3 : Int32} {a4 : Int32} {σ : zS} {r : Int32} (hJ : J_X10_over a1 a2 a3 a4 σ = some r) : zMI G l yX10_over cX10_over 6 (some .int) (zrm 3 63) [.ref (G.1 + 0), .int a1, .int a2, .int a3, .int a4] 137 (zen G σ) r 137 (zen G σ) := by
  unfold J_X10_over at hJ
  refine zentI (by decide +kernel) (Nat.le_of_ble_eq_true rfl) ?_
  intro p e s m args below meth c C hret
  refine zr_sub [0, 1, 2, 3, 4] [(0, .ref (G.1 + 0)), (1, .int a1), (2, .int a2), (3, .int a3), (4, .int a4)] rfl ?_
  refine zr_aload_n C 0 dX10_over_0 rfl ?_
  refine zg_10_5 C 0 zk_0 zm_2_9 dX10_over_1 ?_
  refine zr_iload_n C 1 dX10_over_4 rfl ?_
  refine zr_iload_n C 2 dX10_over_5 rfl ?_
  obtain ⟨r1, hr1, hJ⟩ := zb_e hJ
  refine zr_callVI C 82 (zk_lt zk_82 (by decide)) (zen_obj zk_82) (rfl : zcl[0]? = some (RX0, TX0, 7)) (M_X0_counts G l hr1) zin_X0_counts zm_41_12 rfl rfl (Nat.le_of_ble_eq_true rfl) ⟨Nat.le_of_ble_eq_true rfl, Nat.le_of_ble_eq_true rfl⟩ ⟨Nat.le_of_ble_eq_true rfl, Nat.le_of_ble_eq_true rfl⟩ dX10_over_6 ?_
  refine zr_if_eq C 36 dX10_over_9 (by decide) (fun hc2 => ?_) (fun hc2 => ?_)
  · have hJ := zif hc2 hJ
    refine zr_iconst C dX10_over_36 (v := (-1 : Int32)) (by decide) ?_
    exact zr_iret C hret (zs_e hJ) rfl rfl dX10_over_37
  · have hJ := zif' hc2 hJ
    refine zr_iload_n C 3 dX10_over_12 rfl ?_
    refine zr_if_lt C 36 dX10_over_13 (by decide) (fun hc3 => ?_) (fun hc3 => ?_)
    · have hJ := zif hc3 hJ
      refine zr_iconst C dX10_over_36 (v := (-1 : Int32)) (by decide) ?_
      exact zr_iret C hret (zs_e hJ) rfl rfl dX10_over_37
    · have hJ := zif' hc3 hJ
      refine zr_iload_n C 3 dX10_over_16 rfl ?_
      refine zr_aload_n C 0 dX10_over_17 rfl ?_
      refine zg_10_5 C 0 zk_0 zm_2_9 dX10_over_18 ?_
      refine zr_iload_n C 1 dX10_over_21 rfl ?_
      obtain ⟨r4, hr4, hJ⟩ := zb_e hJ
      refine zr_callVI C 82 (zk_lt zk_82 (by decide)) (zen_obj zk_82) (rfl : zcl[0]? = some (RX0, TX0, 7)) (M_X0_greatest G l hr4) zin_X0_greatest zm_41_17 rfl rfl (Nat.le_of_ble_eq_true rfl) ⟨Nat.le_of_ble_eq_true rfl, Nat.le_of_ble_eq_true rfl⟩ ⟨Nat.le_of_ble_eq_true rfl, Nat.le_of_ble_eq_true rfl⟩ dX10_over_22 ?_
      refine zr_icmp_gt C 36 dX10_over_25 (by decide) (fun hc5 => ?_) (fun hc5 => ?_)
      · have hJ := zif hc5 hJ
        refine zr_iconst C dX10_over_36 (v := (-1 : Int32)) (by decide) ?_
        exact zr_iret C hret (zs_e hJ) rfl rfl dX10_over_37
      · have hJ := zif' hc5 hJ
        refine zr_iload C 4 dX10_over_28 rfl ?_
        obtain ⟨r6, hr6, hJ⟩ := zb_e hJ
        refine zr_callSI C (M_X10_isEither G l hr6) zin_X10_isEither zm_23_7 rfl rfl (Nat.le_of_ble_eq_true rfl) ⟨Nat.le_of_ble_eq_true rfl, Nat.le_of_ble_eq_true rfl⟩ ⟨Nat.le_of_ble_eq_true rfl, Nat.le_of_ble_eq_true rfl⟩ dX10_over_30 ?_
        refine zr_if_ne C 38 dX10_over_33 (by decide) (fun hc7 => ?_) (fun hc7 => ?_)
        · have hJ := zif' hc7 hJ
          refine zr_iload_n C 3 dX10_over_38 rfl ?_
          refine zr_aload_n C 0 dX10_over_39 rfl ?_
          obtain ⟨p8, hp8, hJ⟩ := zlet_e hJ
          obtain ⟨hp9, hJ⟩ := zg_e hJ
          refine zg_10_1 C 0 zk_0 zm_1_20 dX10_over_40 ?_
          refine zr_topr hp8 ?_
          refine zr_iload_n C 2 dX10_over_43 rfl ?_
          obtain ⟨r10, hr10, hJ⟩ := zb_e hJ
          refine zr_callVI C p8 (zk_lt (zkP_0 hp9) (by decide)) (zen_obj (zkP_0 hp9)) (rfl : zcl[3]? = some (RX3, TX3, 19)) (M_X3_total G l hp9 hr10) zin_X3_total zm_22_11 rfl rfl (Nat.le_of_ble_eq_true rfl) ⟨Nat.le_of_ble_eq_true rfl, Nat.le_of_ble_eq_true rfl⟩ ⟨Nat.le_of_ble_eq_true rfl, Nat.le_of_ble_eq_true rfl⟩ dX10_over_44 ?_
          refine zr_iadd C dX10_over_47 ?_
          obtain ⟨v11, hv11, hJ⟩ := zlet_e hJ
          refine zr_topi hv11 ?_
          refine zr_istore C [(5, .int v11), (0, .ref (G.1 + 0)), (1, .int a1), (2, .int a2), (3, .int a3), (4, .int a4)] dX10_over_48 (by decide) rfl ?_
          refine zr_iload C 5 dX10_over_50 rfl ?_
          refine zr_if_ne C 69 dX10_over_52 (by decide) (fun hc12 => ?_) (fun hc12 => ?_)
          · have hJ := zif' hc12 hJ
            refine zr_iload C 0 dX10_over_69 rfl ?_
            refine zr_aload_n C 1 dX10_over_71 rfl ?_
            refine zg_10_5 C 0 zk_0 zm_2_9 dX10_over_72 ?_
            refine zg_0_2 C 82 zk_82 zm_30_11 dX10_over_75 ?_
            refine zr_iload_n C 2 dX10_over_78 rfl ?_
            obtain ⟨hg13, hJ⟩ := zg_e hJ
            refine zu_iald C 84 zk_84 hg13 dX10_over_79 ?_
            refine zr_ishr C dX10_over_80 ?_
            exact zr_iret C hret (zs_e hJ) rfl rfl dX10_over_81
          · have hJ := zif hc12 hJ
            refine zr_iload C 0 dX10_over_55 rfl ?_
            refine zr_aload_n C 1 dX10_over_57 rfl ?_
            refine zg_10_5 C 0 zk_0 zm_2_9 dX10_over_58 ?_
            refine zr_iload_n C 2 dX10_over_61 rfl ?_
            obtain ⟨r14, hr14, hJ⟩ := zb_e hJ
            refine zr_callVI C 82 (zk_lt zk_82 (by decide)) (zen_obj zk_82) (rfl : zcl[0]? = some (RX0, TX0, 7)) (M_X0_greatest G l hr14) zin_X0_greatest zm_41_17 rfl rfl (Nat.le_of_ble_eq_true rfl) ⟨Nat.le_of_ble_eq_true rfl, Nat.le_of_ble_eq_true rfl⟩ ⟨Nat.le_of_ble_eq_true rfl, Nat.le_of_ble_eq_true rfl⟩ dX10_over_62 ?_
            refine zr_iand C dX10_over_65 ?_
            refine zr_goto C 81 dX10_over_66 (by decide) ?_
            exact zr_iret C hret (zs_e hJ) rfl rfl dX10_over_81
        · have hJ := zif hc7 hJ
          refine zr_iconst C dX10_over_36 (v := (-1 : Int32)) (by decide) ?_
          exact zr_iret C hret (zs_e hJ) rfl rfl dX10_over_37
theorem dX3_timeSteps_0 : decode cX3_timeSteps 0 = .ok (.aload_n 0, 1) := by decide +kernel
theorem dX3_timeSteps_1 : decode cX3_timeSteps 1 = .ok (.getfield 71, 3) := by decide +kernel
theorem dX3_timeSteps_4 : decode cX3_timeSteps 4 = .ok (.iconst 0, 1) := by decide +kernel
theorem dX3_timeSteps_5 : decode cX3_timeSteps 5 = .ok (.iconst 0, 1) := by decide +kernel
theorem dX3_timeSteps_6 : decode cX3_timeSteps 6 = .ok (.iastore, 1) := by decide +kernel
theorem dX3_timeSteps_7 : decode cX3_timeSteps 7 = .ok (.iconst 0, 1) := by decide +kernel
theorem dX3_timeSteps_8 : decode cX3_timeSteps 8 = .ok (.istore_n 1, 1) := by decide +kernel
theorem dX3_timeSteps_9 : decode cX3_timeSteps 9 = .ok (.iload_n 1, 1) := by decide +kernel
theorem dX3_timeSteps_10 : decode cX3_timeSteps 10 = .ok (.aload_n 0, 1) := by decide +kernel
theorem dX3_timeSteps_11 : decode cX3_timeSteps 11 = .ok (.getfield 60, 3) := by decide +kernel
theorem dX3_timeSteps_14 : decode cX3_timeSteps 14 = .ok (.if_icmp .ge 35, 3) := by decide +kernel
theorem dX3_timeSteps_17 : decode cX3_timeSteps 17 = .ok (.aload_n 0, 1) := by decide +kernel
theorem dX3_timeSteps_18 : decode cX3_timeSteps 18 = .ok (.getfield 71, 3) := by decide +kernel
theorem dX3_timeSteps_21 : decode cX3_timeSteps 21 = .ok (.iload_n 1, 1) := by decide +kernel
theorem dX3_timeSteps_22 : decode cX3_timeSteps 22 = .ok (.iconst 1, 1) := by decide +kernel
theorem dX3_timeSteps_23 : decode cX3_timeSteps 23 = .ok (.iadd, 1) := by decide +kernel
theorem dX3_timeSteps_24 : decode cX3_timeSteps 24 = .ok (.aload_n 0, 1) := by decide +kernel
theorem dX3_timeSteps_25 : decode cX3_timeSteps 25 = .ok (.getfield 71, 3) := by decide +kernel
theorem dX3_timeSteps_28 : decode cX3_timeSteps 28 = .ok (.iload_n 1, 1) := by decide +kernel
theorem dX3_timeSteps_29 : decode cX3_timeSteps 29 = .ok (.iaload, 1) := by decide +kernel
theorem dX3_timeSteps_30 : decode cX3_timeSteps 30 = .ok (.aload_n 0, 1) := by decide +kernel
theorem dX3_timeSteps_31 : decode cX3_timeSteps 31 = .ok (.getfield 15, 3) := by decide +kernel
theorem dX3_timeSteps_34 : decode cX3_timeSteps 34 = .ok (.aload_n 0, 1) := by decide +kernel
theorem dX3_timeSteps_35 : decode cX3_timeSteps 35 = .ok (.getfield 67, 3) := by decide +kernel
theorem dX3_timeSteps_38 : decode cX3_timeSteps 38 = .ok (.iload_n 1, 1) := by decide +kernel
theorem dX3_timeSteps_39 : decode cX3_timeSteps 39 = .ok (.baload, 1) := by decide +kernel
theorem dX3_timeSteps_40 : decode cX3_timeSteps 40 = .ok (.iaload, 1) := by decide +kernel
theorem dX3_timeSteps_41 : decode cX3_timeSteps 41 = .ok (.iadd, 1) := by decide +kernel
theorem dX3_timeSteps_42 : decode cX3_timeSteps 42 = .ok (.iastore, 1) := by decide +kernel
theorem dX3_timeSteps_43 : decode cX3_timeSteps 43 = .ok (.iinc 1 1, 3) := by decide +kernel
theorem dX3_timeSteps_46 : decode cX3_timeSteps 46 = .ok (.goto (-37), 3) := by decide +kernel
theorem dX3_timeSteps_49 : decode cX3_timeSteps 49 = .ok (.return_, 1) := by decide +kernel
set_option maxRecDepth 100000 in
set_option maxHeartbeats 4000000 in
theorem M_X3_timeSteps (G : zG) (l : Launch) {p0 : Nat} (hp0 : zP p0 = true) {σ : zS} {σ' : zS} (hJ : J_X3_timeSteps p0 σ = some σ') : zMV G l yX3_timeSteps cX3_timeSteps 2 none (zrm 0 0) [.ref (G.1 + p0)] 137 (zen G σ) 137 (zen G σ') := by
  unfold J_X3_timeSteps at hJ
  refine zentV (by decide +kernel) (Nat.le_of_ble_eq_true rfl) ?_
  intro p e s m args below meth c C hret
  refine zr_sub [0] [(0, .ref (G.1 + p0))] rfl ?_
  refine zr_aload_n C 0 dX3_timeSteps_0 rfl ?_
  refine zg_3_18 C p0 (zkP_0 hp0) zm_4_12 dX3_timeSteps_1 ?_
  refine zr_iconst C dX3_timeSteps_4 (v := (0 : Int32)) (by decide) ?_
  refine zr_iconst C dX3_timeSteps_5 (v := (0 : Int32)) (by decide) ?_
  obtain ⟨hg1, hJ⟩ := zg_e hJ
  obtain ⟨σ2, hσ2, hJ⟩ := zlet_e hJ
  refine zv_iast C (p0 + 29) (zkP_29 hp0) hg1 hσ2 dX3_timeSteps_6 ?_
  refine zr_iconst C dX3_timeSteps_7 (v := (0 : Int32)) (by decide) ?_
  refine zr_istore_n C [(1, .int (0 : Int32)), (0, .ref (G.1 + p0))] dX3_timeSteps_8 (by decide) rfl ?_
  have hl9 : ∀ (n : Nat) (w1_9 : Int32) (σ_9 : zS), L_X3_timeSteps_9 p0 n w1_9 σ_9 = some σ' → zU G 2 p l e (zrm 0 0) s m args below meth c (MQ below (va_Qv (fun (_ : Unit) => True) (fun _ t => zok G 137 (zen G σ') t) (zA G)) args s 0 0 (zA G)) σ_9 9 [(0, .ref (G.1 + p0)), (1, .int w1_9)] [] := by
    intro n
    induction n with
    | zero =>
      intro w1_9 σ_9 hJ
      rw [L_X3_timeSteps_9] at hJ
      cases hJ
    | succ n ih =>
      intro w1_9 σ_9 hJ
      rw [L_X3_timeSteps_9] at hJ
      obtain ⟨r_9, hr_9, hJ⟩ := zlet_e hJ
      have ih9 : ∀ (w1_9 : Int32) (σ_9 : zS), r_9 w1_9 σ_9 = some σ' → zU G 2 p l e (zrm 0 0) s m args below meth c (MQ below (va_Qv (fun (_ : Unit) => True) (fun _ t => zok G 137 (zen G σ') t) (zA G)) args s 0 0 (zA G)) σ_9 9 [(0, .ref (G.1 + p0)), (1, .int w1_9)] [] := by
        rw [hr_9]
        exact ih
      refine zr_iload_n C 1 dX3_timeSteps_9 rfl ?_
      refine zr_aload_n C 0 dX3_timeSteps_10 rfl ?_
      refine zg_3_15 C p0 (zkP_0 hp0) zm_4_9 dX3_timeSteps_11 ?_
      refine zr_icmp_ge C 49 dX3_timeSteps_14 (by decide) (fun hc3 => ?_) (fun hc3 => ?_)
      · have hJ := zif hc3 hJ
        exact zr_vret C hret rfl (congrArg (zen G) (zs_e hJ)) dX3_timeSteps_49
      · have hJ := zif' hc3 hJ
        refine zr_aload_n C 0 dX3_timeSteps_17 rfl ?_
        refine zg_3_18 C p0 (zkP_0 hp0) zm_4_12 dX3_timeSteps_18 ?_
        refine zr_iload_n C 1 dX3_timeSteps_21 rfl ?_
        refine zr_iconst C dX3_timeSteps_22 (v := (1 : Int32)) (by decide) ?_
        refine zr_iadd C dX3_timeSteps_23 ?_
        refine zr_aload_n C 0 dX3_timeSteps_24 rfl ?_
        refine zg_3_18 C p0 (zkP_0 hp0) zm_4_12 dX3_timeSteps_25 ?_
        refine zr_iload_n C 1 dX3_timeSteps_28 rfl ?_
        obtain ⟨hg4, hJ⟩ := zg_e hJ
        refine zu_iald C (p0 + 29) (zkP_29 hp0) hg4 dX3_timeSteps_29 ?_
        refine zr_aload_n C 0 dX3_timeSteps_30 rfl ?_
        refine zg_3_1 C p0 (zkP_0 hp0) zm_3_18 dX3_timeSteps_31 ?_
        refine zr_aload_n C 0 dX3_timeSteps_34 rfl ?_
        refine zg_3_17 C p0 (zkP_0 hp0) zm_4_11 dX3_timeSteps_35 ?_
        refine zr_iload_n C 1 dX3_timeSteps_38 rfl ?_
        obtain ⟨hg5, hJ⟩ := zg_e hJ
        refine zu_bald C (p0 + 28) (zkP_28 hp0) hg5 dX3_timeSteps_39 ?_
        obtain ⟨hg6, hJ⟩ := zg_e hJ
        refine zu_iald C (p0 + 1) (zkP_1 hp0) hg6 dX3_timeSteps_40 ?_
        refine zr_iadd C dX3_timeSteps_41 ?_
        obtain ⟨hg7, hJ⟩ := zg_e hJ
        obtain ⟨σ8, hσ8, hJ⟩ := zlet_e hJ
        refine zv_iast C (p0 + 29) (zkP_29 hp0) hg7 hσ8 dX3_timeSteps_42 ?_
        obtain ⟨v9, hv9, hJ⟩ := zlet_e hJ
        refine zr_iinc C v9 1 [(1, .int v9), (0, .ref (G.1 + p0))] dX3_timeSteps_43 rfl (hv9.trans (zinc (by decide))) (by decide) rfl ?_
        refine zr_goto C 9 dX3_timeSteps_46 (by decide) ?_
        refine zr_sub [1, 0] [(0, .ref (G.1 + p0)), (1, .int v9)] rfl ?_
        exact ih9 _ _ hJ
  refine zr_sub [1, 0] [(0, .ref (G.1 + p0)), (1, .int (0 : Int32))] rfl ?_
  exact hl9 _ _ _ hJ
theorem dX3_begin_0 : decode cX3_begin 0 = .ok (.aload_n 0, 1) := by decide +kernel
theorem dX3_begin_1 : decode cX3_begin 1 = .ok (.iconst 0, 1) := by decide +kernel
theorem dX3_begin_2 : decode cX3_begin 2 = .ok (.putfield 9, 3) := by decide +kernel
theorem dX3_begin_5 : decode cX3_begin 5 = .ok (.aload_n 0, 1) := by decide +kernel
theorem dX3_begin_6 : decode cX3_begin 6 = .ok (.iconst 0, 1) := by decide +kernel
theorem dX3_begin_7 : decode cX3_begin 7 = .ok (.putfield 30, 3) := by decide +kernel
theorem dX3_begin_10 : decode cX3_begin 10 = .ok (.aload_n 0, 1) := by decide +kernel
theorem dX3_begin_11 : decode cX3_begin 11 = .ok (.iconst 0, 1) := by decide +kernel
theorem dX3_begin_12 : decode cX3_begin 12 = .ok (.putfield 54, 3) := by decide +kernel
theorem dX3_begin_15 : decode cX3_begin 15 = .ok (.aload_n 0, 1) := by decide +kernel
theorem dX3_begin_16 : decode cX3_begin 16 = .ok (.iconst 1, 1) := by decide +kernel
theorem dX3_begin_17 : decode cX3_begin 17 = .ok (.putfield 57, 3) := by decide +kernel
theorem dX3_begin_20 : decode cX3_begin 20 = .ok (.aload_n 0, 1) := by decide +kernel
theorem dX3_begin_21 : decode cX3_begin 21 = .ok (.iconst 0, 1) := by decide +kernel
theorem dX3_begin_22 : decode cX3_begin 22 = .ok (.putfield 60, 3) := by decide +kernel
theorem dX3_begin_25 : decode cX3_begin 25 = .ok (.aload_n 0, 1) := by decide +kernel
theorem dX3_begin_26 : decode cX3_begin 26 = .ok (.iconst 0, 1) := by decide +kernel
theorem dX3_begin_27 : decode cX3_begin 27 = .ok (.putfield 63, 3) := by decide +kernel
theorem dX3_begin_30 : decode cX3_begin 30 = .ok (.return_, 1) := by decide +kernel
set_option maxRecDepth 100000 in
set_option maxHeartbeats 4000000 in
theorem M_X3_begin (G : zG) (l : Launch) {p0 : Nat} (hp0 : zP p0 = true) {σ : zS} {σ' : zS} (hJ : J_X3_begin p0 σ = some σ') : zMV G l yX3_begin cX3_begin 1 none (zrm 0 0) [.ref (G.1 + p0)] 137 (zen G σ) 137 (zen G σ') := by
  unfold J_X3_begin at hJ
  refine zentV (by decide +kernel) (Nat.le_of_ble_eq_true rfl) ?_
  intro p e s m args below meth c C hret
  refine zr_sub [0] [(0, .ref (G.1 + p0))] rfl ?_
  refine zr_aload_n C 0 dX3_begin_0 rfl ?_
  refine zr_iconst C dX3_begin_1 (v := (0 : Int32)) (by decide) ?_
  obtain ⟨σ1, hσ1, hJ⟩ := zlet_e hJ
  refine zp_3_0 C p0 (zkP_0 hp0) zm_3_16 hσ1 dX3_begin_2 ?_
  refine zr_aload_n C 0 dX3_begin_5 rfl ?_
  refine zr_iconst C dX3_begin_6 (v := (0 : Int32)) (by decide) ?_
  obtain ⟨σ2, hσ2, hJ⟩ := zlet_e hJ
  refine zp_3_5 C p0 (zkP_0 hp0) zm_3_23 hσ2 dX3_begin_7 ?_
  refine zr_aload_n C 0 dX3_begin_10 rfl ?_
  refine zr_iconst C dX3_begin_11 (v := (0 : Int32)) (by decide) ?_
  obtain ⟨σ3, hσ3, hJ⟩ := zlet_e hJ
  refine zp_3_13 C p0 (zkP_0 hp0) zm_4_7 hσ3 dX3_begin_12 ?_
  refine zr_aload_n C 0 dX3_begin_15 rfl ?_
  refine zr_iconst C dX3_begin_16 (v := (1 : Int32)) (by decide) ?_
  obtain ⟨σ4, hσ4, hJ⟩ := zlet_e hJ
  refine zp_3_14 C p0 (zkP_0 hp0) zm_4_8 hσ4 dX3_begin_17 ?_
  refine zr_aload_n C 0 dX3_begin_20 rfl ?_
  refine zr_iconst C dX3_begin_21 (v := (0 : Int32)) (by decide) ?_
  obtain ⟨σ5, hσ5, hJ⟩ := zlet_e hJ
  refine zp_3_15 C p0 (zkP_0 hp0) zm_4_9 hσ5 dX3_begin_22 ?_
  refine zr_aload_n C 0 dX3_begin_25 rfl ?_
  refine zr_iconst C dX3_begin_26 (v := (0 : Int32)) (by decide) ?_
  obtain ⟨σ6, hσ6, hJ⟩ := zlet_e hJ
  refine zp_3_16 C p0 (zkP_0 hp0) zm_4_10 rfl rfl hσ6 dX3_begin_27 ?_
  exact zr_vret C hret rfl (congrArg (zen G) (zs_e hJ)) dX3_begin_30
theorem dX3_repeatSteps_0 : decode cX3_repeatSteps 0 = .ok (.aload_n 0, 1) := by decide +kernel
theorem dX3_repeatSteps_1 : decode cX3_repeatSteps 1 = .ok (.getfield 60, 3) := by decide +kernel
theorem dX3_repeatSteps_4 : decode cX3_repeatSteps 4 = .ok (.iload_n 1, 1) := by decide +kernel
theorem dX3_repeatSteps_5 : decode cX3_repeatSteps 5 = .ok (.isub, 1) := by decide +kernel
theorem dX3_repeatSteps_6 : decode cX3_repeatSteps 6 = .ok (.istore_n 3, 1) := by decide +kernel
theorem dX3_repeatSteps_7 : decode cX3_repeatSteps 7 = .ok (.iload_n 1, 1) := by decide +kernel
theorem dX3_repeatSteps_8 : decode cX3_repeatSteps 8 = .ok (.iload_n 3, 1) := by decide +kernel
theorem dX3_repeatSteps_9 : decode cX3_repeatSteps 9 = .ok (.iload_n 2, 1) := by decide +kernel
theorem dX3_repeatSteps_10 : decode cX3_repeatSteps 10 = .ok (.imul, 1) := by decide +kernel
theorem dX3_repeatSteps_11 : decode cX3_repeatSteps 11 = .ok (.iadd, 1) := by decide +kernel
theorem dX3_repeatSteps_12 : decode cX3_repeatSteps 12 = .ok (.istore 4, 2) := by decide +kernel
theorem dX3_repeatSteps_14 : decode cX3_repeatSteps 14 = .ok (.iload 4, 2) := by decide +kernel
theorem dX3_repeatSteps_16 : decode cX3_repeatSteps 16 = .ok (.sipush 6000, 3) := by decide +kernel
theorem dX3_repeatSteps_19 : decode cX3_repeatSteps 19 = .ok (.if_icmp .le 9, 3) := by decide +kernel
theorem dX3_repeatSteps_22 : decode cX3_repeatSteps 22 = .ok (.aload_n 0, 1) := by decide +kernel
theorem dX3_repeatSteps_23 : decode cX3_repeatSteps 23 = .ok (.iconst 1, 1) := by decide +kernel
theorem dX3_repeatSteps_24 : decode cX3_repeatSteps 24 = .ok (.putfield 63, 3) := by decide +kernel
theorem dX3_repeatSteps_27 : decode cX3_repeatSteps 27 = .ok (.return_, 1) := by decide +kernel
theorem dX3_repeatSteps_28 : decode cX3_repeatSteps 28 = .ok (.aload_n 0, 1) := by decide +kernel
theorem dX3_repeatSteps_29 : decode cX3_repeatSteps 29 = .ok (.getfield 60, 3) := by decide +kernel
theorem dX3_repeatSteps_32 : decode cX3_repeatSteps 32 = .ok (.istore 5, 2) := by decide +kernel
theorem dX3_repeatSteps_34 : decode cX3_repeatSteps 34 = .ok (.iload 5, 2) := by decide +kernel
theorem dX3_repeatSteps_36 : decode cX3_repeatSteps 36 = .ok (.iload 4, 2) := by decide +kernel
theorem dX3_repeatSteps_38 : decode cX3_repeatSteps 38 = .ok (.if_icmp .ge 25, 3) := by decide +kernel
theorem dX3_repeatSteps_41 : decode cX3_repeatSteps 41 = .ok (.aload_n 0, 1) := by decide +kernel
theorem dX3_repeatSteps_42 : decode cX3_repeatSteps 42 = .ok (.getfield 67, 3) := by decide +kernel
theorem dX3_repeatSteps_45 : decode cX3_repeatSteps 45 = .ok (.iload 5, 2) := by decide +kernel
theorem dX3_repeatSteps_47 : decode cX3_repeatSteps 47 = .ok (.aload_n 0, 1) := by decide +kernel
theorem dX3_repeatSteps_48 : decode cX3_repeatSteps 48 = .ok (.getfield 67, 3) := by decide +kernel
theorem dX3_repeatSteps_51 : decode cX3_repeatSteps 51 = .ok (.iload 5, 2) := by decide +kernel
theorem dX3_repeatSteps_53 : decode cX3_repeatSteps 53 = .ok (.iload_n 3, 1) := by decide +kernel
theorem dX3_repeatSteps_54 : decode cX3_repeatSteps 54 = .ok (.isub, 1) := by decide +kernel
theorem dX3_repeatSteps_55 : decode cX3_repeatSteps 55 = .ok (.baload, 1) := by decide +kernel
theorem dX3_repeatSteps_56 : decode cX3_repeatSteps 56 = .ok (.bastore, 1) := by decide +kernel
theorem dX3_repeatSteps_57 : decode cX3_repeatSteps 57 = .ok (.iinc 5 1, 3) := by decide +kernel
theorem dX3_repeatSteps_60 : decode cX3_repeatSteps 60 = .ok (.goto (-26), 3) := by decide +kernel
theorem dX3_repeatSteps_63 : decode cX3_repeatSteps 63 = .ok (.aload_n 0, 1) := by decide +kernel
theorem dX3_repeatSteps_64 : decode cX3_repeatSteps 64 = .ok (.iload 4, 2) := by decide +kernel
theorem dX3_repeatSteps_66 : decode cX3_repeatSteps 66 = .ok (.putfield 60, 3) := by decide +kernel
theorem dX3_repeatSteps_69 : decode cX3_repeatSteps 69 = .ok (.return_, 1) := by decide +kernel
set_option maxRecDepth 100000 in
set_option maxHeartbeats 4000000 in
theorem M_X3_repeatSteps (G : zG) (l : Launch) {p0 : Nat} (hp0 : zP p0 = true) {a1 : Int32} {a2 : Int32} {σ : zS} {σ' : zS} (hJ : J_X3_repeatSteps p0 a1 a2 σ = some σ') : zMV G l yX3_repeatSteps cX3_repeatSteps 6 none (zrm 0 0) [.ref (G.1 + p0), .int a1, .int a2] 137 (zen G σ) 137 (zen G σ') := by
  unfold J_X3_repeatSteps at hJ
  refine zentV (by decide +kernel) (Nat.le_of_ble_eq_true rfl) ?_
  intro p e s m args below meth c C hret
  refine zr_sub [0, 1, 2] [(0, .ref (G.1 + p0)), (1, .int a1), (2, .int a2)] rfl ?_
  refine zr_aload_n C 0 dX3_repeatSteps_0 rfl ?_
  refine zg_3_15 C p0 (zkP_0 hp0) zm_4_9 dX3_repeatSteps_1 ?_
  refine zr_iload_n C 1 dX3_repeatSteps_4 rfl ?_
  refine zr_isub C dX3_repeatSteps_5 ?_
  obtain ⟨v1, hv1, hJ⟩ := zlet_e hJ
  refine zr_topi hv1 ?_
  refine zr_istore_n C [(3, .int v1), (0, .ref (G.1 + p0)), (1, .int a1), (2, .int a2)] dX3_repeatSteps_6 (by decide) rfl ?_
  refine zr_iload_n C 2 dX3_repeatSteps_7 rfl ?_
  refine zr_iload_n C 0 dX3_repeatSteps_8 rfl ?_
  refine zr_iload_n C 3 dX3_repeatSteps_9 rfl ?_
  refine zr_imul C dX3_repeatSteps_10 ?_
  refine zr_iadd C dX3_repeatSteps_11 ?_
  obtain ⟨v2, hv2, hJ⟩ := zlet_e hJ
  refine zr_topi hv2 ?_
  refine zr_istore C [(4, .int v2), (3, .int v1), (0, .ref (G.1 + p0)), (1, .int a1), (2, .int a2)] dX3_repeatSteps_12 (by decide) rfl ?_
  refine zr_iload C 0 dX3_repeatSteps_14 rfl ?_
  refine zr_sipush C dX3_repeatSteps_16 (v := (6000 : Int32)) (by decide) ?_
  refine zr_icmp_le C 28 dX3_repeatSteps_19 (by decide) (fun hc3 => ?_) (fun hc3 => ?_)
  · have hJ := zif hc3 hJ
    refine zr_aload_n C 2 dX3_repeatSteps_28 rfl ?_
    refine zg_3_15 C p0 (zkP_0 hp0) zm_4_9 dX3_repeatSteps_29 ?_
    obtain ⟨v4, hv4, hJ⟩ := zlet_e hJ
    refine zr_topi hv4 ?_
    refine zr_istore C [(5, .int v4), (4, .int v2), (3, .int v1), (0, .ref (G.1 + p0)), (1, .int a1), (2, .int a2)] dX3_repeatSteps_32 (by decide) rfl ?_
    have hl34 : ∀ (n : Nat) (w5_34 : Int32) (σ_34 : zS), L_X3_repeatSteps_34 p0 v1 v2 n w5_34 σ_34 = some σ' → zU G 6 p l e (zrm 0 0) s m args below meth c (MQ below (va_Qv (fun (_ : Unit) => True) (fun _ t => zok G 137 (zen G σ') t) (zA G)) args s 0 0 (zA G)) σ_34 34 [(0, .ref (G.1 + p0)), (3, .int v1), (4, .int v2), (5, .int w5_34)] [] := by
      intro n
      induction n with
      | zero =>
        intro w5_34 σ_34 hJ
        rw [L_X3_repeatSteps_34] at hJ
        cases hJ
      | succ n ih =>
        intro w5_34 σ_34 hJ
        rw [L_X3_repeatSteps_34] at hJ
        obtain ⟨r_34, hr_34, hJ⟩ := zlet_e hJ
        have ih34 : ∀ (w5_34 : Int32) (σ_34 : zS), r_34 w5_34 σ_34 = some σ' → zU G 6 p l e (zrm 0 0) s m args below meth c (MQ below (va_Qv (fun (_ : Unit) => True) (fun _ t => zok G 137 (zen G σ') t) (zA G)) args s 0 0 (zA G)) σ_34 34 [(0, .ref (G.1 + p0)), (3, .int v1), (4, .int v2), (5, .int w5_34)] [] := by
          rw [hr_34]
          exact ih
        refine zr_iload C 3 dX3_repeatSteps_34 rfl ?_
        refine zr_iload C 2 dX3_repeatSteps_36 rfl ?_
        refine zr_icmp_ge C 63 dX3_repeatSteps_38 (by decide) (fun hc5 => ?_) (fun hc5 => ?_)
        · have hJ := zif hc5 hJ
          refine zr_aload_n C 0 dX3_repeatSteps_63 rfl ?_
          refine zr_iload C 2 dX3_repeatSteps_64 rfl ?_
          obtain ⟨σ6, hσ6, hJ⟩ := zlet_e hJ
          refine zp_3_15 C p0 (zkP_0 hp0) zm_4_9 hσ6 dX3_repeatSteps_66 ?_
          exact zr_vret C hret rfl (congrArg (zen G) (zs_e hJ)) dX3_repeatSteps_69
        · have hJ := zif' hc5 hJ
          refine zr_aload_n C 0 dX3_repeatSteps_41 rfl ?_
          refine zg_3_17 C p0 (zkP_0 hp0) zm_4_11 dX3_repeatSteps_42 ?_
          refine zr_iload C 3 dX3_repeatSteps_45 rfl ?_
          refine zr_aload_n C 0 dX3_repeatSteps_47 rfl ?_
          refine zg_3_17 C p0 (zkP_0 hp0) zm_4_11 dX3_repeatSteps_48 ?_
          refine zr_iload C 3 dX3_repeatSteps_51 rfl ?_
          refine zr_iload_n C 1 dX3_repeatSteps_53 rfl ?_
          refine zr_isub C dX3_repeatSteps_54 ?_
          obtain ⟨hg7, hJ⟩ := zg_e hJ
          refine zu_bald C (p0 + 28) (zkP_28 hp0) hg7 dX3_repeatSteps_55 ?_
          obtain ⟨hg8, hJ⟩ := zg_e hJ
          obtain ⟨σ9, hσ9, hJ⟩ := zlet_e hJ
          refine zv_bast C (p0 + 28) (zkP_28 hp0) hg8 hσ9 dX3_repeatSteps_56 ?_
          obtain ⟨v10, hv10, hJ⟩ := zlet_e hJ
          refine zr_iinc C v10 3 [(5, .int v10), (0, .ref (G.1 + p0)), (3, .int v1), (4, .int v2)] dX3_repeatSteps_57 rfl (hv10.trans (zinc (by decide))) (by decide) rfl ?_
          refine zr_goto C 34 dX3_repeatSteps_60 (by decide) ?_
          refine zr_sub [1, 2, 3, 0] [(0, .ref (G.1 + p0)), (3, .int v1), (4, .int v2), (5, .int v10)] rfl ?_
          exact ih34 _ _ hJ
    refine zr_sub [3, 2, 1, 0] [(0, .ref (G.1 + p0)), (3, .int v1), (4, .int v2), (5, .int v4)] rfl ?_
    exact hl34 _ _ _ hJ
  · have hJ := zif' hc3 hJ
    refine zr_aload_n C 2 dX3_repeatSteps_22 rfl ?_
    refine zr_iconst C dX3_repeatSteps_23 (v := (1 : Int32)) (by decide) ?_
    obtain ⟨σ11, hσ11, hJ⟩ := zlet_e hJ
    refine zp_3_16 C p0 (zkP_0 hp0) zm_4_10 rfl rfl hσ11 dX3_repeatSteps_24 ?_
    exact zr_vret C hret rfl (congrArg (zen G) (zs_e hJ)) dX3_repeatSteps_27
theorem dX3_closeLoop_0 : decode cX3_closeLoop 0 = .ok (.aload_n 0, 1) := by decide +kernel
theorem dX3_closeLoop_1 : decode cX3_closeLoop 1 = .ok (.getfield 54, 3) := by decide +kernel
theorem dX3_closeLoop_4 : decode cX3_closeLoop 4 = .ok (.iconst 1, 1) := by decide +kernel
theorem dX3_closeLoop_5 : decode cX3_closeLoop 5 = .ok (.if_icmp .ge 4, 3) := by decide +kernel
theorem dX3_closeLoop_8 : decode cX3_closeLoop 8 = .ok (.return_, 1) := by decide +kernel
theorem dX3_closeLoop_9 : decode cX3_closeLoop 9 = .ok (.aload_n 0, 1) := by decide +kernel
theorem dX3_closeLoop_10 : decode cX3_closeLoop 10 = .ok (.dup, 1) := by decide +kernel
theorem dX3_closeLoop_11 : decode cX3_closeLoop 11 = .ok (.getfield 54, 3) := by decide +kernel
theorem dX3_closeLoop_14 : decode cX3_closeLoop 14 = .ok (.iconst 1, 1) := by decide +kernel
theorem dX3_closeLoop_15 : decode cX3_closeLoop 15 = .ok (.isub, 1) := by decide +kernel
theorem dX3_closeLoop_16 : decode cX3_closeLoop 16 = .ok (.putfield 54, 3) := by decide +kernel
theorem dX3_closeLoop_19 : decode cX3_closeLoop 19 = .ok (.aload_n 0, 1) := by decide +kernel
theorem dX3_closeLoop_20 : decode cX3_closeLoop 20 = .ok (.getfield 51, 3) := by decide +kernel
theorem dX3_closeLoop_23 : decode cX3_closeLoop 23 = .ok (.aload_n 0, 1) := by decide +kernel
theorem dX3_closeLoop_24 : decode cX3_closeLoop 24 = .ok (.getfield 54, 3) := by decide +kernel
theorem dX3_closeLoop_27 : decode cX3_closeLoop 27 = .ok (.iaload, 1) := by decide +kernel
theorem dX3_closeLoop_28 : decode cX3_closeLoop 28 = .ok (.istore_n 1, 1) := by decide +kernel
theorem dX3_closeLoop_29 : decode cX3_closeLoop 29 = .ok (.aload_n 0, 1) := by decide +kernel
theorem dX3_closeLoop_30 : decode cX3_closeLoop 30 = .ok (.aload_n 0, 1) := by decide +kernel
theorem dX3_closeLoop_31 : decode cX3_closeLoop 31 = .ok (.getfield 39, 3) := by decide +kernel
theorem dX3_closeLoop_34 : decode cX3_closeLoop 34 = .ok (.iload_n 1, 1) := by decide +kernel
theorem dX3_closeLoop_35 : decode cX3_closeLoop 35 = .ok (.iaload, 1) := by decide +kernel
theorem dX3_closeLoop_36 : decode cX3_closeLoop 36 = .ok (.putfield 57, 3) := by decide +kernel
theorem dX3_closeLoop_39 : decode cX3_closeLoop 39 = .ok (.aload_n 0, 1) := by decide +kernel
theorem dX3_closeLoop_40 : decode cX3_closeLoop 40 = .ok (.getfield 45, 3) := by decide +kernel
theorem dX3_closeLoop_43 : decode cX3_closeLoop 43 = .ok (.iload_n 1, 1) := by decide +kernel
theorem dX3_closeLoop_44 : decode cX3_closeLoop 44 = .ok (.aload_n 0, 1) := by decide +kernel
theorem dX3_closeLoop_45 : decode cX3_closeLoop 45 = .ok (.getfield 9, 3) := by decide +kernel
theorem dX3_closeLoop_48 : decode cX3_closeLoop 48 = .ok (.iastore, 1) := by decide +kernel
theorem dX3_closeLoop_49 : decode cX3_closeLoop 49 = .ok (.aload_n 0, 1) := by decide +kernel
theorem dX3_closeLoop_50 : decode cX3_closeLoop 50 = .ok (.aload_n 0, 1) := by decide +kernel
theorem dX3_closeLoop_51 : decode cX3_closeLoop 51 = .ok (.getfield 48, 3) := by decide +kernel
theorem dX3_closeLoop_54 : decode cX3_closeLoop 54 = .ok (.iload_n 1, 1) := by decide +kernel
theorem dX3_closeLoop_55 : decode cX3_closeLoop 55 = .ok (.iaload, 1) := by decide +kernel
theorem dX3_closeLoop_56 : decode cX3_closeLoop 56 = .ok (.aload_n 0, 1) := by decide +kernel
theorem dX3_closeLoop_57 : decode cX3_closeLoop 57 = .ok (.getfield 33, 3) := by decide +kernel
theorem dX3_closeLoop_60 : decode cX3_closeLoop 60 = .ok (.iload_n 1, 1) := by decide +kernel
theorem dX3_closeLoop_61 : decode cX3_closeLoop 61 = .ok (.iaload, 1) := by decide +kernel
theorem dX3_closeLoop_62 : decode cX3_closeLoop 62 = .ok (.invokevirtual 74, 3) := by decide +kernel
theorem dX3_closeLoop_65 : decode cX3_closeLoop 65 = .ok (.return_, 1) := by decide +kernel
set_option maxRecDepth 100000 in
set_option maxHeartbeats 4000000 in
theorem M_X3_closeLoop (G : zG) (l : Launch) {p0 : Nat} (hp0 : zP p0 = true) {σ : zS} {σ' : zS} (hJ : J_X3_closeLoop p0 σ = some σ') : zMV G l yX3_closeLoop cX3_closeLoop 2 none (zrm 1 25) [.ref (G.1 + p0)] 137 (zen G σ) 137 (zen G σ') := by
  unfold J_X3_closeLoop at hJ
  refine zentV (by decide +kernel) (Nat.le_of_ble_eq_true rfl) ?_
  intro p e s m args below meth c C hret
  refine zr_sub [0] [(0, .ref (G.1 + p0))] rfl ?_
  refine zr_aload_n C 0 dX3_closeLoop_0 rfl ?_
  refine zg_3_13 C p0 (zkP_0 hp0) zm_4_7 dX3_closeLoop_1 ?_
  refine zr_iconst C dX3_closeLoop_4 (v := (1 : Int32)) (by decide) ?_
  refine zr_icmp_ge C 9 dX3_closeLoop_5 (by decide) (fun hc1 => ?_) (fun hc1 => ?_)
  · have hJ := zif hc1 hJ
    refine zr_aload_n C 0 dX3_closeLoop_9 rfl ?_
    refine zr_dup C dX3_closeLoop_10 rfl ?_
    refine zg_3_13 C p0 (zkP_0 hp0) zm_4_7 dX3_closeLoop_11 ?_
    refine zr_iconst C dX3_closeLoop_14 (v := (1 : Int32)) (by decide) ?_
    refine zr_isub C dX3_closeLoop_15 ?_
    obtain ⟨σ2, hσ2, hJ⟩ := zlet_e hJ
    refine zp_3_13 C p0 (zkP_0 hp0) zm_4_7 hσ2 dX3_closeLoop_16 ?_
    refine zr_aload_n C 0 dX3_closeLoop_19 rfl ?_
    refine zg_3_12 C p0 (zkP_0 hp0) zm_4_6 dX3_closeLoop_20 ?_
    refine zr_aload_n C 0 dX3_closeLoop_23 rfl ?_
    refine zg_3_13 C p0 (zkP_0 hp0) zm_4_7 dX3_closeLoop_24 ?_
    obtain ⟨hg3, hJ⟩ := zg_e hJ
    refine zu_iald C (p0 + 27) (zkP_27 hp0) hg3 dX3_closeLoop_27 ?_
    obtain ⟨v4, hv4, hJ⟩ := zlet_e hJ
    refine zr_topi hv4 ?_
    refine zr_istore_n C [(1, .int v4), (0, .ref (G.1 + p0))] dX3_closeLoop_28 (by decide) rfl ?_
    refine zr_aload_n C 1 dX3_closeLoop_29 rfl ?_
    refine zr_aload_n C 1 dX3_closeLoop_30 rfl ?_
    refine zg_3_8 C p0 (zkP_0 hp0) zm_4_2 dX3_closeLoop_31 ?_
    refine zr_iload_n C 0 dX3_closeLoop_34 rfl ?_
    obtain ⟨hg5, hJ⟩ := zg_e hJ
    refine zu_iald C (p0 + 23) (zkP_23 hp0) hg5 dX3_closeLoop_35 ?_
    obtain ⟨σ6, hσ6, hJ⟩ := zlet_e hJ
    refine zp_3_14 C p0 (zkP_0 hp0) zm_4_8 hσ6 dX3_closeLoop_36 ?_
    refine zr_aload_n C 1 dX3_closeLoop_39 rfl ?_
    refine zg_3_10 C p0 (zkP_0 hp0) zm_4_4 dX3_closeLoop_40 ?_
    refine zr_iload_n C 0 dX3_closeLoop_43 rfl ?_
    refine zr_aload_n C 1 dX3_closeLoop_44 rfl ?_
    refine zg_3_0 C p0 (zkP_0 hp0) zm_3_16 dX3_closeLoop_45 ?_
    obtain ⟨hg7, hJ⟩ := zg_e hJ
    obtain ⟨σ8, hσ8, hJ⟩ := zlet_e hJ
    refine zv_iast C (p0 + 25) (zkP_25 hp0) hg7 hσ8 dX3_closeLoop_48 ?_
    refine zr_aload_n C 1 dX3_closeLoop_49 rfl ?_
    refine zr_aload_n C 1 dX3_closeLoop_50 rfl ?_
    refine zg_3_11 C p0 (zkP_0 hp0) zm_4_5 dX3_closeLoop_51 ?_
    refine zr_iload_n C 0 dX3_closeLoop_54 rfl ?_
    obtain ⟨hg9, hJ⟩ := zg_e hJ
    refine zu_iald C (p0 + 26) (zkP_26 hp0) hg9 dX3_closeLoop_55 ?_
    refine zr_aload_n C 1 dX3_closeLoop_56 rfl ?_
    refine zg_3_6 C p0 (zkP_0 hp0) zm_4_0 dX3_closeLoop_57 ?_
    refine zr_iload_n C 0 dX3_closeLoop_60 rfl ?_
    obtain ⟨hg10, hJ⟩ := zg_e hJ
    refine zu_iald C (p0 + 21) (zkP_21 hp0) hg10 dX3_closeLoop_61 ?_
    obtain ⟨σ12, hr11, hJ⟩ := zb_e hJ
    refine zr_callVV C p0 (zk_lt (zkP_0 hp0) (by decide)) (zen_obj (zkP_0 hp0)) (rfl : zcl[3]? = some (RX3, TX3, 19)) (M_X3_repeatSteps G l hp0 hr11) zin_X3_repeatSteps zm_15_20 rfl rfl (Nat.le_of_ble_eq_true rfl) ⟨Nat.le_of_ble_eq_true rfl, Nat.le_of_ble_eq_true rfl⟩ ⟨Nat.le_of_ble_eq_true rfl, Nat.le_of_ble_eq_true rfl⟩ dX3_closeLoop_62 ?_
    exact zr_vret C hret rfl (congrArg (zen G) (zs_e hJ)) dX3_closeLoop_65
  · have hJ := zif' hc1 hJ
    exact zr_vret C hret rfl (congrArg (zen G) (zs_e hJ)) dX3_closeLoop_8
theorem dX4_fail_0 : decode cX4_fail 0 = .ok (.aload_n 0, 1) := by decide +kernel
theorem dX4_fail_1 : decode cX4_fail 1 = .ok (.iload_n 1, 1) := by decide +kernel
theorem dX4_fail_2 : decode cX4_fail 2 = .ok (.putfield 24, 3) := by decide +kernel
theorem dX4_fail_5 : decode cX4_fail 5 = .ok (.aload_n 0, 1) := by decide +kernel
theorem dX4_fail_6 : decode cX4_fail 6 = .ok (.aload_n 0, 1) := by decide +kernel
theorem dX4_fail_7 : decode cX4_fail 7 = .ok (.getfield 18, 3) := by decide +kernel
theorem dX4_fail_10 : decode cX4_fail 10 = .ok (.putfield 27, 3) := by decide +kernel
theorem dX4_fail_13 : decode cX4_fail 13 = .ok (.return_, 1) := by decide +kernel
set_option maxRecDepth 100000 in
set_option maxHeartbeats 4000000 in
theorem M_X4_fail (G : zG) (l : Launch) {a1 : Int32} {σ : zS} {σ' : zS} (hJ : J_X4_fail a1 σ = some σ') : zMV G l yX4_fail cX4_fail 2 none (zrm 0 0) [.ref (G.1 + 63), .int a1] 137 (zen G σ) 137 (zen G σ') := by
  unfold J_X4_fail at hJ
  refine zentV (by decide +kernel) (Nat.le_of_ble_eq_true rfl) ?_
  intro p e s m args below meth c C hret
  refine zr_sub [0, 1] [(0, .ref (G.1 + 63)), (1, .int a1)] rfl ?_
  refine zr_aload_n C 0 dX4_fail_0 rfl ?_
  refine zr_iload_n C 1 dX4_fail_1 rfl ?_
  obtain ⟨σ1, hσ1, hJ⟩ := zlet_e hJ
  refine zp_4_6 C 63 zk_63 zm_4_21 hσ1 dX4_fail_2 ?_
  refine zr_aload_n C 0 dX4_fail_5 rfl ?_
  refine zr_aload_n C 0 dX4_fail_6 rfl ?_
  refine zg_4_4 C 63 zk_63 zm_4_19 dX4_fail_7 ?_
  obtain ⟨σ2, hσ2, hJ⟩ := zlet_e hJ
  refine zp_4_7 C 63 zk_63 zm_4_22 hσ2 dX4_fail_10 ?_
  exact zr_vret C hret rfl (congrArg (zen G) (zs_e hJ)) dX4_fail_13
theorem dX4_finish_0 : decode cX4_finish 0 = .ok (.aload_n 0, 1) := by decide +kernel
theorem dX4_finish_1 : decode cX4_finish 1 = .ok (.getfield 24, 3) := by decide +kernel
theorem dX4_finish_4 : decode cX4_finish 4 = .ok (.ifCond .ne 18, 3) := by decide +kernel
theorem dX4_finish_7 : decode cX4_finish 7 = .ok (.aload_n 0, 1) := by decide +kernel
theorem dX4_finish_8 : decode cX4_finish 8 = .ok (.getfield 34, 3) := by decide +kernel
theorem dX4_finish_11 : decode cX4_finish 11 = .ok (.getfield 64, 3) := by decide +kernel
theorem dX4_finish_14 : decode cX4_finish 14 = .ok (.ifCond .le 8, 3) := by decide +kernel
theorem dX4_finish_17 : decode cX4_finish 17 = .ok (.aload_n 0, 1) := by decide +kernel
theorem dX4_finish_18 : decode cX4_finish 18 = .ok (.iconst 2, 1) := by decide +kernel
theorem dX4_finish_19 : decode cX4_finish 19 = .ok (.invokevirtual 74, 3) := by decide +kernel
theorem dX4_finish_22 : decode cX4_finish 22 = .ok (.aload_n 0, 1) := by decide +kernel
theorem dX4_finish_23 : decode cX4_finish 23 = .ok (.getfield 24, 3) := by decide +kernel
theorem dX4_finish_26 : decode cX4_finish 26 = .ok (.ifCond .ne 19, 3) := by decide +kernel
theorem dX4_finish_29 : decode cX4_finish 29 = .ok (.aload_n 0, 1) := by decide +kernel
theorem dX4_finish_30 : decode cX4_finish 30 = .ok (.getfield 34, 3) := by decide +kernel
theorem dX4_finish_33 : decode cX4_finish 33 = .ok (.getfield 80, 3) := by decide +kernel
theorem dX4_finish_36 : decode cX4_finish 36 = .ok (.ifCond .eq 9, 3) := by decide +kernel
theorem dX4_finish_39 : decode cX4_finish 39 = .ok (.aload_n 0, 1) := by decide +kernel
theorem dX4_finish_40 : decode cX4_finish 40 = .ok (.bipush 6, 2) := by decide +kernel
theorem dX4_finish_42 : decode cX4_finish 42 = .ok (.invokevirtual 74, 3) := by decide +kernel
theorem dX4_finish_45 : decode cX4_finish 45 = .ok (.return_, 1) := by decide +kernel
set_option maxRecDepth 100000 in
set_option maxHeartbeats 4000000 in
theorem M_X4_finish (G : zG) (l : Launch) {σ : zS} {σ' : zS} (hJ : J_X4_finish σ = some σ') : zMV G l yX4_finish cX4_finish 1 none (zrm 1 21) [.ref (G.1 + 63)] 137 (zen G σ) 137 (zen G σ') := by
  unfold J_X4_finish at hJ
  refine zentV (by decide +kernel) (Nat.le_of_ble_eq_true rfl) ?_
  intro p e s m args below meth c C hret
  refine zr_sub [0] [(0, .ref (G.1 + 63))] rfl ?_
  refine zr_aload_n C 0 dX4_finish_0 rfl ?_
  refine zg_4_6 C 63 zk_63 zm_4_21 dX4_finish_1 ?_
  obtain ⟨k22, hk22, hJ⟩ := zlet_e hJ
  have hj22 : ∀ (σ_22 : zS), k22 σ_22 = some σ' → zU G 1 p l e (zrm 1 21) s m args below meth c (MQ below (va_Qv (fun (_ : Unit) => True) (fun _ t => zok G 137 (zen G σ') t) (zA G)) args s 0 0 (zA G)) σ_22 22 [(0, .ref (G.1 + 63))] [] := by
    intro σ_22 hJ
    rw [hk22] at hJ
    unfold D_X4_finish_22 at hJ
    refine zr_aload_n C 0 dX4_finish_22 rfl ?_
    refine zg_4_6 C 63 zk_63 zm_4_21 dX4_finish_23 ?_
    refine zr_if_ne C 45 dX4_finish_26 (by decide) (fun hc1 => ?_) (fun hc1 => ?_)
    · have hJ := zif' hc1 hJ
      exact zr_vret C hret rfl (congrArg (zen G) (zs_e hJ)) dX4_finish_45
    · have hJ := zif hc1 hJ
      refine zr_aload_n C 0 dX4_finish_29 rfl ?_
      obtain ⟨p2, hp2, hJ⟩ := zlet_e hJ
      obtain ⟨hp3, hJ⟩ := zg_e hJ
      refine zg_4_1 C 63 zk_63 zm_5_0 dX4_finish_30 ?_
      refine zr_topr hp2 ?_
      refine zg_3_16 C p2 (zkP_0 hp3) zm_16_4 dX4_finish_33 ?_
      refine zr_if_eq C 45 dX4_finish_36 (by decide) (fun hc4 => ?_) (fun hc4 => ?_)
      · have hJ := zif hc4 hJ
        exact zr_vret C hret rfl (congrArg (zen G) (zs_e hJ)) dX4_finish_45
      · have hJ := zif' hc4 hJ
        refine zr_aload_n C 0 dX4_finish_39 rfl ?_
        refine zr_bipush C dX4_finish_40 (v := (6 : Int32)) (by decide) ?_
        obtain ⟨σ6, hr5, hJ⟩ := zb_e hJ
        refine zr_callVV C 63 (zk_lt zk_63 (by decide)) (zen_obj zk_63) (rfl : zcl[4]? = some (RX4, TX4, 8)) (M_X4_fail G l hr5) zin_X4_fail zm_11_14 rfl rfl (Nat.le_of_ble_eq_true rfl) ⟨Nat.le_of_ble_eq_true rfl, Nat.le_of_ble_eq_true rfl⟩ ⟨Nat.le_of_ble_eq_true rfl, Nat.le_of_ble_eq_true rfl⟩ dX4_finish_42 ?_
        exact zr_vret C hret rfl (congrArg (zen G) (zs_e hJ)) dX4_finish_45
  refine zr_if_ne C 22 dX4_finish_4 (by decide) (fun hc7 => ?_) (fun hc7 => ?_)
  · have hJ := zif' hc7 hJ
    exact hj22 _ hJ
  · have hJ := zif hc7 hJ
    refine zr_aload_n C 0 dX4_finish_7 rfl ?_
    obtain ⟨p8, hp8, hJ⟩ := zlet_e hJ
    obtain ⟨hp9, hJ⟩ := zg_e hJ
    refine zg_4_1 C 63 zk_63 zm_5_0 dX4_finish_8 ?_
    refine zr_topr hp8 ?_
    refine zg_3_13 C p8 (zkP_0 hp9) zm_10_13 dX4_finish_11 ?_
    refine zr_if_le C 22 dX4_finish_14 (by decide) (fun hc10 => ?_) (fun hc10 => ?_)
    · have hJ := zif hc10 hJ
      exact hj22 _ hJ
    · have hJ := zif' hc10 hJ
      refine zr_aload_n C 0 dX4_finish_17 rfl ?_
      refine zr_iconst C dX4_finish_18 (v := (2 : Int32)) (by decide) ?_
      obtain ⟨σ12, hr11, hJ⟩ := zb_e hJ
      refine zr_callVV C 63 (zk_lt zk_63 (by decide)) (zen_obj zk_63) (rfl : zcl[4]? = some (RX4, TX4, 8)) (M_X4_fail G l hr11) zin_X4_fail zm_11_14 rfl rfl (Nat.le_of_ble_eq_true rfl) ⟨Nat.le_of_ble_eq_true rfl, Nat.le_of_ble_eq_true rfl⟩ ⟨Nat.le_of_ble_eq_true rfl, Nat.le_of_ble_eq_true rfl⟩ dX4_finish_19 ?_
      exact hj22 _ hJ
theorem dX4_isWord_0 : decode cX4_isWord 0 = .ok (.aload_n 0, 1) := by decide +kernel
theorem dX4_isWord_1 : decode cX4_isWord 1 = .ok (.getfield 15, 3) := by decide +kernel
theorem dX4_isWord_4 : decode cX4_isWord 4 = .ok (.ifCond .ne 19, 3) := by decide +kernel
theorem dX4_isWord_7 : decode cX4_isWord 7 = .ok (.aload_n 0, 1) := by decide +kernel
theorem dX4_isWord_8 : decode cX4_isWord 8 = .ok (.getfield 9, 3) := by decide +kernel
theorem dX4_isWord_11 : decode cX4_isWord 11 = .ok (.aload_n 0, 1) := by decide +kernel
theorem dX4_isWord_12 : decode cX4_isWord 12 = .ok (.getfield 18, 3) := by decide +kernel
theorem dX4_isWord_15 : decode cX4_isWord 15 = .ok (.isub, 1) := by decide +kernel
theorem dX4_isWord_16 : decode cX4_isWord 16 = .ok (.aload_n 1, 1) := by decide +kernel
theorem dX4_isWord_17 : decode cX4_isWord 17 = .ok (.invokevirtual 131, 3) := by decide +kernel
theorem dX4_isWord_20 : decode cX4_isWord 20 = .ok (.if_icmp .eq 5, 3) := by decide +kernel
theorem dX4_isWord_23 : decode cX4_isWord 23 = .ok (.iconst 0, 1) := by decide +kernel
theorem dX4_isWord_24 : decode cX4_isWord 24 = .ok (.ireturn, 1) := by decide +kernel
theorem dX4_isWord_25 : decode cX4_isWord 25 = .ok (.iconst 0, 1) := by decide +kernel
theorem dX4_isWord_26 : decode cX4_isWord 26 = .ok (.istore_n 2, 1) := by decide +kernel
theorem dX4_isWord_27 : decode cX4_isWord 27 = .ok (.iload_n 2, 1) := by decide +kernel
theorem dX4_isWord_28 : decode cX4_isWord 28 = .ok (.aload_n 1, 1) := by decide +kernel
theorem dX4_isWord_29 : decode cX4_isWord 29 = .ok (.invokevirtual 131, 3) := by decide +kernel
theorem dX4_isWord_32 : decode cX4_isWord 32 = .ok (.if_icmp .ge 33, 3) := by decide +kernel
theorem dX4_isWord_35 : decode cX4_isWord 35 = .ok (.aload_n 0, 1) := by decide +kernel
theorem dX4_isWord_36 : decode cX4_isWord 36 = .ok (.getfield 30, 3) := by decide +kernel
theorem dX4_isWord_39 : decode cX4_isWord 39 = .ok (.getfield 104, 3) := by decide +kernel
theorem dX4_isWord_42 : decode cX4_isWord 42 = .ok (.aload_n 0, 1) := by decide +kernel
theorem dX4_isWord_43 : decode cX4_isWord 43 = .ok (.getfield 18, 3) := by decide +kernel
theorem dX4_isWord_46 : decode cX4_isWord 46 = .ok (.iload_n 2, 1) := by decide +kernel
theorem dX4_isWord_47 : decode cX4_isWord 47 = .ok (.iadd, 1) := by decide +kernel
theorem dX4_isWord_48 : decode cX4_isWord 48 = .ok (.baload, 1) := by decide +kernel
theorem dX4_isWord_49 : decode cX4_isWord 49 = .ok (.aload_n 1, 1) := by decide +kernel
theorem dX4_isWord_50 : decode cX4_isWord 50 = .ok (.iload_n 2, 1) := by decide +kernel
theorem dX4_isWord_51 : decode cX4_isWord 51 = .ok (.invokevirtual 137, 3) := by decide +kernel
theorem dX4_isWord_54 : decode cX4_isWord 54 = .ok (.if_icmp .eq 5, 3) := by decide +kernel
theorem dX4_isWord_57 : decode cX4_isWord 57 = .ok (.iconst 0, 1) := by decide +kernel
theorem dX4_isWord_58 : decode cX4_isWord 58 = .ok (.ireturn, 1) := by decide +kernel
theorem dX4_isWord_59 : decode cX4_isWord 59 = .ok (.iinc 2 1, 3) := by decide +kernel
theorem dX4_isWord_62 : decode cX4_isWord 62 = .ok (.goto (-35), 3) := by decide +kernel
theorem dX4_isWord_65 : decode cX4_isWord 65 = .ok (.iconst 1, 1) := by decide +kernel
theorem dX4_isWord_66 : decode cX4_isWord 66 = .ok (.ireturn, 1) := by decide +kernel
set_option maxRecDepth 100000 in
set_option maxHeartbeats 4000000 in
theorem M_X4_isWord (G : zG) (l : Launch) {k1 : Nat} (hk1 : k1 < 3) {σ : zS} {r : Int32} (hJ : J_X4_isWord k1 σ = some r) : zMI G l yX4_isWord cX4_isWord 3 (some .boolean) (zrm 8 300) [.ref (G.1 + 63), .ref (G.2.2.2.2.2.2.1 k1)] 137 (zen G σ) r 137 (zen G σ) := by
  unfold J_X4_isWord at hJ
  refine zentI (by decide +kernel) (Nat.le_of_ble_eq_true rfl) ?_
  intro p e s m args below meth c C hret
  refine zr_sub [0, 1] [(0, .ref (G.1 + 63)), (1, .ref (G.2.2.2.2.2.2.1 k1))] rfl ?_
  refine zr_aload_n C 0 dX4_isWord_0 rfl ?_
  refine zg_4_3 C 63 zk_63 zm_4_18 dX4_isWord_1 ?_
  refine zr_if_ne C 23 dX4_isWord_4 (by decide) (fun hc1 => ?_) (fun hc1 => ?_)
  · have hJ := zif' hc1 hJ
    refine zr_iconst C dX4_isWord_23 (v := (0 : Int32)) (by decide) ?_
    exact zr_zret C hret (zs_e hJ) rfl rfl rfl dX4_isWord_24
  · have hJ := zif hc1 hJ
    refine zr_aload_n C 0 dX4_isWord_7 rfl ?_
    refine zg_4_2 C 63 zk_63 zm_4_17 dX4_isWord_8 ?_
    refine zr_aload_n C 0 dX4_isWord_11 rfl ?_
    refine zg_4_4 C 63 zk_63 zm_4_19 dX4_isWord_12 ?_
    refine zr_isub C dX4_isWord_15 ?_
    refine zr_aload_n C 1 dX4_isWord_16 rfl ?_
    refine zr_slen C k1 hk1 zm_11_22 ⟨Nat.le_of_ble_eq_true rfl, Nat.le_of_ble_eq_true rfl⟩ (Nat.le_of_ble_eq_true rfl) dX4_isWord_17 ?_
    refine zr_icmp_eq C 25 dX4_isWord_20 (by decide) (fun hc2 => ?_) (fun hc2 => ?_)
    · have hJ := zif hc2 hJ
      refine zr_iconst C dX4_isWord_25 (v := (0 : Int32)) (by decide) ?_
      refine zr_istore_n C [(2, .int (0 : Int32)), (0, .ref (G.1 + 63)), (1, .ref (G.2.2.2.2.2.2.1 k1))] dX4_isWord_26 (by decide) rfl ?_
      have hl27 : ∀ (n : Nat) (w2_27 : Int32), L_X4_isWord_27 k1 σ n w2_27 = some r → zU G 3 p l e (zrm 8 300) s m args below meth c (MQ below (va_Qi (fun x (_ : Unit) => x = r) (fun _ t => zok G 137 (zen G σ) t) (zA G)) args s 0 0 (zA G)) σ 27 [(0, .ref (G.1 + 63)), (1, .ref (G.2.2.2.2.2.2.1 k1)), (2, .int w2_27)] [] := by
        intro n
        induction n with
        | zero =>
          intro w2_27 hJ
          rw [L_X4_isWord_27] at hJ
          cases hJ
        | succ n ih =>
          intro w2_27 hJ
          rw [L_X4_isWord_27] at hJ
          obtain ⟨r_27, hr_27, hJ⟩ := zlet_e hJ
          have ih27 : ∀ (w2_27 : Int32), r_27 w2_27 = some r → zU G 3 p l e (zrm 8 300) s m args below meth c (MQ below (va_Qi (fun x (_ : Unit) => x = r) (fun _ t => zok G 137 (zen G σ) t) (zA G)) args s 0 0 (zA G)) σ 27 [(0, .ref (G.1 + 63)), (1, .ref (G.2.2.2.2.2.2.1 k1)), (2, .int w2_27)] [] := by
            rw [hr_27]
            exact ih
          refine zr_iload_n C 2 dX4_isWord_27 rfl ?_
          refine zr_aload_n C 1 dX4_isWord_28 rfl ?_
          refine zr_slen C k1 hk1 zm_11_22 ⟨Nat.le_of_ble_eq_true rfl, Nat.le_of_ble_eq_true rfl⟩ (Nat.le_of_ble_eq_true rfl) dX4_isWord_29 ?_
          refine zr_icmp_ge C 65 dX4_isWord_32 (by decide) (fun hc3 => ?_) (fun hc3 => ?_)
          · have hJ := zif hc3 hJ
            refine zr_iconst C dX4_isWord_65 (v := (1 : Int32)) (by decide) ?_
            exact zr_zret C hret (zs_e hJ) rfl rfl rfl dX4_isWord_66
          · have hJ := zif' hc3 hJ
            refine zr_aload_n C 0 dX4_isWord_35 rfl ?_
            refine zg_4_0 C 63 zk_63 zm_4_23 dX4_isWord_36 ?_
            refine zg_8_0 C 1 zk_1 zm_10_23 dX4_isWord_39 ?_
            refine zr_aload_n C 0 dX4_isWord_42 rfl ?_
            refine zg_4_4 C 63 zk_63 zm_4_19 dX4_isWord_43 ?_
            refine zr_iload_n C 2 dX4_isWord_46 rfl ?_
            refine zr_iadd C dX4_isWord_47 ?_
            obtain ⟨hg4, hJ⟩ := zg_e hJ
            refine zu_bald C 2 zk_2 hg4 dX4_isWord_48 ?_
            refine zr_aload_n C 1 dX4_isWord_49 rfl ?_
            refine zr_iload_n C 2 dX4_isWord_50 rfl ?_
            obtain ⟨hg5, hJ⟩ := zg_e hJ
            refine zr_schar C k1 hk1 hg5 zm_12_10 ⟨Nat.le_of_ble_eq_true rfl, Nat.le_of_ble_eq_true rfl⟩ (Nat.le_of_ble_eq_true rfl) dX4_isWord_51 ?_
            refine zr_icmp_eq C 59 dX4_isWord_54 (by decide) (fun hc6 => ?_) (fun hc6 => ?_)
            · have hJ := zif hc6 hJ
              obtain ⟨v7, hv7, hJ⟩ := zlet_e hJ
              refine zr_iinc C v7 2 [(2, .int v7), (0, .ref (G.1 + 63)), (1, .ref (G.2.2.2.2.2.2.1 k1))] dX4_isWord_59 rfl (hv7.trans (zinc (by decide))) (by decide) rfl ?_
              refine zr_goto C 27 dX4_isWord_62 (by decide) ?_
              refine zr_sub [1, 2, 0] [(0, .ref (G.1 + 63)), (1, .ref (G.2.2.2.2.2.2.1 k1)), (2, .int v7)] rfl ?_
              exact ih27 _ hJ
            · have hJ := zif' hc6 hJ
              refine zr_iconst C dX4_isWord_57 (v := (0 : Int32)) (by decide) ?_
              exact zr_zret C hret (zs_e hJ) rfl rfl rfl dX4_isWord_58
      refine zr_sub [1, 2, 0] [(0, .ref (G.1 + 63)), (1, .ref (G.2.2.2.2.2.2.1 k1)), (2, .int (0 : Int32))] rfl ?_
      exact hl27 _ _ hJ
    · have hJ := zif' hc2 hJ
      refine zr_iconst C dX4_isWord_23 (v := (0 : Int32)) (by decide) ?_
      exact zr_zret C hret (zs_e hJ) rfl rfl rfl dX4_isWord_24
theorem dX3_addLine_0 : decode cX3_addLine 0 = .ok (.aload_n 0, 1) := by decide +kernel
theorem dX3_addLine_1 : decode cX3_addLine 1 = .ok (.getfield 9, 3) := by decide +kernel
theorem dX3_addLine_4 : decode cX3_addLine 4 = .ok (.bipush 16, 2) := by decide +kernel
theorem dX3_addLine_6 : decode cX3_addLine 6 = .ok (.if_icmp .lt 4, 3) := by decide +kernel
theorem dX3_addLine_9 : decode cX3_addLine 9 = .ok (.return_, 1) := by decide +kernel
theorem dX3_addLine_10 : decode cX3_addLine 10 = .ok (.aload_n 0, 1) := by decide +kernel
theorem dX3_addLine_11 : decode cX3_addLine 11 = .ok (.getfield 15, 3) := by decide +kernel
theorem dX3_addLine_14 : decode cX3_addLine 14 = .ok (.aload_n 0, 1) := by decide +kernel
theorem dX3_addLine_15 : decode cX3_addLine 15 = .ok (.getfield 9, 3) := by decide +kernel
theorem dX3_addLine_18 : decode cX3_addLine 18 = .ok (.iload_n 1, 1) := by decide +kernel
theorem dX3_addLine_19 : decode cX3_addLine 19 = .ok (.iastore, 1) := by decide +kernel
theorem dX3_addLine_20 : decode cX3_addLine 20 = .ok (.aload_n 0, 1) := by decide +kernel
theorem dX3_addLine_21 : decode cX3_addLine 21 = .ok (.getfield 19, 3) := by decide +kernel
theorem dX3_addLine_24 : decode cX3_addLine 24 = .ok (.aload_n 0, 1) := by decide +kernel
theorem dX3_addLine_25 : decode cX3_addLine 25 = .ok (.getfield 9, 3) := by decide +kernel
theorem dX3_addLine_28 : decode cX3_addLine 28 = .ok (.aload_n 0, 1) := by decide +kernel
theorem dX3_addLine_29 : decode cX3_addLine 29 = .ok (.getfield 57, 3) := by decide +kernel
theorem dX3_addLine_32 : decode cX3_addLine 32 = .ok (.iastore, 1) := by decide +kernel
theorem dX3_addLine_33 : decode cX3_addLine 33 = .ok (.aload_n 0, 1) := by decide +kernel
theorem dX3_addLine_34 : decode cX3_addLine 34 = .ok (.getfield 22, 3) := by decide +kernel
theorem dX3_addLine_37 : decode cX3_addLine 37 = .ok (.aload_n 0, 1) := by decide +kernel
theorem dX3_addLine_38 : decode cX3_addLine 38 = .ok (.getfield 9, 3) := by decide +kernel
theorem dX3_addLine_41 : decode cX3_addLine 41 = .ok (.aload_n 0, 1) := by decide +kernel
theorem dX3_addLine_42 : decode cX3_addLine 42 = .ok (.getfield 54, 3) := by decide +kernel
theorem dX3_addLine_45 : decode cX3_addLine 45 = .ok (.iastore, 1) := by decide +kernel
theorem dX3_addLine_46 : decode cX3_addLine 46 = .ok (.iconst 0, 1) := by decide +kernel
theorem dX3_addLine_47 : decode cX3_addLine 47 = .ok (.istore_n 2, 1) := by decide +kernel
theorem dX3_addLine_48 : decode cX3_addLine 48 = .ok (.iload_n 2, 1) := by decide +kernel
theorem dX3_addLine_49 : decode cX3_addLine 49 = .ok (.bipush 8, 2) := by decide +kernel
theorem dX3_addLine_51 : decode cX3_addLine 51 = .ok (.if_icmp .ge 21, 3) := by decide +kernel
theorem dX3_addLine_54 : decode cX3_addLine 54 = .ok (.aload_n 0, 1) := by decide +kernel
theorem dX3_addLine_55 : decode cX3_addLine 55 = .ok (.getfield 27, 3) := by decide +kernel
theorem dX3_addLine_58 : decode cX3_addLine 58 = .ok (.aload_n 0, 1) := by decide +kernel
theorem dX3_addLine_59 : decode cX3_addLine 59 = .ok (.getfield 9, 3) := by decide +kernel
theorem dX3_addLine_62 : decode cX3_addLine 62 = .ok (.aaload, 1) := by decide +kernel
theorem dX3_addLine_63 : decode cX3_addLine 63 = .ok (.iload_n 2, 1) := by decide +kernel
theorem dX3_addLine_64 : decode cX3_addLine 64 = .ok (.iconst 0, 1) := by decide +kernel
theorem dX3_addLine_65 : decode cX3_addLine 65 = .ok (.iastore, 1) := by decide +kernel
theorem dX3_addLine_66 : decode cX3_addLine 66 = .ok (.iinc 2 1, 3) := by decide +kernel
theorem dX3_addLine_69 : decode cX3_addLine 69 = .ok (.goto (-21), 3) := by decide +kernel
theorem dX3_addLine_72 : decode cX3_addLine 72 = .ok (.aload_n 0, 1) := by decide +kernel
theorem dX3_addLine_73 : decode cX3_addLine 73 = .ok (.getfield 60, 3) := by decide +kernel
theorem dX3_addLine_76 : decode cX3_addLine 76 = .ok (.sipush 6000, 3) := by decide +kernel
theorem dX3_addLine_79 : decode cX3_addLine 79 = .ok (.if_icmp .ge 30, 3) := by decide +kernel
theorem dX3_addLine_82 : decode cX3_addLine 82 = .ok (.aload_n 0, 1) := by decide +kernel
theorem dX3_addLine_83 : decode cX3_addLine 83 = .ok (.getfield 67, 3) := by decide +kernel
theorem dX3_addLine_86 : decode cX3_addLine 86 = .ok (.aload_n 0, 1) := by decide +kernel
theorem dX3_addLine_87 : decode cX3_addLine 87 = .ok (.getfield 60, 3) := by decide +kernel
theorem dX3_addLine_90 : decode cX3_addLine 90 = .ok (.aload_n 0, 1) := by decide +kernel
theorem dX3_addLine_91 : decode cX3_addLine 91 = .ok (.getfield 9, 3) := by decide +kernel
theorem dX3_addLine_94 : decode cX3_addLine 94 = .ok (.i2b, 1) := by decide +kernel
theorem dX3_addLine_95 : decode cX3_addLine 95 = .ok (.bastore, 1) := by decide +kernel
theorem dX3_addLine_96 : decode cX3_addLine 96 = .ok (.aload_n 0, 1) := by decide +kernel
theorem dX3_addLine_97 : decode cX3_addLine 97 = .ok (.dup, 1) := by decide +kernel
theorem dX3_addLine_98 : decode cX3_addLine 98 = .ok (.getfield 60, 3) := by decide +kernel
theorem dX3_addLine_101 : decode cX3_addLine 101 = .ok (.iconst 1, 1) := by decide +kernel
theorem dX3_addLine_102 : decode cX3_addLine 102 = .ok (.iadd, 1) := by decide +kernel
theorem dX3_addLine_103 : decode cX3_addLine 103 = .ok (.putfield 60, 3) := by decide +kernel
theorem dX3_addLine_106 : decode cX3_addLine 106 = .ok (.goto 8, 3) := by decide +kernel
theorem dX3_addLine_109 : decode cX3_addLine 109 = .ok (.aload_n 0, 1) := by decide +kernel
theorem dX3_addLine_110 : decode cX3_addLine 110 = .ok (.iconst 1, 1) := by decide +kernel
theorem dX3_addLine_111 : decode cX3_addLine 111 = .ok (.putfield 63, 3) := by decide +kernel
theorem dX3_addLine_114 : decode cX3_addLine 114 = .ok (.aload_n 0, 1) := by decide +kernel
theorem dX3_addLine_115 : decode cX3_addLine 115 = .ok (.dup, 1) := by decide +kernel
theorem dX3_addLine_116 : decode cX3_addLine 116 = .ok (.getfield 9, 3) := by decide +kernel
theorem dX3_addLine_119 : decode cX3_addLine 119 = .ok (.iconst 1, 1) := by decide +kernel
theorem dX3_addLine_120 : decode cX3_addLine 120 = .ok (.iadd, 1) := by decide +kernel
theorem dX3_addLine_121 : decode cX3_addLine 121 = .ok (.putfield 9, 3) := by decide +kernel
theorem dX3_addLine_124 : decode cX3_addLine 124 = .ok (.return_, 1) := by decide +kernel
set_option maxRecDepth 100000 in
set_option maxHeartbeats 4000000 in
theorem M_X3_addLine (G : zG) (l : Launch) {p0 : Nat} (hp0 : zP p0 = true) {a1 : Int32} {σ : zS} {σ' : zS} (hJ : J_X3_addLine p0 a1 σ = some σ') : zMV G l yX3_addLine cX3_addLine 3 none (zrm 0 0) [.ref (G.1 + p0), .int a1] 137 (zen G σ) 137 (zen G σ') := by
  unfold J_X3_addLine at hJ
  refine zentV (by decide +kernel) (Nat.le_of_ble_eq_true rfl) ?_
  intro p e s m args below meth c C hret
  refine zr_sub [0, 1] [(0, .ref (G.1 + p0)), (1, .int a1)] rfl ?_
  refine zr_aload_n C 0 dX3_addLine_0 rfl ?_
  refine zg_3_0 C p0 (zkP_0 hp0) zm_3_16 dX3_addLine_1 ?_
  refine zr_bipush C dX3_addLine_4 (v := (16 : Int32)) (by decide) ?_
  refine zr_icmp_lt C 10 dX3_addLine_6 (by decide) (fun hc1 => ?_) (fun hc1 => ?_)
  · have hJ := zif hc1 hJ
    refine zr_aload_n C 0 dX3_addLine_10 rfl ?_
    refine zg_3_1 C p0 (zkP_0 hp0) zm_3_18 dX3_addLine_11 ?_
    refine zr_aload_n C 0 dX3_addLine_14 rfl ?_
    refine zg_3_0 C p0 (zkP_0 hp0) zm_3_16 dX3_addLine_15 ?_
    refine zr_iload_n C 1 dX3_addLine_18 rfl ?_
    obtain ⟨hg2, hJ⟩ := zg_e hJ
    obtain ⟨σ3, hσ3, hJ⟩ := zlet_e hJ
    refine zv_iast C (p0 + 1) (zkP_1 hp0) hg2 hσ3 dX3_addLine_19 ?_
    refine zr_aload_n C 0 dX3_addLine_20 rfl ?_
    refine zg_3_2 C p0 (zkP_0 hp0) zm_3_19 dX3_addLine_21 ?_
    refine zr_aload_n C 0 dX3_addLine_24 rfl ?_
    refine zg_3_0 C p0 (zkP_0 hp0) zm_3_16 dX3_addLine_25 ?_
    refine zr_aload_n C 0 dX3_addLine_28 rfl ?_
    refine zg_3_14 C p0 (zkP_0 hp0) zm_4_8 dX3_addLine_29 ?_
    obtain ⟨hg4, hJ⟩ := zg_e hJ
    obtain ⟨σ5, hσ5, hJ⟩ := zlet_e hJ
    refine zv_iast C (p0 + 2) (zkP_2 hp0) hg4 hσ5 dX3_addLine_32 ?_
    refine zr_aload_n C 0 dX3_addLine_33 rfl ?_
    refine zg_3_3 C p0 (zkP_0 hp0) zm_3_20 dX3_addLine_34 ?_
    refine zr_aload_n C 0 dX3_addLine_37 rfl ?_
    refine zg_3_0 C p0 (zkP_0 hp0) zm_3_16 dX3_addLine_38 ?_
    refine zr_aload_n C 0 dX3_addLine_41 rfl ?_
    refine zg_3_13 C p0 (zkP_0 hp0) zm_4_7 dX3_addLine_42 ?_
    obtain ⟨hg6, hJ⟩ := zg_e hJ
    obtain ⟨σ7, hσ7, hJ⟩ := zlet_e hJ
    refine zv_iast C (p0 + 3) (zkP_3 hp0) hg6 hσ7 dX3_addLine_45 ?_
    refine zr_iconst C dX3_addLine_46 (v := (0 : Int32)) (by decide) ?_
    refine zr_istore_n C [(2, .int (0 : Int32)), (0, .ref (G.1 + p0)), (1, .int a1)] dX3_addLine_47 (by decide) rfl ?_
    obtain ⟨k72, hk72, hJ⟩ := zlet_e hJ
    have hj72 : ∀ (σ_72 : zS), k72 σ_72 = some σ' → zU G 3 p l e (zrm 0 0) s m args below meth c (MQ below (va_Qv (fun (_ : Unit) => True) (fun _ t => zok G 137 (zen G σ') t) (zA G)) args s 0 0 (zA G)) σ_72 72 [(0, .ref (G.1 + p0))] [] := by
      intro σ_72 hJ
      rw [hk72] at hJ
      unfold D_X3_addLine_72 at hJ
      refine zr_aload_n C 0 dX3_addLine_72 rfl ?_
      refine zg_3_15 C p0 (zkP_0 hp0) zm_4_9 dX3_addLine_73 ?_
      refine zr_sipush C dX3_addLine_76 (v := (6000 : Int32)) (by decide) ?_
      obtain ⟨k114, hk114, hJ⟩ := zlet_e hJ
      have hj114 : ∀ (σ_114 : zS), k114 σ_114 = some σ' → zU G 3 p l e (zrm 0 0) s m args below meth c (MQ below (va_Qv (fun (_ : Unit) => True) (fun _ t => zok G 137 (zen G σ') t) (zA G)) args s 0 0 (zA G)) σ_114 114 [(0, .ref (G.1 + p0))] [] := by
        intro σ_114 hJ
        rw [hk114] at hJ
        unfold D_X3_addLine_114 at hJ
        refine zr_aload_n C 0 dX3_addLine_114 rfl ?_
        refine zr_dup C dX3_addLine_115 rfl ?_
        refine zg_3_0 C p0 (zkP_0 hp0) zm_3_16 dX3_addLine_116 ?_
        refine zr_iconst C dX3_addLine_119 (v := (1 : Int32)) (by decide) ?_
        refine zr_iadd C dX3_addLine_120 ?_
        obtain ⟨σ8, hσ8, hJ⟩ := zlet_e hJ
        refine zp_3_0 C p0 (zkP_0 hp0) zm_3_16 hσ8 dX3_addLine_121 ?_
        exact zr_vret C hret rfl (congrArg (zen G) (zs_e hJ)) dX3_addLine_124
      refine zr_icmp_ge C 109 dX3_addLine_79 (by decide) (fun hc9 => ?_) (fun hc9 => ?_)
      · have hJ := zif hc9 hJ
        refine zr_aload_n C 0 dX3_addLine_109 rfl ?_
        refine zr_iconst C dX3_addLine_110 (v := (1 : Int32)) (by decide) ?_
        obtain ⟨σ10, hσ10, hJ⟩ := zlet_e hJ
        refine zp_3_16 C p0 (zkP_0 hp0) zm_4_10 rfl rfl hσ10 dX3_addLine_111 ?_
        exact hj114 _ hJ
      · have hJ := zif' hc9 hJ
        refine zr_aload_n C 0 dX3_addLine_82 rfl ?_
        refine zg_3_17 C p0 (zkP_0 hp0) zm_4_11 dX3_addLine_83 ?_
        refine zr_aload_n C 0 dX3_addLine_86 rfl ?_
        refine zg_3_15 C p0 (zkP_0 hp0) zm_4_9 dX3_addLine_87 ?_
        refine zr_aload_n C 0 dX3_addLine_90 rfl ?_
        refine zg_3_0 C p0 (zkP_0 hp0) zm_3_16 dX3_addLine_91 ?_
        refine zr_i2b C dX3_addLine_94 ?_
        obtain ⟨hg11, hJ⟩ := zg_e hJ
        obtain ⟨σ12, hσ12, hJ⟩ := zlet_e hJ
        refine zv_bast C (p0 + 28) (zkP_28 hp0) hg11 hσ12 dX3_addLine_95 ?_
        refine zr_aload_n C 0 dX3_addLine_96 rfl ?_
        refine zr_dup C dX3_addLine_97 rfl ?_
        refine zg_3_15 C p0 (zkP_0 hp0) zm_4_9 dX3_addLine_98 ?_
        refine zr_iconst C dX3_addLine_101 (v := (1 : Int32)) (by decide) ?_
        refine zr_iadd C dX3_addLine_102 ?_
        obtain ⟨σ13, hσ13, hJ⟩ := zlet_e hJ
        refine zp_3_15 C p0 (zkP_0 hp0) zm_4_9 hσ13 dX3_addLine_103 ?_
        refine zr_goto C 114 dX3_addLine_106 (by decide) ?_
        exact hj114 _ hJ
    have hl48 : ∀ (n : Nat) (w2_48 : Int32) (σ_48 : zS), L_X3_addLine_48 p0 k72 n w2_48 σ_48 = some σ' → zU G 3 p l e (zrm 0 0) s m args below meth c (MQ below (va_Qv (fun (_ : Unit) => True) (fun _ t => zok G 137 (zen G σ') t) (zA G)) args s 0 0 (zA G)) σ_48 48 [(0, .ref (G.1 + p0)), (2, .int w2_48)] [] := by
      intro n
      induction n with
      | zero =>
        intro w2_48 σ_48 hJ
        rw [L_X3_addLine_48] at hJ
        cases hJ
      | succ n ih =>
        intro w2_48 σ_48 hJ
        rw [L_X3_addLine_48] at hJ
        obtain ⟨r_48, hr_48, hJ⟩ := zlet_e hJ
        have ih48 : ∀ (w2_48 : Int32) (σ_48 : zS), r_48 w2_48 σ_48 = some σ' → zU G 3 p l e (zrm 0 0) s m args below meth c (MQ below (va_Qv (fun (_ : Unit) => True) (fun _ t => zok G 137 (zen G σ') t) (zA G)) args s 0 0 (zA G)) σ_48 48 [(0, .ref (G.1 + p0)), (2, .int w2_48)] [] := by
          rw [hr_48]
          exact ih
        refine zr_iload_n C 1 dX3_addLine_48 rfl ?_
        refine zr_bipush C dX3_addLine_49 (v := (8 : Int32)) (by decide) ?_
        refine zr_icmp_ge C 72 dX3_addLine_51 (by decide) (fun hc14 => ?_) (fun hc14 => ?_)
        · have hJ := zif hc14 hJ
          refine zr_sub [0] [(0, .ref (G.1 + p0))] rfl ?_
          exact hj72 _ hJ
        · have hJ := zif' hc14 hJ
          refine zr_aload_n C 0 dX3_addLine_54 rfl ?_
          refine zg_3_4 C p0 (zkP_0 hp0) zm_3_22 dX3_addLine_55 ?_
          refine zr_aload_n C 0 dX3_addLine_58 rfl ?_
          refine zg_3_0 C p0 (zkP_0 hp0) zm_3_16 dX3_addLine_59 ?_
          obtain ⟨hg15, hJ⟩ := zg_e hJ
          refine zu_aald C (p0 + 4) (zkP_4 hp0) hg15 dX3_addLine_62 ?_
          refine zr_iload_n C 1 dX3_addLine_63 rfl ?_
          refine zr_iconst C dX3_addLine_64 (v := (0 : Int32)) (by decide) ?_
          obtain ⟨hg16, hJ⟩ := zg_e hJ
          obtain ⟨σ17, hσ17, hJ⟩ := zlet_e hJ
          refine zv_iast C ((p0 + 4) + 1 + (σ_48.1 p0 0).toNatClampNeg) (zk_rowP hp0 (zi_lt hg15)) hg16 hσ17 dX3_addLine_65 ?_
          obtain ⟨v18, hv18, hJ⟩ := zlet_e hJ
          refine zr_iinc C v18 1 [(2, .int v18), (0, .ref (G.1 + p0))] dX3_addLine_66 rfl (hv18.trans (zinc (by decide))) (by decide) rfl ?_
          refine zr_goto C 48 dX3_addLine_69 (by decide) ?_
          refine zr_sub [1, 0] [(0, .ref (G.1 + p0)), (2, .int v18)] rfl ?_
          exact ih48 _ _ hJ
    refine zr_sub [1, 0] [(0, .ref (G.1 + p0)), (2, .int (0 : Int32))] rfl ?_
    exact hl48 _ _ _ hJ
  · have hJ := zif' hc1 hJ
    exact zr_vret C hret rfl (congrArg (zen G) (zs_e hJ)) dX3_addLine_9
theorem dX3_setEvent_0 : decode cX3_setEvent 0 = .ok (.aload_n 0, 1) := by decide +kernel
theorem dX3_setEvent_1 : decode cX3_setEvent 1 = .ok (.getfield 9, 3) := by decide +kernel
theorem dX3_setEvent_4 : decode cX3_setEvent 4 = .ok (.ifCond .le 17, 3) := by decide +kernel
theorem dX3_setEvent_7 : decode cX3_setEvent 7 = .ok (.aload_n 0, 1) := by decide +kernel
theorem dX3_setEvent_8 : decode cX3_setEvent 8 = .ok (.getfield 27, 3) := by decide +kernel
theorem dX3_setEvent_11 : decode cX3_setEvent 11 = .ok (.aload_n 0, 1) := by decide +kernel
theorem dX3_setEvent_12 : decode cX3_setEvent 12 = .ok (.getfield 9, 3) := by decide +kernel
theorem dX3_setEvent_15 : decode cX3_setEvent 15 = .ok (.iconst 1, 1) := by decide +kernel
theorem dX3_setEvent_16 : decode cX3_setEvent 16 = .ok (.isub, 1) := by decide +kernel
theorem dX3_setEvent_17 : decode cX3_setEvent 17 = .ok (.aaload, 1) := by decide +kernel
theorem dX3_setEvent_18 : decode cX3_setEvent 18 = .ok (.iload_n 1, 1) := by decide +kernel
theorem dX3_setEvent_19 : decode cX3_setEvent 19 = .ok (.iload_n 2, 1) := by decide +kernel
theorem dX3_setEvent_20 : decode cX3_setEvent 20 = .ok (.iastore, 1) := by decide +kernel
theorem dX3_setEvent_21 : decode cX3_setEvent 21 = .ok (.return_, 1) := by decide +kernel
set_option maxRecDepth 100000 in
set_option maxHeartbeats 4000000 in
theorem M_X3_setEvent (G : zG) (l : Launch) {p0 : Nat} (hp0 : zP p0 = true) {a1 : Int32} {a2 : Int32} {σ : zS} {σ' : zS} (hJ : J_X3_setEvent p0 a1 a2 σ = some σ') : zMV G l yX3_setEvent cX3_setEvent 3 none (zrm 0 0) [.ref (G.1 + p0), .int a1, .int a2] 137 (zen G σ) 137 (zen G σ') := by
  unfold J_X3_setEvent at hJ
  refine zentV (by decide +kernel) (Nat.le_of_ble_eq_true rfl) ?_
  intro p e s m args below meth c C hret
  refine zr_sub [0, 1, 2] [(0, .ref (G.1 + p0)), (1, .int a1), (2, .int a2)] rfl ?_
  refine zr_aload_n C 0 dX3_setEvent_0 rfl ?_
  refine zg_3_0 C p0 (zkP_0 hp0) zm_3_16 dX3_setEvent_1 ?_
  refine zr_if_le C 21 dX3_setEvent_4 (by decide) (fun hc1 => ?_) (fun hc1 => ?_)
  · have hJ := zif hc1 hJ
    exact zr_vret C hret rfl (congrArg (zen G) (zs_e hJ)) dX3_setEvent_21
  · have hJ := zif' hc1 hJ
    refine zr_aload_n C 0 dX3_setEvent_7 rfl ?_
    refine zg_3_4 C p0 (zkP_0 hp0) zm_3_22 dX3_setEvent_8 ?_
    refine zr_aload_n C 0 dX3_setEvent_11 rfl ?_
    refine zg_3_0 C p0 (zkP_0 hp0) zm_3_16 dX3_setEvent_12 ?_
    refine zr_iconst C dX3_setEvent_15 (v := (1 : Int32)) (by decide) ?_
    refine zr_isub C dX3_setEvent_16 ?_
    obtain ⟨hg2, hJ⟩ := zg_e hJ
    refine zu_aald C (p0 + 4) (zkP_4 hp0) hg2 dX3_setEvent_17 ?_
    refine zr_iload_n C 1 dX3_setEvent_18 rfl ?_
    refine zr_iload_n C 2 dX3_setEvent_19 rfl ?_
    obtain ⟨hg3, hJ⟩ := zg_e hJ
    obtain ⟨σ4, hσ4, hJ⟩ := zlet_e hJ
    refine zv_iast C ((p0 + 4) + 1 + ((σ.1 p0 0) - (1 : Int32)).toNatClampNeg) (zk_rowP hp0 (zi_lt hg2)) hg3 hσ4 dX3_setEvent_20 ?_
    exact zr_vret C hret rfl (congrArg (zen G) (zs_e hJ)) dX3_setEvent_21
theorem dX4_eventNamed_0 : decode cX4_eventNamed 0 = .ok (.aload_n 0, 1) := by decide +kernel
theorem dX4_eventNamed_1 : decode cX4_eventNamed 1 = .ok (.getfield 18, 3) := by decide +kernel
theorem dX4_eventNamed_4 : decode cX4_eventNamed 4 = .ok (.aload_n 0, 1) := by decide +kernel
theorem dX4_eventNamed_5 : decode cX4_eventNamed 5 = .ok (.getfield 30, 3) := by decide +kernel
theorem dX4_eventNamed_8 : decode cX4_eventNamed 8 = .ok (.getfield 101, 3) := by decide +kernel
theorem dX4_eventNamed_11 : decode cX4_eventNamed 11 = .ok (.if_icmp .ge 21, 3) := by decide +kernel
theorem dX4_eventNamed_14 : decode cX4_eventNamed 14 = .ok (.aload_n 0, 1) := by decide +kernel
theorem dX4_eventNamed_15 : decode cX4_eventNamed 15 = .ok (.getfield 30, 3) := by decide +kernel
theorem dX4_eventNamed_18 : decode cX4_eventNamed 18 = .ok (.getfield 104, 3) := by decide +kernel
theorem dX4_eventNamed_21 : decode cX4_eventNamed 21 = .ok (.aload_n 0, 1) := by decide +kernel
theorem dX4_eventNamed_22 : decode cX4_eventNamed 22 = .ok (.getfield 18, 3) := by decide +kernel
theorem dX4_eventNamed_25 : decode cX4_eventNamed 25 = .ok (.baload, 1) := by decide +kernel
theorem dX4_eventNamed_26 : decode cX4_eventNamed 26 = .ok (.bipush 97, 2) := by decide +kernel
theorem dX4_eventNamed_28 : decode cX4_eventNamed 28 = .ok (.isub, 1) := by decide +kernel
theorem dX4_eventNamed_29 : decode cX4_eventNamed 29 = .ok (.goto 5, 3) := by decide +kernel
theorem dX4_eventNamed_32 : decode cX4_eventNamed 32 = .ok (.bipush (-4), 2) := by decide +kernel
theorem dX4_eventNamed_34 : decode cX4_eventNamed 34 = .ok (.istore_n 2, 1) := by decide +kernel
theorem dX4_eventNamed_35 : decode cX4_eventNamed 35 = .ok (.aload_n 0, 1) := by decide +kernel
theorem dX4_eventNamed_36 : decode cX4_eventNamed 36 = .ok (.getfield 15, 3) := by decide +kernel
theorem dX4_eventNamed_39 : decode cX4_eventNamed 39 = .ok (.ifCond .eq 11, 3) := by decide +kernel
theorem dX4_eventNamed_42 : decode cX4_eventNamed 42 = .ok (.aload_n 0, 1) := by decide +kernel
theorem dX4_eventNamed_43 : decode cX4_eventNamed 43 = .ok (.iconst 2, 1) := by decide +kernel
theorem dX4_eventNamed_44 : decode cX4_eventNamed 44 = .ok (.invokevirtual 74, 3) := by decide +kernel
theorem dX4_eventNamed_47 : decode cX4_eventNamed 47 = .ok (.goto 44, 3) := by decide +kernel
theorem dX4_eventNamed_50 : decode cX4_eventNamed 50 = .ok (.aload_n 0, 1) := by decide +kernel
theorem dX4_eventNamed_51 : decode cX4_eventNamed 51 = .ok (.getfield 9, 3) := by decide +kernel
theorem dX4_eventNamed_54 : decode cX4_eventNamed 54 = .ok (.aload_n 0, 1) := by decide +kernel
theorem dX4_eventNamed_55 : decode cX4_eventNamed 55 = .ok (.getfield 18, 3) := by decide +kernel
theorem dX4_eventNamed_58 : decode cX4_eventNamed 58 = .ok (.isub, 1) := by decide +kernel
theorem dX4_eventNamed_59 : decode cX4_eventNamed 59 = .ok (.iconst 1, 1) := by decide +kernel
theorem dX4_eventNamed_60 : decode cX4_eventNamed 60 = .ok (.if_icmp .ne 10, 3) := by decide +kernel
theorem dX4_eventNamed_63 : decode cX4_eventNamed 63 = .ok (.iload_n 2, 1) := by decide +kernel
theorem dX4_eventNamed_64 : decode cX4_eventNamed 64 = .ok (.invokestatic 108, 3) := by decide +kernel
theorem dX4_eventNamed_67 : decode cX4_eventNamed 67 = .ok (.ifCond .ne 11, 3) := by decide +kernel
theorem dX4_eventNamed_70 : decode cX4_eventNamed 70 = .ok (.aload_n 0, 1) := by decide +kernel
theorem dX4_eventNamed_71 : decode cX4_eventNamed 71 = .ok (.iconst 3, 1) := by decide +kernel
theorem dX4_eventNamed_72 : decode cX4_eventNamed 72 = .ok (.invokevirtual 74, 3) := by decide +kernel
theorem dX4_eventNamed_75 : decode cX4_eventNamed 75 = .ok (.goto 16, 3) := by decide +kernel
theorem dX4_eventNamed_78 : decode cX4_eventNamed 78 = .ok (.iload_n 2, 1) := by decide +kernel
theorem dX4_eventNamed_79 : decode cX4_eventNamed 79 = .ok (.iload_n 1, 1) := by decide +kernel
theorem dX4_eventNamed_80 : decode cX4_eventNamed 80 = .ok (.invokestatic 112, 3) := by decide +kernel
theorem dX4_eventNamed_83 : decode cX4_eventNamed 83 = .ok (.ifCond .eq 8, 3) := by decide +kernel
theorem dX4_eventNamed_86 : decode cX4_eventNamed 86 = .ok (.aload_n 0, 1) := by decide +kernel
theorem dX4_eventNamed_87 : decode cX4_eventNamed 87 = .ok (.iconst 4, 1) := by decide +kernel
theorem dX4_eventNamed_88 : decode cX4_eventNamed 88 = .ok (.invokevirtual 74, 3) := by decide +kernel
theorem dX4_eventNamed_91 : decode cX4_eventNamed 91 = .ok (.iload_n 2, 1) := by decide +kernel
theorem dX4_eventNamed_92 : decode cX4_eventNamed 92 = .ok (.ireturn, 1) := by decide +kernel
set_option maxRecDepth 100000 in
set_option maxHeartbeats 4000000 in
theorem M_X4_eventNamed (G : zG) (l : Launch) {a1 : Int32} {σ : zS} {r : Int32} {σ' : zS} (hJ : J_X4_eventNamed a1 σ = some (r, σ')) : zMI G l yX4_eventNamed cX4_eventNamed 3 (some .int) (zrm 2 41) [.ref (G.1 + 63), .int a1] 137 (zen G σ) r 137 (zen G σ') := by
  unfold J_X4_eventNamed at hJ
  refine zentI (by decide +kernel) (Nat.le_of_ble_eq_true rfl) ?_
  intro p e s m args below meth c C hret
  refine zr_sub [0, 1] [(0, .ref (G.1 + 63)), (1, .int a1)] rfl ?_
  refine zr_aload_n C 0 dX4_eventNamed_0 rfl ?_
  refine zg_4_4 C 63 zk_63 zm_4_19 dX4_eventNamed_1 ?_
  refine zr_aload_n C 0 dX4_eventNamed_4 rfl ?_
  refine zg_4_0 C 63 zk_63 zm_4_23 dX4_eventNamed_5 ?_
  refine zg_8_1 C 1 zk_1 zm_10_22 dX4_eventNamed_8 ?_
  obtain ⟨k34, hk34, hJ⟩ := zlet_e hJ
  have hj34 : ∀ (x0_34 : Int32), k34 x0_34 = some (r, σ') → zU G 3 p l e (zrm 2 41) s m args below meth c (MQ below (va_Qi (fun x (_ : Unit) => x = r) (fun _ t => zok G 137 (zen G σ') t) (zA G)) args s 0 0 (zA G)) σ 34 [(0, .ref (G.1 + 63)), (1, .int a1)] [.int x0_34] := by
    intro x0_34 hJ
    rw [hk34] at hJ
    unfold D_X4_eventNamed_34 at hJ
    refine zr_istore_n C [(2, .int x0_34), (0, .ref (G.1 + 63)), (1, .int a1)] dX4_eventNamed_34 (by decide) rfl ?_
    refine zr_aload_n C 1 dX4_eventNamed_35 rfl ?_
    refine zg_4_3 C 63 zk_63 zm_4_18 dX4_eventNamed_36 ?_
    refine zr_if_eq C 50 dX4_eventNamed_39 (by decide) (fun hc1 => ?_) (fun hc1 => ?_)
    · have hJ := zif hc1 hJ
      refine zr_aload_n C 1 dX4_eventNamed_50 rfl ?_
      refine zg_4_2 C 63 zk_63 zm_4_17 dX4_eventNamed_51 ?_
      refine zr_aload_n C 1 dX4_eventNamed_54 rfl ?_
      refine zg_4_4 C 63 zk_63 zm_4_19 dX4_eventNamed_55 ?_
      refine zr_isub C dX4_eventNamed_58 ?_
      refine zr_iconst C dX4_eventNamed_59 (v := (1 : Int32)) (by decide) ?_
      obtain ⟨k70, hk70, hJ⟩ := zlet_e hJ
      have hj70 : k70 = some (r, σ') → zU G 3 p l e (zrm 2 41) s m args below meth c (MQ below (va_Qi (fun x (_ : Unit) => x = r) (fun _ t => zok G 137 (zen G σ') t) (zA G)) args s 0 0 (zA G)) σ 70 [(0, .ref (G.1 + 63)), (2, .int x0_34)] [] := by
        intro hJ
        rw [hk70] at hJ
        unfold D_X4_eventNamed_70 at hJ
        refine zr_aload_n C 0 dX4_eventNamed_70 rfl ?_
        refine zr_iconst C dX4_eventNamed_71 (v := (3 : Int32)) (by decide) ?_
        obtain ⟨σ3, hr2, hJ⟩ := zb_e hJ
        refine zr_callVV C 63 (zk_lt zk_63 (by decide)) (zen_obj zk_63) (rfl : zcl[4]? = some (RX4, TX4, 8)) (M_X4_fail G l hr2) zin_X4_fail zm_11_14 rfl rfl (Nat.le_of_ble_eq_true rfl) ⟨Nat.le_of_ble_eq_true rfl, Nat.le_of_ble_eq_true rfl⟩ ⟨Nat.le_of_ble_eq_true rfl, Nat.le_of_ble_eq_true rfl⟩ dX4_eventNamed_72 ?_
        refine zr_goto C 91 dX4_eventNamed_75 (by decide) ?_
        refine zr_iload_n C 1 dX4_eventNamed_91 rfl ?_
        exact zr_iret C hret (Prod.mk.inj (zs_e hJ)).1 rfl (congrArg (zen G) (Prod.mk.inj (zs_e hJ)).2) dX4_eventNamed_92
      refine zr_icmp_ne C 70 dX4_eventNamed_60 (by decide) (fun hc4 => ?_) (fun hc4 => ?_)
      · have hJ := zif' hc4 hJ
        refine zr_sub [1, 0] [(0, .ref (G.1 + 63)), (2, .int x0_34)] rfl ?_
        exact hj70 hJ
      · have hJ := zif hc4 hJ
        refine zr_iload_n C 0 dX4_eventNamed_63 rfl ?_
        obtain ⟨r5, hr5, hJ⟩ := zb_e hJ
        refine zr_callnSI C (M_X10_isEvent G l hr5) zin_X10_isEvent zne_X4_108 rfl rfl (Nat.le_of_ble_eq_true rfl) ⟨Nat.le_of_ble_eq_true rfl, Nat.le_of_ble_eq_true rfl⟩ ⟨Nat.le_of_ble_eq_true rfl, Nat.le_of_ble_eq_true rfl⟩ dX4_eventNamed_64 ?_
        refine zr_if_ne C 78 dX4_eventNamed_67 (by decide) (fun hc6 => ?_) (fun hc6 => ?_)
        · have hJ := zif' hc6 hJ
          refine zr_iload_n C 0 dX4_eventNamed_78 rfl ?_
          refine zr_iload_n C 2 dX4_eventNamed_79 rfl ?_
          obtain ⟨r7, hr7, hJ⟩ := zb_e hJ
          refine zr_callnSI C (M_X10_isOneOf G l hr7) zin_X10_isOneOf zne_X4_112 rfl rfl (Nat.le_of_ble_eq_true rfl) ⟨Nat.le_of_ble_eq_true rfl, Nat.le_of_ble_eq_true rfl⟩ ⟨Nat.le_of_ble_eq_true rfl, Nat.le_of_ble_eq_true rfl⟩ dX4_eventNamed_80 ?_
          refine zr_if_eq C 91 dX4_eventNamed_83 (by decide) (fun hc8 => ?_) (fun hc8 => ?_)
          · have hJ := zif hc8 hJ
            refine zr_iload_n C 0 dX4_eventNamed_91 rfl ?_
            exact zr_iret C hret (Prod.mk.inj (zs_e hJ)).1 rfl (congrArg (zen G) (Prod.mk.inj (zs_e hJ)).2) dX4_eventNamed_92
          · have hJ := zif' hc8 hJ
            refine zr_aload_n C 1 dX4_eventNamed_86 rfl ?_
            refine zr_iconst C dX4_eventNamed_87 (v := (4 : Int32)) (by decide) ?_
            obtain ⟨σ10, hr9, hJ⟩ := zb_e hJ
            refine zr_callVV C 63 (zk_lt zk_63 (by decide)) (zen_obj zk_63) (rfl : zcl[4]? = some (RX4, TX4, 8)) (M_X4_fail G l hr9) zin_X4_fail zm_11_14 rfl rfl (Nat.le_of_ble_eq_true rfl) ⟨Nat.le_of_ble_eq_true rfl, Nat.le_of_ble_eq_true rfl⟩ ⟨Nat.le_of_ble_eq_true rfl, Nat.le_of_ble_eq_true rfl⟩ dX4_eventNamed_88 ?_
            refine zr_iload_n C 0 dX4_eventNamed_91 rfl ?_
            exact zr_iret C hret (Prod.mk.inj (zs_e hJ)).1 rfl (congrArg (zen G) (Prod.mk.inj (zs_e hJ)).2) dX4_eventNamed_92
        · have hJ := zif hc6 hJ
          refine zr_sub [1, 0] [(0, .ref (G.1 + 63)), (2, .int x0_34)] rfl ?_
          exact hj70 hJ
    · have hJ := zif' hc1 hJ
      refine zr_aload_n C 1 dX4_eventNamed_42 rfl ?_
      refine zr_iconst C dX4_eventNamed_43 (v := (2 : Int32)) (by decide) ?_
      obtain ⟨σ12, hr11, hJ⟩ := zb_e hJ
      refine zr_callVV C 63 (zk_lt zk_63 (by decide)) (zen_obj zk_63) (rfl : zcl[4]? = some (RX4, TX4, 8)) (M_X4_fail G l hr11) zin_X4_fail zm_11_14 rfl rfl (Nat.le_of_ble_eq_true rfl) ⟨Nat.le_of_ble_eq_true rfl, Nat.le_of_ble_eq_true rfl⟩ ⟨Nat.le_of_ble_eq_true rfl, Nat.le_of_ble_eq_true rfl⟩ dX4_eventNamed_44 ?_
      refine zr_goto C 91 dX4_eventNamed_47 (by decide) ?_
      refine zr_iload_n C 0 dX4_eventNamed_91 rfl ?_
      exact zr_iret C hret (Prod.mk.inj (zs_e hJ)).1 rfl (congrArg (zen G) (Prod.mk.inj (zs_e hJ)).2) dX4_eventNamed_92
  refine zr_icmp_ge C 32 dX4_eventNamed_11 (by decide) (fun hc13 => ?_) (fun hc13 => ?_)
  · have hJ := zif hc13 hJ
    refine zr_bipush C dX4_eventNamed_32 (v := (-4 : Int32)) (by decide) ?_
    exact hj34 _ hJ
  · have hJ := zif' hc13 hJ
    refine zr_aload_n C 0 dX4_eventNamed_14 rfl ?_
    refine zg_4_0 C 63 zk_63 zm_4_23 dX4_eventNamed_15 ?_
    refine zg_8_0 C 1 zk_1 zm_10_23 dX4_eventNamed_18 ?_
    refine zr_aload_n C 0 dX4_eventNamed_21 rfl ?_
    refine zg_4_4 C 63 zk_63 zm_4_19 dX4_eventNamed_22 ?_
    obtain ⟨hg14, hJ⟩ := zg_e hJ
    refine zu_bald C 2 zk_2 hg14 dX4_eventNamed_25 ?_
    refine zr_bipush C dX4_eventNamed_26 (v := (97 : Int32)) (by decide) ?_
    refine zr_isub C dX4_eventNamed_28 ?_
    refine zr_goto C 34 dX4_eventNamed_29 (by decide) ?_
    exact hj34 _ hJ
theorem dX4_isFigure_0 : decode cX4_isFigure 0 = .ok (.iload_n 0, 1) := by decide +kernel
theorem dX4_isFigure_1 : decode cX4_isFigure 1 = .ok (.bipush 48, 2) := by decide +kernel
theorem dX4_isFigure_3 : decode cX4_isFigure 3 = .ok (.if_icmp .lt 13, 3) := by decide +kernel
theorem dX4_isFigure_6 : decode cX4_isFigure 6 = .ok (.iload_n 0, 1) := by decide +kernel
theorem dX4_isFigure_7 : decode cX4_isFigure 7 = .ok (.bipush 57, 2) := by decide +kernel
theorem dX4_isFigure_9 : decode cX4_isFigure 9 = .ok (.if_icmp .gt 7, 3) := by decide +kernel
theorem dX4_isFigure_12 : decode cX4_isFigure 12 = .ok (.iconst 1, 1) := by decide +kernel
theorem dX4_isFigure_13 : decode cX4_isFigure 13 = .ok (.goto 4, 3) := by decide +kernel
theorem dX4_isFigure_16 : decode cX4_isFigure 16 = .ok (.iconst 0, 1) := by decide +kernel
theorem dX4_isFigure_17 : decode cX4_isFigure 17 = .ok (.ireturn, 1) := by decide +kernel
set_option maxRecDepth 100000 in
set_option maxHeartbeats 4000000 in
theorem M_X4_isFigure (G : zG) (l : Launch) {a0 : Int32} {σ : zS} {r : Int32} (hJ : J_X4_isFigure a0 σ = some r) : zMI G l yX4_isFigure cX4_isFigure 1 (some .boolean) (zrm 0 0) [.int a0] 137 (zen G σ) r 137 (zen G σ) := by
  unfold J_X4_isFigure at hJ
  refine zentI (by decide +kernel) (Nat.le_of_ble_eq_true rfl) ?_
  intro p e s m args below meth c C hret
  refine zr_sub [0] [(0, .int a0)] rfl ?_
  refine zr_iload_n C 0 dX4_isFigure_0 rfl ?_
  refine zr_bipush C dX4_isFigure_1 (v := (48 : Int32)) (by decide) ?_
  refine zr_icmp_lt C 16 dX4_isFigure_3 (by decide) (fun hc1 => ?_) (fun hc1 => ?_)
  · have hJ := zif hc1 hJ
    refine zr_iconst C dX4_isFigure_16 (v := (0 : Int32)) (by decide) ?_
    exact zr_zret C hret (zs_e hJ) rfl rfl rfl dX4_isFigure_17
  · have hJ := zif' hc1 hJ
    refine zr_iload_n C 0 dX4_isFigure_6 rfl ?_
    refine zr_bipush C dX4_isFigure_7 (v := (57 : Int32)) (by decide) ?_
    refine zr_icmp_gt C 16 dX4_isFigure_9 (by decide) (fun hc2 => ?_) (fun hc2 => ?_)
    · have hJ := zif hc2 hJ
      refine zr_iconst C dX4_isFigure_16 (v := (0 : Int32)) (by decide) ?_
      exact zr_zret C hret (zs_e hJ) rfl rfl rfl dX4_isFigure_17
    · have hJ := zif' hc2 hJ
      refine zr_iconst C dX4_isFigure_12 (v := (1 : Int32)) (by decide) ?_
      refine zr_goto C 17 dX4_isFigure_13 (by decide) ?_
      exact zr_zret C hret (zs_e hJ) rfl rfl rfl dX4_isFigure_17
theorem dX4_isLetter_0 : decode cX4_isLetter 0 = .ok (.iload_n 0, 1) := by decide +kernel
theorem dX4_isLetter_1 : decode cX4_isLetter 1 = .ok (.bipush 97, 2) := by decide +kernel
theorem dX4_isLetter_3 : decode cX4_isLetter 3 = .ok (.if_icmp .lt 13, 3) := by decide +kernel
theorem dX4_isLetter_6 : decode cX4_isLetter 6 = .ok (.iload_n 0, 1) := by decide +kernel
theorem dX4_isLetter_7 : decode cX4_isLetter 7 = .ok (.bipush 122, 2) := by decide +kernel
theorem dX4_isLetter_9 : decode cX4_isLetter 9 = .ok (.if_icmp .gt 7, 3) := by decide +kernel
theorem dX4_isLetter_12 : decode cX4_isLetter 12 = .ok (.iconst 1, 1) := by decide +kernel
theorem dX4_isLetter_13 : decode cX4_isLetter 13 = .ok (.goto 4, 3) := by decide +kernel
theorem dX4_isLetter_16 : decode cX4_isLetter 16 = .ok (.iconst 0, 1) := by decide +kernel
theorem dX4_isLetter_17 : decode cX4_isLetter 17 = .ok (.ireturn, 1) := by decide +kernel
set_option maxRecDepth 100000 in
set_option maxHeartbeats 4000000 in
theorem M_X4_isLetter (G : zG) (l : Launch) {a0 : Int32} {σ : zS} {r : Int32} (hJ : J_X4_isLetter a0 σ = some r) : zMI G l yX4_isLetter cX4_isLetter 1 (some .boolean) (zrm 0 0) [.int a0] 137 (zen G σ) r 137 (zen G σ) := by
  unfold J_X4_isLetter at hJ
  refine zentI (by decide +kernel) (Nat.le_of_ble_eq_true rfl) ?_
  intro p e s m args below meth c C hret
  refine zr_sub [0] [(0, .int a0)] rfl ?_
  refine zr_iload_n C 0 dX4_isLetter_0 rfl ?_
  refine zr_bipush C dX4_isLetter_1 (v := (97 : Int32)) (by decide) ?_
  refine zr_icmp_lt C 16 dX4_isLetter_3 (by decide) (fun hc1 => ?_) (fun hc1 => ?_)
  · have hJ := zif hc1 hJ
    refine zr_iconst C dX4_isLetter_16 (v := (0 : Int32)) (by decide) ?_
    exact zr_zret C hret (zs_e hJ) rfl rfl rfl dX4_isLetter_17
  · have hJ := zif' hc1 hJ
    refine zr_iload_n C 0 dX4_isLetter_6 rfl ?_
    refine zr_bipush C dX4_isLetter_7 (v := (122 : Int32)) (by decide) ?_
    refine zr_icmp_gt C 16 dX4_isLetter_9 (by decide) (fun hc2 => ?_) (fun hc2 => ?_)
    · have hJ := zif hc2 hJ
      refine zr_iconst C dX4_isLetter_16 (v := (0 : Int32)) (by decide) ?_
      exact zr_zret C hret (zs_e hJ) rfl rfl rfl dX4_isLetter_17
    · have hJ := zif' hc2 hJ
      refine zr_iconst C dX4_isLetter_12 (v := (1 : Int32)) (by decide) ?_
      refine zr_goto C 17 dX4_isLetter_13 (by decide) ?_
      exact zr_zret C hret (zs_e hJ) rfl rfl rfl dX4_isLetter_17
theorem dX4_takeFigures_0 : decode cX4_takeFigures 0 = .ok (.aload_n 0, 1) := by decide +kernel
theorem dX4_takeFigures_1 : decode cX4_takeFigures 1 = .ok (.iconst 1, 1) := by decide +kernel
theorem dX4_takeFigures_2 : decode cX4_takeFigures 2 = .ok (.putfield 15, 3) := by decide +kernel
theorem dX4_takeFigures_5 : decode cX4_takeFigures 5 = .ok (.aload_n 0, 1) := by decide +kernel
theorem dX4_takeFigures_6 : decode cX4_takeFigures 6 = .ok (.iconst 0, 1) := by decide +kernel
theorem dX4_takeFigures_7 : decode cX4_takeFigures 7 = .ok (.putfield 21, 3) := by decide +kernel
theorem dX4_takeFigures_10 : decode cX4_takeFigures 10 = .ok (.aload_n 0, 1) := by decide +kernel
theorem dX4_takeFigures_11 : decode cX4_takeFigures 11 = .ok (.getfield 9, 3) := by decide +kernel
theorem dX4_takeFigures_14 : decode cX4_takeFigures 14 = .ok (.aload_n 0, 1) := by decide +kernel
theorem dX4_takeFigures_15 : decode cX4_takeFigures 15 = .ok (.getfield 30, 3) := by decide +kernel
theorem dX4_takeFigures_18 : decode cX4_takeFigures 18 = .ok (.getfield 101, 3) := by decide +kernel
theorem dX4_takeFigures_21 : decode cX4_takeFigures 21 = .ok (.if_icmp .ge 74, 3) := by decide +kernel
theorem dX4_takeFigures_24 : decode cX4_takeFigures 24 = .ok (.aload_n 0, 1) := by decide +kernel
theorem dX4_takeFigures_25 : decode cX4_takeFigures 25 = .ok (.getfield 30, 3) := by decide +kernel
theorem dX4_takeFigures_28 : decode cX4_takeFigures 28 = .ok (.getfield 104, 3) := by decide +kernel
theorem dX4_takeFigures_31 : decode cX4_takeFigures 31 = .ok (.aload_n 0, 1) := by decide +kernel
theorem dX4_takeFigures_32 : decode cX4_takeFigures 32 = .ok (.getfield 9, 3) := by decide +kernel
theorem dX4_takeFigures_35 : decode cX4_takeFigures 35 = .ok (.baload, 1) := by decide +kernel
theorem dX4_takeFigures_36 : decode cX4_takeFigures 36 = .ok (.invokestatic 125, 3) := by decide +kernel
theorem dX4_takeFigures_39 : decode cX4_takeFigures 39 = .ok (.ifCond .eq 56, 3) := by decide +kernel
theorem dX4_takeFigures_42 : decode cX4_takeFigures 42 = .ok (.aload_n 0, 1) := by decide +kernel
theorem dX4_takeFigures_43 : decode cX4_takeFigures 43 = .ok (.getfield 9, 3) := by decide +kernel
theorem dX4_takeFigures_46 : decode cX4_takeFigures 46 = .ok (.aload_n 0, 1) := by decide +kernel
theorem dX4_takeFigures_47 : decode cX4_takeFigures 47 = .ok (.getfield 18, 3) := by decide +kernel
theorem dX4_takeFigures_50 : decode cX4_takeFigures 50 = .ok (.isub, 1) := by decide +kernel
theorem dX4_takeFigures_51 : decode cX4_takeFigures 51 = .ok (.iconst 2, 1) := by decide +kernel
theorem dX4_takeFigures_52 : decode cX4_takeFigures 52 = .ok (.if_icmp .ge 30, 3) := by decide +kernel
theorem dX4_takeFigures_55 : decode cX4_takeFigures 55 = .ok (.aload_n 0, 1) := by decide +kernel
theorem dX4_takeFigures_56 : decode cX4_takeFigures 56 = .ok (.aload_n 0, 1) := by decide +kernel
theorem dX4_takeFigures_57 : decode cX4_takeFigures 57 = .ok (.getfield 21, 3) := by decide +kernel
theorem dX4_takeFigures_60 : decode cX4_takeFigures 60 = .ok (.bipush 10, 2) := by decide +kernel
theorem dX4_takeFigures_62 : decode cX4_takeFigures 62 = .ok (.imul, 1) := by decide +kernel
theorem dX4_takeFigures_63 : decode cX4_takeFigures 63 = .ok (.aload_n 0, 1) := by decide +kernel
theorem dX4_takeFigures_64 : decode cX4_takeFigures 64 = .ok (.getfield 30, 3) := by decide +kernel
theorem dX4_takeFigures_67 : decode cX4_takeFigures 67 = .ok (.getfield 104, 3) := by decide +kernel
theorem dX4_takeFigures_70 : decode cX4_takeFigures 70 = .ok (.aload_n 0, 1) := by decide +kernel
theorem dX4_takeFigures_71 : decode cX4_takeFigures 71 = .ok (.getfield 9, 3) := by decide +kernel
theorem dX4_takeFigures_74 : decode cX4_takeFigures 74 = .ok (.baload, 1) := by decide +kernel
theorem dX4_takeFigures_75 : decode cX4_takeFigures 75 = .ok (.iadd, 1) := by decide +kernel
theorem dX4_takeFigures_76 : decode cX4_takeFigures 76 = .ok (.bipush 48, 2) := by decide +kernel
theorem dX4_takeFigures_78 : decode cX4_takeFigures 78 = .ok (.isub, 1) := by decide +kernel
theorem dX4_takeFigures_79 : decode cX4_takeFigures 79 = .ok (.putfield 21, 3) := by decide +kernel
theorem dX4_takeFigures_82 : decode cX4_takeFigures 82 = .ok (.aload_n 0, 1) := by decide +kernel
theorem dX4_takeFigures_83 : decode cX4_takeFigures 83 = .ok (.dup, 1) := by decide +kernel
theorem dX4_takeFigures_84 : decode cX4_takeFigures 84 = .ok (.getfield 9, 3) := by decide +kernel
theorem dX4_takeFigures_87 : decode cX4_takeFigures 87 = .ok (.iconst 1, 1) := by decide +kernel
theorem dX4_takeFigures_88 : decode cX4_takeFigures 88 = .ok (.iadd, 1) := by decide +kernel
theorem dX4_takeFigures_89 : decode cX4_takeFigures 89 = .ok (.putfield 9, 3) := by decide +kernel
theorem dX4_takeFigures_92 : decode cX4_takeFigures 92 = .ok (.goto (-82), 3) := by decide +kernel
theorem dX4_takeFigures_95 : decode cX4_takeFigures 95 = .ok (.aload_n 0, 1) := by decide +kernel
theorem dX4_takeFigures_96 : decode cX4_takeFigures 96 = .ok (.getfield 9, 3) := by decide +kernel
theorem dX4_takeFigures_99 : decode cX4_takeFigures 99 = .ok (.aload_n 0, 1) := by decide +kernel
theorem dX4_takeFigures_100 : decode cX4_takeFigures 100 = .ok (.getfield 18, 3) := by decide +kernel
theorem dX4_takeFigures_103 : decode cX4_takeFigures 103 = .ok (.isub, 1) := by decide +kernel
theorem dX4_takeFigures_104 : decode cX4_takeFigures 104 = .ok (.iconst 2, 1) := by decide +kernel
theorem dX4_takeFigures_105 : decode cX4_takeFigures 105 = .ok (.if_icmp .le 8, 3) := by decide +kernel
theorem dX4_takeFigures_108 : decode cX4_takeFigures 108 = .ok (.aload_n 0, 1) := by decide +kernel
theorem dX4_takeFigures_109 : decode cX4_takeFigures 109 = .ok (.iconst 1, 1) := by decide +kernel
theorem dX4_takeFigures_110 : decode cX4_takeFigures 110 = .ok (.invokevirtual 74, 3) := by decide +kernel
theorem dX4_takeFigures_113 : decode cX4_takeFigures 113 = .ok (.return_, 1) := by decide +kernel
set_option maxRecDepth 100000 in
set_option maxHeartbeats 4000000 in
theorem M_X4_takeFigures (G : zG) (l : Launch) {σ : zS} {σ' : zS} (hJ : J_X4_takeFigures σ = some σ') : zMV G l yX4_takeFigures cX4_takeFigures 1 none (zrm 1 21) [.ref (G.1 + 63)] 137 (zen G σ) 137 (zen G σ') := by
  unfold J_X4_takeFigures at hJ
  refine zentV (by decide +kernel) (Nat.le_of_ble_eq_true rfl) ?_
  intro p e s m args below meth c C hret
  refine zr_sub [0] [(0, .ref (G.1 + 63))] rfl ?_
  refine zr_aload_n C 0 dX4_takeFigures_0 rfl ?_
  refine zr_iconst C dX4_takeFigures_1 (v := (1 : Int32)) (by decide) ?_
  obtain ⟨σ1, hσ1, hJ⟩ := zlet_e hJ
  refine zp_4_3 C 63 zk_63 zm_4_18 hσ1 dX4_takeFigures_2 ?_
  refine zr_aload_n C 0 dX4_takeFigures_5 rfl ?_
  refine zr_iconst C dX4_takeFigures_6 (v := (0 : Int32)) (by decide) ?_
  obtain ⟨σ2, hσ2, hJ⟩ := zlet_e hJ
  refine zp_4_5 C 63 zk_63 zm_4_20 hσ2 dX4_takeFigures_7 ?_
  obtain ⟨k95, hk95, hJ⟩ := zlet_e hJ
  have hj95 : ∀ (σ_95 : zS), k95 σ_95 = some σ' → zU G 1 p l e (zrm 1 21) s m args below meth c (MQ below (va_Qv (fun (_ : Unit) => True) (fun _ t => zok G 137 (zen G σ') t) (zA G)) args s 0 0 (zA G)) σ_95 95 [(0, .ref (G.1 + 63))] [] := by
    intro σ_95 hJ
    rw [hk95] at hJ
    unfold D_X4_takeFigures_95 at hJ
    refine zr_aload_n C 0 dX4_takeFigures_95 rfl ?_
    refine zg_4_2 C 63 zk_63 zm_4_17 dX4_takeFigures_96 ?_
    refine zr_aload_n C 0 dX4_takeFigures_99 rfl ?_
    refine zg_4_4 C 63 zk_63 zm_4_19 dX4_takeFigures_100 ?_
    refine zr_isub C dX4_takeFigures_103 ?_
    refine zr_iconst C dX4_takeFigures_104 (v := (2 : Int32)) (by decide) ?_
    refine zr_icmp_le C 113 dX4_takeFigures_105 (by decide) (fun hc3 => ?_) (fun hc3 => ?_)
    · have hJ := zif hc3 hJ
      exact zr_vret C hret rfl (congrArg (zen G) (zs_e hJ)) dX4_takeFigures_113
    · have hJ := zif' hc3 hJ
      refine zr_aload_n C 0 dX4_takeFigures_108 rfl ?_
      refine zr_iconst C dX4_takeFigures_109 (v := (1 : Int32)) (by decide) ?_
      obtain ⟨σ5, hr4, hJ⟩ := zb_e hJ
      refine zr_callVV C 63 (zk_lt zk_63 (by decide)) (zen_obj zk_63) (rfl : zcl[4]? = some (RX4, TX4, 8)) (M_X4_fail G l hr4) zin_X4_fail zm_11_14 rfl rfl (Nat.le_of_ble_eq_true rfl) ⟨Nat.le_of_ble_eq_true rfl, Nat.le_of_ble_eq_true rfl⟩ ⟨Nat.le_of_ble_eq_true rfl, Nat.le_of_ble_eq_true rfl⟩ dX4_takeFigures_110 ?_
      exact zr_vret C hret rfl (congrArg (zen G) (zs_e hJ)) dX4_takeFigures_113
  have hl10 : ∀ (n : Nat) (σ_10 : zS), L_X4_takeFigures_10 k95 n σ_10 = some σ' → zU G 1 p l e (zrm 1 21) s m args below meth c (MQ below (va_Qv (fun (_ : Unit) => True) (fun _ t => zok G 137 (zen G σ') t) (zA G)) args s 0 0 (zA G)) σ_10 10 [(0, .ref (G.1 + 63))] [] := by
    intro n
    induction n with
    | zero =>
      intro σ_10 hJ
      rw [L_X4_takeFigures_10] at hJ
      cases hJ
    | succ n ih =>
      intro σ_10 hJ
      rw [L_X4_takeFigures_10] at hJ
      obtain ⟨r_10, hr_10, hJ⟩ := zlet_e hJ
      have ih10 : ∀ (σ_10 : zS), r_10 σ_10 = some σ' → zU G 1 p l e (zrm 1 21) s m args below meth c (MQ below (va_Qv (fun (_ : Unit) => True) (fun _ t => zok G 137 (zen G σ') t) (zA G)) args s 0 0 (zA G)) σ_10 10 [(0, .ref (G.1 + 63))] [] := by
        rw [hr_10]
        exact ih
      refine zr_aload_n C 0 dX4_takeFigures_10 rfl ?_
      refine zg_4_2 C 63 zk_63 zm_4_17 dX4_takeFigures_11 ?_
      refine zr_aload_n C 0 dX4_takeFigures_14 rfl ?_
      refine zg_4_0 C 63 zk_63 zm_4_23 dX4_takeFigures_15 ?_
      refine zg_8_1 C 1 zk_1 zm_10_22 dX4_takeFigures_18 ?_
      refine zr_icmp_ge C 95 dX4_takeFigures_21 (by decide) (fun hc6 => ?_) (fun hc6 => ?_)
      · have hJ := zif hc6 hJ
        exact hj95 _ hJ
      · have hJ := zif' hc6 hJ
        refine zr_aload_n C 0 dX4_takeFigures_24 rfl ?_
        refine zg_4_0 C 63 zk_63 zm_4_23 dX4_takeFigures_25 ?_
        refine zg_8_0 C 1 zk_1 zm_10_23 dX4_takeFigures_28 ?_
        refine zr_aload_n C 0 dX4_takeFigures_31 rfl ?_
        refine zg_4_2 C 63 zk_63 zm_4_17 dX4_takeFigures_32 ?_
        obtain ⟨hg7, hJ⟩ := zg_e hJ
        refine zu_bald C 2 zk_2 hg7 dX4_takeFigures_35 ?_
        obtain ⟨r8, hr8, hJ⟩ := zb_e hJ
        refine zr_callSI C (M_X4_isFigure G l hr8) zin_X4_isFigure zm_11_7 rfl rfl (Nat.le_of_ble_eq_true rfl) ⟨Nat.le_of_ble_eq_true rfl, Nat.le_of_ble_eq_true rfl⟩ ⟨Nat.le_of_ble_eq_true rfl, Nat.le_of_ble_eq_true rfl⟩ dX4_takeFigures_36 ?_
        refine zr_if_eq C 95 dX4_takeFigures_39 (by decide) (fun hc9 => ?_) (fun hc9 => ?_)
        · have hJ := zif hc9 hJ
          exact hj95 _ hJ
        · have hJ := zif' hc9 hJ
          refine zr_aload_n C 0 dX4_takeFigures_42 rfl ?_
          refine zg_4_2 C 63 zk_63 zm_4_17 dX4_takeFigures_43 ?_
          refine zr_aload_n C 0 dX4_takeFigures_46 rfl ?_
          refine zg_4_4 C 63 zk_63 zm_4_19 dX4_takeFigures_47 ?_
          refine zr_isub C dX4_takeFigures_50 ?_
          refine zr_iconst C dX4_takeFigures_51 (v := (2 : Int32)) (by decide) ?_
          obtain ⟨k82, hk82, hJ⟩ := zlet_e hJ
          have hj82 : ∀ (σ_82 : zS), k82 σ_82 = some σ' → zU G 1 p l e (zrm 1 21) s m args below meth c (MQ below (va_Qv (fun (_ : Unit) => True) (fun _ t => zok G 137 (zen G σ') t) (zA G)) args s 0 0 (zA G)) σ_82 82 [(0, .ref (G.1 + 63))] [] := by
            intro σ_82 hJ
            rw [hk82] at hJ
            unfold D_X4_takeFigures_82 at hJ
            refine zr_aload_n C 0 dX4_takeFigures_82 rfl ?_
            refine zr_dup C dX4_takeFigures_83 rfl ?_
            refine zg_4_2 C 63 zk_63 zm_4_17 dX4_takeFigures_84 ?_
            refine zr_iconst C dX4_takeFigures_87 (v := (1 : Int32)) (by decide) ?_
            refine zr_iadd C dX4_takeFigures_88 ?_
            obtain ⟨σ10, hσ10, hJ⟩ := zlet_e hJ
            refine zp_4_2 C 63 zk_63 zm_4_17 hσ10 dX4_takeFigures_89 ?_
            refine zr_goto C 10 dX4_takeFigures_92 (by decide) ?_
            exact ih10 _ hJ
          refine zr_icmp_ge C 82 dX4_takeFigures_52 (by decide) (fun hc11 => ?_) (fun hc11 => ?_)
          · have hJ := zif hc11 hJ
            exact hj82 _ hJ
          · have hJ := zif' hc11 hJ
            refine zr_aload_n C 0 dX4_takeFigures_55 rfl ?_
            refine zr_aload_n C 0 dX4_takeFigures_56 rfl ?_
            refine zg_4_5 C 63 zk_63 zm_4_20 dX4_takeFigures_57 ?_
            refine zr_bipush C dX4_takeFigures_60 (v := (10 : Int32)) (by decide) ?_
            refine zr_imul C dX4_takeFigures_62 ?_
            refine zr_aload_n C 0 dX4_takeFigures_63 rfl ?_
            refine zg_4_0 C 63 zk_63 zm_4_23 dX4_takeFigures_64 ?_
            refine zg_8_0 C 1 zk_1 zm_10_23 dX4_takeFigures_67 ?_
            refine zr_aload_n C 0 dX4_takeFigures_70 rfl ?_
            refine zg_4_2 C 63 zk_63 zm_4_17 dX4_takeFigures_71 ?_
            obtain ⟨hg12, hJ⟩ := zg_e hJ
            refine zu_bald C 2 zk_2 hg12 dX4_takeFigures_74 ?_
            refine zr_iadd C dX4_takeFigures_75 ?_
            refine zr_bipush C dX4_takeFigures_76 (v := (48 : Int32)) (by decide) ?_
            refine zr_isub C dX4_takeFigures_78 ?_
            obtain ⟨σ13, hσ13, hJ⟩ := zlet_e hJ
            refine zp_4_5 C 63 zk_63 zm_4_20 hσ13 dX4_takeFigures_79 ?_
            exact hj82 _ hJ
  exact hl10 _ _ hJ
theorem dX4_takeLetters_0 : decode cX4_takeLetters 0 = .ok (.aload_n 0, 1) := by decide +kernel
theorem dX4_takeLetters_1 : decode cX4_takeLetters 1 = .ok (.iconst 0, 1) := by decide +kernel
theorem dX4_takeLetters_2 : decode cX4_takeLetters 2 = .ok (.putfield 15, 3) := by decide +kernel
theorem dX4_takeLetters_5 : decode cX4_takeLetters 5 = .ok (.aload_n 0, 1) := by decide +kernel
theorem dX4_takeLetters_6 : decode cX4_takeLetters 6 = .ok (.getfield 9, 3) := by decide +kernel
theorem dX4_takeLetters_9 : decode cX4_takeLetters 9 = .ok (.aload_n 0, 1) := by decide +kernel
theorem dX4_takeLetters_10 : decode cX4_takeLetters 10 = .ok (.getfield 30, 3) := by decide +kernel
theorem dX4_takeLetters_13 : decode cX4_takeLetters 13 = .ok (.getfield 101, 3) := by decide +kernel
theorem dX4_takeLetters_16 : decode cX4_takeLetters 16 = .ok (.if_icmp .ge 34, 3) := by decide +kernel
theorem dX4_takeLetters_19 : decode cX4_takeLetters 19 = .ok (.aload_n 0, 1) := by decide +kernel
theorem dX4_takeLetters_20 : decode cX4_takeLetters 20 = .ok (.getfield 30, 3) := by decide +kernel
theorem dX4_takeLetters_23 : decode cX4_takeLetters 23 = .ok (.getfield 104, 3) := by decide +kernel
theorem dX4_takeLetters_26 : decode cX4_takeLetters 26 = .ok (.aload_n 0, 1) := by decide +kernel
theorem dX4_takeLetters_27 : decode cX4_takeLetters 27 = .ok (.getfield 9, 3) := by decide +kernel
theorem dX4_takeLetters_30 : decode cX4_takeLetters 30 = .ok (.baload, 1) := by decide +kernel
theorem dX4_takeLetters_31 : decode cX4_takeLetters 31 = .ok (.invokestatic 119, 3) := by decide +kernel
theorem dX4_takeLetters_34 : decode cX4_takeLetters 34 = .ok (.ifCond .eq 16, 3) := by decide +kernel
theorem dX4_takeLetters_37 : decode cX4_takeLetters 37 = .ok (.aload_n 0, 1) := by decide +kernel
theorem dX4_takeLetters_38 : decode cX4_takeLetters 38 = .ok (.dup, 1) := by decide +kernel
theorem dX4_takeLetters_39 : decode cX4_takeLetters 39 = .ok (.getfield 9, 3) := by decide +kernel
theorem dX4_takeLetters_42 : decode cX4_takeLetters 42 = .ok (.iconst 1, 1) := by decide +kernel
theorem dX4_takeLetters_43 : decode cX4_takeLetters 43 = .ok (.iadd, 1) := by decide +kernel
theorem dX4_takeLetters_44 : decode cX4_takeLetters 44 = .ok (.putfield 9, 3) := by decide +kernel
theorem dX4_takeLetters_47 : decode cX4_takeLetters 47 = .ok (.goto (-42), 3) := by decide +kernel
theorem dX4_takeLetters_50 : decode cX4_takeLetters 50 = .ok (.return_, 1) := by decide +kernel
set_option maxRecDepth 100000 in
set_option maxHeartbeats 4000000 in
theorem M_X4_takeLetters (G : zG) (l : Launch) {σ : zS} {σ' : zS} (hJ : J_X4_takeLetters σ = some σ') : zMV G l yX4_takeLetters cX4_takeLetters 1 none (zrm 1 20) [.ref (G.1 + 63)] 137 (zen G σ) 137 (zen G σ') := by
  unfold J_X4_takeLetters at hJ
  refine zentV (by decide +kernel) (Nat.le_of_ble_eq_true rfl) ?_
  intro p e s m args below meth c C hret
  refine zr_sub [0] [(0, .ref (G.1 + 63))] rfl ?_
  refine zr_aload_n C 0 dX4_takeLetters_0 rfl ?_
  refine zr_iconst C dX4_takeLetters_1 (v := (0 : Int32)) (by decide) ?_
  obtain ⟨σ1, hσ1, hJ⟩ := zlet_e hJ
  refine zp_4_3 C 63 zk_63 zm_4_18 hσ1 dX4_takeLetters_2 ?_
  have hl5 : ∀ (n : Nat) (σ_5 : zS), L_X4_takeLetters_5 n σ_5 = some σ' → zU G 1 p l e (zrm 1 20) s m args below meth c (MQ below (va_Qv (fun (_ : Unit) => True) (fun _ t => zok G 137 (zen G σ') t) (zA G)) args s 0 0 (zA G)) σ_5 5 [(0, .ref (G.1 + 63))] [] := by
    intro n
    induction n with
    | zero =>
      intro σ_5 hJ
      rw [L_X4_takeLetters_5] at hJ
      cases hJ
    | succ n ih =>
      intro σ_5 hJ
      rw [L_X4_takeLetters_5] at hJ
      obtain ⟨r_5, hr_5, hJ⟩ := zlet_e hJ
      have ih5 : ∀ (σ_5 : zS), r_5 σ_5 = some σ' → zU G 1 p l e (zrm 1 20) s m args below meth c (MQ below (va_Qv (fun (_ : Unit) => True) (fun _ t => zok G 137 (zen G σ') t) (zA G)) args s 0 0 (zA G)) σ_5 5 [(0, .ref (G.1 + 63))] [] := by
        rw [hr_5]
        exact ih
      refine zr_aload_n C 0 dX4_takeLetters_5 rfl ?_
      refine zg_4_2 C 63 zk_63 zm_4_17 dX4_takeLetters_6 ?_
      refine zr_aload_n C 0 dX4_takeLetters_9 rfl ?_
      refine zg_4_0 C 63 zk_63 zm_4_23 dX4_takeLetters_10 ?_
      refine zg_8_1 C 1 zk_1 zm_10_22 dX4_takeLetters_13 ?_
      refine zr_icmp_ge C 50 dX4_takeLetters_16 (by decide) (fun hc2 => ?_) (fun hc2 => ?_)
      · have hJ := zif hc2 hJ
        exact zr_vret C hret rfl (congrArg (zen G) (zs_e hJ)) dX4_takeLetters_50
      · have hJ := zif' hc2 hJ
        refine zr_aload_n C 0 dX4_takeLetters_19 rfl ?_
        refine zg_4_0 C 63 zk_63 zm_4_23 dX4_takeLetters_20 ?_
        refine zg_8_0 C 1 zk_1 zm_10_23 dX4_takeLetters_23 ?_
        refine zr_aload_n C 0 dX4_takeLetters_26 rfl ?_
        refine zg_4_2 C 63 zk_63 zm_4_17 dX4_takeLetters_27 ?_
        obtain ⟨hg3, hJ⟩ := zg_e hJ
        refine zu_bald C 2 zk_2 hg3 dX4_takeLetters_30 ?_
        obtain ⟨r4, hr4, hJ⟩ := zb_e hJ
        refine zr_callSI C (M_X4_isLetter G l hr4) zin_X4_isLetter zm_11_0 rfl rfl (Nat.le_of_ble_eq_true rfl) ⟨Nat.le_of_ble_eq_true rfl, Nat.le_of_ble_eq_true rfl⟩ ⟨Nat.le_of_ble_eq_true rfl, Nat.le_of_ble_eq_true rfl⟩ dX4_takeLetters_31 ?_
        refine zr_if_eq C 50 dX4_takeLetters_34 (by decide) (fun hc5 => ?_) (fun hc5 => ?_)
        · have hJ := zif hc5 hJ
          exact zr_vret C hret rfl (congrArg (zen G) (zs_e hJ)) dX4_takeLetters_50
        · have hJ := zif' hc5 hJ
          refine zr_aload_n C 0 dX4_takeLetters_37 rfl ?_
          refine zr_dup C dX4_takeLetters_38 rfl ?_
          refine zg_4_2 C 63 zk_63 zm_4_17 dX4_takeLetters_39 ?_
          refine zr_iconst C dX4_takeLetters_42 (v := (1 : Int32)) (by decide) ?_
          refine zr_iadd C dX4_takeLetters_43 ?_
          obtain ⟨σ6, hσ6, hJ⟩ := zlet_e hJ
          refine zp_4_2 C 63 zk_63 zm_4_17 hσ6 dX4_takeLetters_44 ?_
          refine zr_goto C 5 dX4_takeLetters_47 (by decide) ?_
          exact ih5 _ hJ
  exact hl5 _ _ hJ
theorem dX4_takeToken_0 : decode cX4_takeToken 0 = .ok (.aload_n 0, 1) := by decide +kernel
theorem dX4_takeToken_1 : decode cX4_takeToken 1 = .ok (.getfield 9, 3) := by decide +kernel
theorem dX4_takeToken_4 : decode cX4_takeToken 4 = .ok (.aload_n 0, 1) := by decide +kernel
theorem dX4_takeToken_5 : decode cX4_takeToken 5 = .ok (.getfield 30, 3) := by decide +kernel
theorem dX4_takeToken_8 : decode cX4_takeToken 8 = .ok (.getfield 101, 3) := by decide +kernel
theorem dX4_takeToken_11 : decode cX4_takeToken 11 = .ok (.if_icmp .ge 33, 3) := by decide +kernel
theorem dX4_takeToken_14 : decode cX4_takeToken 14 = .ok (.aload_n 0, 1) := by decide +kernel
theorem dX4_takeToken_15 : decode cX4_takeToken 15 = .ok (.getfield 30, 3) := by decide +kernel
theorem dX4_takeToken_18 : decode cX4_takeToken 18 = .ok (.getfield 104, 3) := by decide +kernel
theorem dX4_takeToken_21 : decode cX4_takeToken 21 = .ok (.aload_n 0, 1) := by decide +kernel
theorem dX4_takeToken_22 : decode cX4_takeToken 22 = .ok (.getfield 9, 3) := by decide +kernel
theorem dX4_takeToken_25 : decode cX4_takeToken 25 = .ok (.baload, 1) := by decide +kernel
theorem dX4_takeToken_26 : decode cX4_takeToken 26 = .ok (.bipush 32, 2) := by decide +kernel
theorem dX4_takeToken_28 : decode cX4_takeToken 28 = .ok (.if_icmp .ne 16, 3) := by decide +kernel
theorem dX4_takeToken_31 : decode cX4_takeToken 31 = .ok (.aload_n 0, 1) := by decide +kernel
theorem dX4_takeToken_32 : decode cX4_takeToken 32 = .ok (.dup, 1) := by decide +kernel
theorem dX4_takeToken_33 : decode cX4_takeToken 33 = .ok (.getfield 9, 3) := by decide +kernel
theorem dX4_takeToken_36 : decode cX4_takeToken 36 = .ok (.iconst 1, 1) := by decide +kernel
theorem dX4_takeToken_37 : decode cX4_takeToken 37 = .ok (.iadd, 1) := by decide +kernel
theorem dX4_takeToken_38 : decode cX4_takeToken 38 = .ok (.putfield 9, 3) := by decide +kernel
theorem dX4_takeToken_41 : decode cX4_takeToken 41 = .ok (.goto (-41), 3) := by decide +kernel
theorem dX4_takeToken_44 : decode cX4_takeToken 44 = .ok (.aload_n 0, 1) := by decide +kernel
theorem dX4_takeToken_45 : decode cX4_takeToken 45 = .ok (.aload_n 0, 1) := by decide +kernel
theorem dX4_takeToken_46 : decode cX4_takeToken 46 = .ok (.getfield 9, 3) := by decide +kernel
theorem dX4_takeToken_49 : decode cX4_takeToken 49 = .ok (.putfield 18, 3) := by decide +kernel
theorem dX4_takeToken_52 : decode cX4_takeToken 52 = .ok (.aload_n 0, 1) := by decide +kernel
theorem dX4_takeToken_53 : decode cX4_takeToken 53 = .ok (.getfield 9, 3) := by decide +kernel
theorem dX4_takeToken_56 : decode cX4_takeToken 56 = .ok (.aload_n 0, 1) := by decide +kernel
theorem dX4_takeToken_57 : decode cX4_takeToken 57 = .ok (.getfield 30, 3) := by decide +kernel
theorem dX4_takeToken_60 : decode cX4_takeToken 60 = .ok (.getfield 101, 3) := by decide +kernel
theorem dX4_takeToken_63 : decode cX4_takeToken 63 = .ok (.if_icmp .lt 11, 3) := by decide +kernel
theorem dX4_takeToken_66 : decode cX4_takeToken 66 = .ok (.aload_n 0, 1) := by decide +kernel
theorem dX4_takeToken_67 : decode cX4_takeToken 67 = .ok (.iconst 3, 1) := by decide +kernel
theorem dX4_takeToken_68 : decode cX4_takeToken 68 = .ok (.putfield 15, 3) := by decide +kernel
theorem dX4_takeToken_71 : decode cX4_takeToken 71 = .ok (.goto 93, 3) := by decide +kernel
theorem dX4_takeToken_74 : decode cX4_takeToken 74 = .ok (.aload_n 0, 1) := by decide +kernel
theorem dX4_takeToken_75 : decode cX4_takeToken 75 = .ok (.getfield 30, 3) := by decide +kernel
theorem dX4_takeToken_78 : decode cX4_takeToken 78 = .ok (.getfield 104, 3) := by decide +kernel
theorem dX4_takeToken_81 : decode cX4_takeToken 81 = .ok (.aload_n 0, 1) := by decide +kernel
theorem dX4_takeToken_82 : decode cX4_takeToken 82 = .ok (.getfield 9, 3) := by decide +kernel
theorem dX4_takeToken_85 : decode cX4_takeToken 85 = .ok (.baload, 1) := by decide +kernel
theorem dX4_takeToken_86 : decode cX4_takeToken 86 = .ok (.invokestatic 119, 3) := by decide +kernel
theorem dX4_takeToken_89 : decode cX4_takeToken 89 = .ok (.ifCond .eq 10, 3) := by decide +kernel
theorem dX4_takeToken_92 : decode cX4_takeToken 92 = .ok (.aload_n 0, 1) := by decide +kernel
theorem dX4_takeToken_93 : decode cX4_takeToken 93 = .ok (.invokevirtual 122, 3) := by decide +kernel
theorem dX4_takeToken_96 : decode cX4_takeToken 96 = .ok (.goto 68, 3) := by decide +kernel
theorem dX4_takeToken_99 : decode cX4_takeToken 99 = .ok (.aload_n 0, 1) := by decide +kernel
theorem dX4_takeToken_100 : decode cX4_takeToken 100 = .ok (.getfield 30, 3) := by decide +kernel
theorem dX4_takeToken_103 : decode cX4_takeToken 103 = .ok (.getfield 104, 3) := by decide +kernel
theorem dX4_takeToken_106 : decode cX4_takeToken 106 = .ok (.aload_n 0, 1) := by decide +kernel
theorem dX4_takeToken_107 : decode cX4_takeToken 107 = .ok (.getfield 9, 3) := by decide +kernel
theorem dX4_takeToken_110 : decode cX4_takeToken 110 = .ok (.baload, 1) := by decide +kernel
theorem dX4_takeToken_111 : decode cX4_takeToken 111 = .ok (.invokestatic 125, 3) := by decide +kernel
theorem dX4_takeToken_114 : decode cX4_takeToken 114 = .ok (.ifCond .eq 10, 3) := by decide +kernel
theorem dX4_takeToken_117 : decode cX4_takeToken 117 = .ok (.aload_n 0, 1) := by decide +kernel
theorem dX4_takeToken_118 : decode cX4_takeToken 118 = .ok (.invokevirtual 128, 3) := by decide +kernel
theorem dX4_takeToken_121 : decode cX4_takeToken 121 = .ok (.goto 43, 3) := by decide +kernel
theorem dX4_takeToken_124 : decode cX4_takeToken 124 = .ok (.aload_n 0, 1) := by decide +kernel
theorem dX4_takeToken_125 : decode cX4_takeToken 125 = .ok (.getfield 30, 3) := by decide +kernel
theorem dX4_takeToken_128 : decode cX4_takeToken 128 = .ok (.getfield 104, 3) := by decide +kernel
theorem dX4_takeToken_131 : decode cX4_takeToken 131 = .ok (.aload_n 0, 1) := by decide +kernel
theorem dX4_takeToken_132 : decode cX4_takeToken 132 = .ok (.getfield 9, 3) := by decide +kernel
theorem dX4_takeToken_135 : decode cX4_takeToken 135 = .ok (.baload, 1) := by decide +kernel
theorem dX4_takeToken_136 : decode cX4_takeToken 136 = .ok (.bipush 59, 2) := by decide +kernel
theorem dX4_takeToken_138 : decode cX4_takeToken 138 = .ok (.if_icmp .ne 21, 3) := by decide +kernel
theorem dX4_takeToken_141 : decode cX4_takeToken 141 = .ok (.aload_n 0, 1) := by decide +kernel
theorem dX4_takeToken_142 : decode cX4_takeToken 142 = .ok (.iconst 2, 1) := by decide +kernel
theorem dX4_takeToken_143 : decode cX4_takeToken 143 = .ok (.putfield 15, 3) := by decide +kernel
theorem dX4_takeToken_146 : decode cX4_takeToken 146 = .ok (.aload_n 0, 1) := by decide +kernel
theorem dX4_takeToken_147 : decode cX4_takeToken 147 = .ok (.dup, 1) := by decide +kernel
theorem dX4_takeToken_148 : decode cX4_takeToken 148 = .ok (.getfield 9, 3) := by decide +kernel
theorem dX4_takeToken_151 : decode cX4_takeToken 151 = .ok (.iconst 1, 1) := by decide +kernel
theorem dX4_takeToken_152 : decode cX4_takeToken 152 = .ok (.iadd, 1) := by decide +kernel
theorem dX4_takeToken_153 : decode cX4_takeToken 153 = .ok (.putfield 9, 3) := by decide +kernel
theorem dX4_takeToken_156 : decode cX4_takeToken 156 = .ok (.goto 8, 3) := by decide +kernel
theorem dX4_takeToken_159 : decode cX4_takeToken 159 = .ok (.aload_n 0, 1) := by decide +kernel
theorem dX4_takeToken_160 : decode cX4_takeToken 160 = .ok (.iconst 1, 1) := by decide +kernel
theorem dX4_takeToken_161 : decode cX4_takeToken 161 = .ok (.invokevirtual 74, 3) := by decide +kernel
theorem dX4_takeToken_164 : decode cX4_takeToken 164 = .ok (.return_, 1) := by decide +kernel
set_option maxRecDepth 100000 in
set_option maxHeartbeats 4000000 in
theorem M_X4_takeToken (G : zG) (l : Launch) {σ : zS} {σ' : zS} (hJ : J_X4_takeToken σ = some σ') : zMV G l yX4_takeToken cX4_takeToken 1 none (zrm 2 41) [.ref (G.1 + 63)] 137 (zen G σ) 137 (zen G σ') := by
  unfold J_X4_takeToken at hJ
  refine zentV (by decide +kernel) (Nat.le_of_ble_eq_true rfl) ?_
  intro p e s m args below meth c C hret
  refine zr_sub [0] [(0, .ref (G.1 + 63))] rfl ?_
  obtain ⟨k44, hk44, hJ⟩ := zlet_e hJ
  have hj44 : ∀ (σ_44 : zS), k44 σ_44 = some σ' → zU G 1 p l e (zrm 2 41) s m args below meth c (MQ below (va_Qv (fun (_ : Unit) => True) (fun _ t => zok G 137 (zen G σ') t) (zA G)) args s 0 0 (zA G)) σ_44 44 [(0, .ref (G.1 + 63))] [] := by
    intro σ_44 hJ
    rw [hk44] at hJ
    unfold D_X4_takeToken_44 at hJ
    refine zr_aload_n C 0 dX4_takeToken_44 rfl ?_
    refine zr_aload_n C 0 dX4_takeToken_45 rfl ?_
    refine zg_4_2 C 63 zk_63 zm_4_17 dX4_takeToken_46 ?_
    obtain ⟨σ1, hσ1, hJ⟩ := zlet_e hJ
    refine zp_4_4 C 63 zk_63 zm_4_19 hσ1 dX4_takeToken_49 ?_
    refine zr_aload_n C 0 dX4_takeToken_52 rfl ?_
    refine zg_4_2 C 63 zk_63 zm_4_17 dX4_takeToken_53 ?_
    refine zr_aload_n C 0 dX4_takeToken_56 rfl ?_
    refine zg_4_0 C 63 zk_63 zm_4_23 dX4_takeToken_57 ?_
    refine zg_8_1 C 1 zk_1 zm_10_22 dX4_takeToken_60 ?_
    refine zr_icmp_lt C 74 dX4_takeToken_63 (by decide) (fun hc2 => ?_) (fun hc2 => ?_)
    · have hJ := zif hc2 hJ
      refine zr_aload_n C 0 dX4_takeToken_74 rfl ?_
      refine zg_4_0 C 63 zk_63 zm_4_23 dX4_takeToken_75 ?_
      refine zg_8_0 C 1 zk_1 zm_10_23 dX4_takeToken_78 ?_
      refine zr_aload_n C 0 dX4_takeToken_81 rfl ?_
      refine zg_4_2 C 63 zk_63 zm_4_17 dX4_takeToken_82 ?_
      obtain ⟨hg3, hJ⟩ := zg_e hJ
      refine zu_bald C 2 zk_2 hg3 dX4_takeToken_85 ?_
      obtain ⟨r4, hr4, hJ⟩ := zb_e hJ
      refine zr_callSI C (M_X4_isLetter G l hr4) zin_X4_isLetter zm_11_0 rfl rfl (Nat.le_of_ble_eq_true rfl) ⟨Nat.le_of_ble_eq_true rfl, Nat.le_of_ble_eq_true rfl⟩ ⟨Nat.le_of_ble_eq_true rfl, Nat.le_of_ble_eq_true rfl⟩ dX4_takeToken_86 ?_
      refine zr_if_eq C 99 dX4_takeToken_89 (by decide) (fun hc5 => ?_) (fun hc5 => ?_)
      · have hJ := zif hc5 hJ
        refine zr_aload_n C 0 dX4_takeToken_99 rfl ?_
        refine zg_4_0 C 63 zk_63 zm_4_23 dX4_takeToken_100 ?_
        refine zg_8_0 C 1 zk_1 zm_10_23 dX4_takeToken_103 ?_
        refine zr_aload_n C 0 dX4_takeToken_106 rfl ?_
        refine zg_4_2 C 63 zk_63 zm_4_17 dX4_takeToken_107 ?_
        obtain ⟨hg6, hJ⟩ := zg_e hJ
        refine zu_bald C 2 zk_2 hg6 dX4_takeToken_110 ?_
        obtain ⟨r7, hr7, hJ⟩ := zb_e hJ
        refine zr_callSI C (M_X4_isFigure G l hr7) zin_X4_isFigure zm_11_7 rfl rfl (Nat.le_of_ble_eq_true rfl) ⟨Nat.le_of_ble_eq_true rfl, Nat.le_of_ble_eq_true rfl⟩ ⟨Nat.le_of_ble_eq_true rfl, Nat.le_of_ble_eq_true rfl⟩ dX4_takeToken_111 ?_
        refine zr_if_eq C 124 dX4_takeToken_114 (by decide) (fun hc8 => ?_) (fun hc8 => ?_)
        · have hJ := zif hc8 hJ
          refine zr_aload_n C 0 dX4_takeToken_124 rfl ?_
          refine zg_4_0 C 63 zk_63 zm_4_23 dX4_takeToken_125 ?_
          refine zg_8_0 C 1 zk_1 zm_10_23 dX4_takeToken_128 ?_
          refine zr_aload_n C 0 dX4_takeToken_131 rfl ?_
          refine zg_4_2 C 63 zk_63 zm_4_17 dX4_takeToken_132 ?_
          obtain ⟨hg9, hJ⟩ := zg_e hJ
          refine zu_bald C 2 zk_2 hg9 dX4_takeToken_135 ?_
          refine zr_bipush C dX4_takeToken_136 (v := (59 : Int32)) (by decide) ?_
          refine zr_icmp_ne C 159 dX4_takeToken_138 (by decide) (fun hc10 => ?_) (fun hc10 => ?_)
          · have hJ := zif' hc10 hJ
            refine zr_aload_n C 0 dX4_takeToken_159 rfl ?_
            refine zr_iconst C dX4_takeToken_160 (v := (1 : Int32)) (by decide) ?_
            obtain ⟨σ12, hr11, hJ⟩ := zb_e hJ
            refine zr_callVV C 63 (zk_lt zk_63 (by decide)) (zen_obj zk_63) (rfl : zcl[4]? = some (RX4, TX4, 8)) (M_X4_fail G l hr11) zin_X4_fail zm_11_14 rfl rfl (Nat.le_of_ble_eq_true rfl) ⟨Nat.le_of_ble_eq_true rfl, Nat.le_of_ble_eq_true rfl⟩ ⟨Nat.le_of_ble_eq_true rfl, Nat.le_of_ble_eq_true rfl⟩ dX4_takeToken_161 ?_
            exact zr_vret C hret rfl (congrArg (zen G) (zs_e hJ)) dX4_takeToken_164
          · have hJ := zif hc10 hJ
            refine zr_aload_n C 0 dX4_takeToken_141 rfl ?_
            refine zr_iconst C dX4_takeToken_142 (v := (2 : Int32)) (by decide) ?_
            obtain ⟨σ13, hσ13, hJ⟩ := zlet_e hJ
            refine zp_4_3 C 63 zk_63 zm_4_18 hσ13 dX4_takeToken_143 ?_
            refine zr_aload_n C 0 dX4_takeToken_146 rfl ?_
            refine zr_dup C dX4_takeToken_147 rfl ?_
            refine zg_4_2 C 63 zk_63 zm_4_17 dX4_takeToken_148 ?_
            refine zr_iconst C dX4_takeToken_151 (v := (1 : Int32)) (by decide) ?_
            refine zr_iadd C dX4_takeToken_152 ?_
            obtain ⟨σ14, hσ14, hJ⟩ := zlet_e hJ
            refine zp_4_2 C 63 zk_63 zm_4_17 hσ14 dX4_takeToken_153 ?_
            refine zr_goto C 164 dX4_takeToken_156 (by decide) ?_
            exact zr_vret C hret rfl (congrArg (zen G) (zs_e hJ)) dX4_takeToken_164
        · have hJ := zif' hc8 hJ
          refine zr_aload_n C 0 dX4_takeToken_117 rfl ?_
          obtain ⟨σ16, hr15, hJ⟩ := zb_e hJ
          refine zr_callVV C 63 (zk_lt zk_63 (by decide)) (zen_obj zk_63) (rfl : zcl[4]? = some (RX4, TX4, 8)) (M_X4_takeFigures G l hr15) zin_X4_takeFigures zm_11_10 rfl rfl (Nat.le_of_ble_eq_true rfl) ⟨Nat.le_of_ble_eq_true rfl, Nat.le_of_ble_eq_true rfl⟩ ⟨Nat.le_of_ble_eq_true rfl, Nat.le_of_ble_eq_true rfl⟩ dX4_takeToken_118 ?_
          refine zr_goto C 164 dX4_takeToken_121 (by decide) ?_
          exact zr_vret C hret rfl (congrArg (zen G) (zs_e hJ)) dX4_takeToken_164
      · have hJ := zif' hc5 hJ
        refine zr_aload_n C 0 dX4_takeToken_92 rfl ?_
        obtain ⟨σ18, hr17, hJ⟩ := zb_e hJ
        refine zr_callVV C 63 (zk_lt zk_63 (by decide)) (zen_obj zk_63) (rfl : zcl[4]? = some (RX4, TX4, 8)) (M_X4_takeLetters G l hr17) zin_X4_takeLetters zm_11_3 rfl rfl (Nat.le_of_ble_eq_true rfl) ⟨Nat.le_of_ble_eq_true rfl, Nat.le_of_ble_eq_true rfl⟩ ⟨Nat.le_of_ble_eq_true rfl, Nat.le_of_ble_eq_true rfl⟩ dX4_takeToken_93 ?_
        refine zr_goto C 164 dX4_takeToken_96 (by decide) ?_
        exact zr_vret C hret rfl (congrArg (zen G) (zs_e hJ)) dX4_takeToken_164
    · have hJ := zif' hc2 hJ
      refine zr_aload_n C 0 dX4_takeToken_66 rfl ?_
      refine zr_iconst C dX4_takeToken_67 (v := (3 : Int32)) (by decide) ?_
      obtain ⟨σ19, hσ19, hJ⟩ := zlet_e hJ
      refine zp_4_3 C 63 zk_63 zm_4_18 hσ19 dX4_takeToken_68 ?_
      refine zr_goto C 164 dX4_takeToken_71 (by decide) ?_
      exact zr_vret C hret rfl (congrArg (zen G) (zs_e hJ)) dX4_takeToken_164
  have hl0 : ∀ (n : Nat) (σ_0 : zS), L_X4_takeToken_0 k44 n σ_0 = some σ' → zU G 1 p l e (zrm 2 41) s m args below meth c (MQ below (va_Qv (fun (_ : Unit) => True) (fun _ t => zok G 137 (zen G σ') t) (zA G)) args s 0 0 (zA G)) σ_0 0 [(0, .ref (G.1 + 63))] [] := by
    intro n
    induction n with
    | zero =>
      intro σ_0 hJ
      rw [L_X4_takeToken_0] at hJ
      cases hJ
    | succ n ih =>
      intro σ_0 hJ
      rw [L_X4_takeToken_0] at hJ
      obtain ⟨r_0, hr_0, hJ⟩ := zlet_e hJ
      have ih0 : ∀ (σ_0 : zS), r_0 σ_0 = some σ' → zU G 1 p l e (zrm 2 41) s m args below meth c (MQ below (va_Qv (fun (_ : Unit) => True) (fun _ t => zok G 137 (zen G σ') t) (zA G)) args s 0 0 (zA G)) σ_0 0 [(0, .ref (G.1 + 63))] [] := by
        rw [hr_0]
        exact ih
      refine zr_aload_n C 0 dX4_takeToken_0 rfl ?_
      refine zg_4_2 C 63 zk_63 zm_4_17 dX4_takeToken_1 ?_
      refine zr_aload_n C 0 dX4_takeToken_4 rfl ?_
      refine zg_4_0 C 63 zk_63 zm_4_23 dX4_takeToken_5 ?_
      refine zg_8_1 C 1 zk_1 zm_10_22 dX4_takeToken_8 ?_
      refine zr_icmp_ge C 44 dX4_takeToken_11 (by decide) (fun hc20 => ?_) (fun hc20 => ?_)
      · have hJ := zif hc20 hJ
        exact hj44 _ hJ
      · have hJ := zif' hc20 hJ
        refine zr_aload_n C 0 dX4_takeToken_14 rfl ?_
        refine zg_4_0 C 63 zk_63 zm_4_23 dX4_takeToken_15 ?_
        refine zg_8_0 C 1 zk_1 zm_10_23 dX4_takeToken_18 ?_
        refine zr_aload_n C 0 dX4_takeToken_21 rfl ?_
        refine zg_4_2 C 63 zk_63 zm_4_17 dX4_takeToken_22 ?_
        obtain ⟨hg21, hJ⟩ := zg_e hJ
        refine zu_bald C 2 zk_2 hg21 dX4_takeToken_25 ?_
        refine zr_bipush C dX4_takeToken_26 (v := (32 : Int32)) (by decide) ?_
        refine zr_icmp_ne C 44 dX4_takeToken_28 (by decide) (fun hc22 => ?_) (fun hc22 => ?_)
        · have hJ := zif' hc22 hJ
          exact hj44 _ hJ
        · have hJ := zif hc22 hJ
          refine zr_aload_n C 0 dX4_takeToken_31 rfl ?_
          refine zr_dup C dX4_takeToken_32 rfl ?_
          refine zg_4_2 C 63 zk_63 zm_4_17 dX4_takeToken_33 ?_
          refine zr_iconst C dX4_takeToken_36 (v := (1 : Int32)) (by decide) ?_
          refine zr_iadd C dX4_takeToken_37 ?_
          obtain ⟨σ23, hσ23, hJ⟩ := zlet_e hJ
          refine zp_4_2 C 63 zk_63 zm_4_17 hσ23 dX4_takeToken_38 ?_
          refine zr_goto C 0 dX4_takeToken_41 (by decide) ?_
          exact ih0 _ hJ
  exact hl0 _ _ hJ
theorem dX4_takeNumber_0 : decode cX4_takeNumber 0 = .ok (.aload_n 0, 1) := by decide +kernel
theorem dX4_takeNumber_1 : decode cX4_takeNumber 1 = .ok (.invokevirtual 43, 3) := by decide +kernel
theorem dX4_takeNumber_4 : decode cX4_takeNumber 4 = .ok (.aload_n 0, 1) := by decide +kernel
theorem dX4_takeNumber_5 : decode cX4_takeNumber 5 = .ok (.getfield 24, 3) := by decide +kernel
theorem dX4_takeNumber_8 : decode cX4_takeNumber 8 = .ok (.ifCond .ne 19, 3) := by decide +kernel
theorem dX4_takeNumber_11 : decode cX4_takeNumber 11 = .ok (.aload_n 0, 1) := by decide +kernel
theorem dX4_takeNumber_12 : decode cX4_takeNumber 12 = .ok (.getfield 15, 3) := by decide +kernel
theorem dX4_takeNumber_15 : decode cX4_takeNumber 15 = .ok (.iconst 1, 1) := by decide +kernel
theorem dX4_takeNumber_16 : decode cX4_takeNumber 16 = .ok (.if_icmp .eq 11, 3) := by decide +kernel
theorem dX4_takeNumber_19 : decode cX4_takeNumber 19 = .ok (.aload_n 0, 1) := by decide +kernel
theorem dX4_takeNumber_20 : decode cX4_takeNumber 20 = .ok (.iconst 2, 1) := by decide +kernel
theorem dX4_takeNumber_21 : decode cX4_takeNumber 21 = .ok (.invokevirtual 74, 3) := by decide +kernel
theorem dX4_takeNumber_24 : decode cX4_takeNumber 24 = .ok (.goto 31, 3) := by decide +kernel
theorem dX4_takeNumber_27 : decode cX4_takeNumber 27 = .ok (.aload_n 0, 1) := by decide +kernel
theorem dX4_takeNumber_28 : decode cX4_takeNumber 28 = .ok (.getfield 24, 3) := by decide +kernel
theorem dX4_takeNumber_31 : decode cX4_takeNumber 31 = .ok (.ifCond .ne 24, 3) := by decide +kernel
theorem dX4_takeNumber_34 : decode cX4_takeNumber 34 = .ok (.aload_n 0, 1) := by decide +kernel
theorem dX4_takeNumber_35 : decode cX4_takeNumber 35 = .ok (.getfield 21, 3) := by decide +kernel
theorem dX4_takeNumber_38 : decode cX4_takeNumber 38 = .ok (.iload_n 1, 1) := by decide +kernel
theorem dX4_takeNumber_39 : decode cX4_takeNumber 39 = .ok (.if_icmp .lt 11, 3) := by decide +kernel
theorem dX4_takeNumber_42 : decode cX4_takeNumber 42 = .ok (.aload_n 0, 1) := by decide +kernel
theorem dX4_takeNumber_43 : decode cX4_takeNumber 43 = .ok (.getfield 21, 3) := by decide +kernel
theorem dX4_takeNumber_46 : decode cX4_takeNumber 46 = .ok (.iload_n 2, 1) := by decide +kernel
theorem dX4_takeNumber_47 : decode cX4_takeNumber 47 = .ok (.if_icmp .le 8, 3) := by decide +kernel
theorem dX4_takeNumber_50 : decode cX4_takeNumber 50 = .ok (.aload_n 0, 1) := by decide +kernel
theorem dX4_takeNumber_51 : decode cX4_takeNumber 51 = .ok (.iconst 3, 1) := by decide +kernel
theorem dX4_takeNumber_52 : decode cX4_takeNumber 52 = .ok (.invokevirtual 74, 3) := by decide +kernel
theorem dX4_takeNumber_55 : decode cX4_takeNumber 55 = .ok (.return_, 1) := by decide +kernel
set_option maxRecDepth 100000 in
set_option maxHeartbeats 4000000 in
theorem M_X4_takeNumber (G : zG) (l : Launch) {a1 : Int32} {a2 : Int32} {σ : zS} {σ' : zS} (hJ : J_X4_takeNumber a1 a2 σ = some σ') : zMV G l yX4_takeNumber cX4_takeNumber 3 none (zrm 3 61) [.ref (G.1 + 63), .int a1, .int a2] 137 (zen G σ) 137 (zen G σ') := by
  unfold J_X4_takeNumber at hJ
  refine zentV (by decide +kernel) (Nat.le_of_ble_eq_true rfl) ?_
  intro p e s m args below meth c C hret
  refine zr_sub [0, 1, 2] [(0, .ref (G.1 + 63)), (1, .int a1), (2, .int a2)] rfl ?_
  refine zr_aload_n C 0 dX4_takeNumber_0 rfl ?_
  obtain ⟨σ2, hr1, hJ⟩ := zb_e hJ
  refine zr_callVV C 63 (zk_lt zk_63 (by decide)) (zen_obj zk_63) (rfl : zcl[4]? = some (RX4, TX4, 8)) (M_X4_takeToken G l hr1) zin_X4_takeToken zm_10_18 rfl rfl (Nat.le_of_ble_eq_true rfl) ⟨Nat.le_of_ble_eq_true rfl, Nat.le_of_ble_eq_true rfl⟩ ⟨Nat.le_of_ble_eq_true rfl, Nat.le_of_ble_eq_true rfl⟩ dX4_takeNumber_1 ?_
  refine zr_aload_n C 0 dX4_takeNumber_4 rfl ?_
  refine zg_4_6 C 63 zk_63 zm_4_21 dX4_takeNumber_5 ?_
  obtain ⟨k27, hk27, hJ⟩ := zlet_e hJ
  have hj27 : k27 = some σ' → zU G 3 p l e (zrm 3 61) s m args below meth c (MQ below (va_Qv (fun (_ : Unit) => True) (fun _ t => zok G 137 (zen G σ') t) (zA G)) args s 0 0 (zA G)) σ2 27 [(0, .ref (G.1 + 63)), (1, .int a1), (2, .int a2)] [] := by
    intro hJ
    rw [hk27] at hJ
    unfold D_X4_takeNumber_27 at hJ
    refine zr_aload_n C 0 dX4_takeNumber_27 rfl ?_
    refine zg_4_6 C 63 zk_63 zm_4_21 dX4_takeNumber_28 ?_
    refine zr_if_ne C 55 dX4_takeNumber_31 (by decide) (fun hc3 => ?_) (fun hc3 => ?_)
    · have hJ := zif' hc3 hJ
      exact zr_vret C hret rfl (congrArg (zen G) (zs_e hJ)) dX4_takeNumber_55
    · have hJ := zif hc3 hJ
      refine zr_aload_n C 0 dX4_takeNumber_34 rfl ?_
      refine zg_4_5 C 63 zk_63 zm_4_20 dX4_takeNumber_35 ?_
      refine zr_iload_n C 1 dX4_takeNumber_38 rfl ?_
      obtain ⟨k50, hk50, hJ⟩ := zlet_e hJ
      have hj50 : k50 = some σ' → zU G 3 p l e (zrm 3 61) s m args below meth c (MQ below (va_Qv (fun (_ : Unit) => True) (fun _ t => zok G 137 (zen G σ') t) (zA G)) args s 0 0 (zA G)) σ2 50 [(0, .ref (G.1 + 63))] [] := by
        intro hJ
        rw [hk50] at hJ
        unfold D_X4_takeNumber_50 at hJ
        refine zr_aload_n C 0 dX4_takeNumber_50 rfl ?_
        refine zr_iconst C dX4_takeNumber_51 (v := (3 : Int32)) (by decide) ?_
        obtain ⟨σ5, hr4, hJ⟩ := zb_e hJ
        refine zr_callVV C 63 (zk_lt zk_63 (by decide)) (zen_obj zk_63) (rfl : zcl[4]? = some (RX4, TX4, 8)) (M_X4_fail G l hr4) zin_X4_fail zm_11_14 rfl rfl (Nat.le_of_ble_eq_true rfl) ⟨Nat.le_of_ble_eq_true rfl, Nat.le_of_ble_eq_true rfl⟩ ⟨Nat.le_of_ble_eq_true rfl, Nat.le_of_ble_eq_true rfl⟩ dX4_takeNumber_52 ?_
        exact zr_vret C hret rfl (congrArg (zen G) (zs_e hJ)) dX4_takeNumber_55
      refine zr_icmp_lt C 50 dX4_takeNumber_39 (by decide) (fun hc6 => ?_) (fun hc6 => ?_)
      · have hJ := zif hc6 hJ
        refine zr_sub [0] [(0, .ref (G.1 + 63))] rfl ?_
        exact hj50 hJ
      · have hJ := zif' hc6 hJ
        refine zr_aload_n C 0 dX4_takeNumber_42 rfl ?_
        refine zg_4_5 C 63 zk_63 zm_4_20 dX4_takeNumber_43 ?_
        refine zr_iload_n C 2 dX4_takeNumber_46 rfl ?_
        refine zr_icmp_le C 55 dX4_takeNumber_47 (by decide) (fun hc7 => ?_) (fun hc7 => ?_)
        · have hJ := zif hc7 hJ
          exact zr_vret C hret rfl (congrArg (zen G) (zs_e hJ)) dX4_takeNumber_55
        · have hJ := zif' hc7 hJ
          refine zr_sub [0] [(0, .ref (G.1 + 63))] rfl ?_
          exact hj50 hJ
  refine zr_if_ne C 27 dX4_takeNumber_8 (by decide) (fun hc8 => ?_) (fun hc8 => ?_)
  · have hJ := zif' hc8 hJ
    exact hj27 hJ
  · have hJ := zif hc8 hJ
    refine zr_aload_n C 0 dX4_takeNumber_11 rfl ?_
    refine zg_4_3 C 63 zk_63 zm_4_18 dX4_takeNumber_12 ?_
    refine zr_iconst C dX4_takeNumber_15 (v := (1 : Int32)) (by decide) ?_
    refine zr_icmp_eq C 27 dX4_takeNumber_16 (by decide) (fun hc9 => ?_) (fun hc9 => ?_)
    · have hJ := zif hc9 hJ
      exact hj27 hJ
    · have hJ := zif' hc9 hJ
      refine zr_aload_n C 0 dX4_takeNumber_19 rfl ?_
      refine zr_iconst C dX4_takeNumber_20 (v := (2 : Int32)) (by decide) ?_
      obtain ⟨σ11, hr10, hJ⟩ := zb_e hJ
      refine zr_callVV C 63 (zk_lt zk_63 (by decide)) (zen_obj zk_63) (rfl : zcl[4]? = some (RX4, TX4, 8)) (M_X4_fail G l hr10) zin_X4_fail zm_11_14 rfl rfl (Nat.le_of_ble_eq_true rfl) ⟨Nat.le_of_ble_eq_true rfl, Nat.le_of_ble_eq_true rfl⟩ ⟨Nat.le_of_ble_eq_true rfl, Nat.le_of_ble_eq_true rfl⟩ dX4_takeNumber_21 ?_
      refine zr_goto C 55 dX4_takeNumber_24 (by decide) ?_
      exact zr_vret C hret rfl (congrArg (zen G) (zs_e hJ)) dX4_takeNumber_55
theorem dX4_readLine_0 : decode cX4_readLine 0 = .ok (.aload_n 0, 1) := by decide +kernel
theorem dX4_readLine_1 : decode cX4_readLine 1 = .ok (.getfield 34, 3) := by decide +kernel
theorem dX4_readLine_4 : decode cX4_readLine 4 = .ok (.getfield 84, 3) := by decide +kernel
theorem dX4_readLine_7 : decode cX4_readLine 7 = .ok (.bipush 16, 2) := by decide +kernel
theorem dX4_readLine_9 : decode cX4_readLine 9 = .ok (.if_icmp .lt 9, 3) := by decide +kernel
theorem dX4_readLine_12 : decode cX4_readLine 12 = .ok (.aload_n 0, 1) := by decide +kernel
theorem dX4_readLine_13 : decode cX4_readLine 13 = .ok (.iconst 5, 1) := by decide +kernel
theorem dX4_readLine_14 : decode cX4_readLine 14 = .ok (.invokevirtual 74, 3) := by decide +kernel
theorem dX4_readLine_17 : decode cX4_readLine 17 = .ok (.return_, 1) := by decide +kernel
theorem dX4_readLine_18 : decode cX4_readLine 18 = .ok (.aload_n 0, 1) := by decide +kernel
theorem dX4_readLine_19 : decode cX4_readLine 19 = .ok (.iconst 1, 1) := by decide +kernel
theorem dX4_readLine_20 : decode cX4_readLine 20 = .ok (.bipush 20, 2) := by decide +kernel
theorem dX4_readLine_22 : decode cX4_readLine 22 = .ok (.invokevirtual 87, 3) := by decide +kernel
theorem dX4_readLine_25 : decode cX4_readLine 25 = .ok (.aload_n 0, 1) := by decide +kernel
theorem dX4_readLine_26 : decode cX4_readLine 26 = .ok (.getfield 24, 3) := by decide +kernel
theorem dX4_readLine_29 : decode cX4_readLine 29 = .ok (.ifCond .eq 4, 3) := by decide +kernel
theorem dX4_readLine_32 : decode cX4_readLine 32 = .ok (.return_, 1) := by decide +kernel
theorem dX4_readLine_33 : decode cX4_readLine 33 = .ok (.aload_n 0, 1) := by decide +kernel
theorem dX4_readLine_34 : decode cX4_readLine 34 = .ok (.getfield 34, 3) := by decide +kernel
theorem dX4_readLine_37 : decode cX4_readLine 37 = .ok (.aload_n 0, 1) := by decide +kernel
theorem dX4_readLine_38 : decode cX4_readLine 38 = .ok (.getfield 21, 3) := by decide +kernel
theorem dX4_readLine_41 : decode cX4_readLine 41 = .ok (.invokevirtual 91, 3) := by decide +kernel
theorem dX4_readLine_44 : decode cX4_readLine 44 = .ok (.aload_n 0, 1) := by decide +kernel
theorem dX4_readLine_45 : decode cX4_readLine 45 = .ok (.invokevirtual 43, 3) := by decide +kernel
theorem dX4_readLine_48 : decode cX4_readLine 48 = .ok (.iconst 0, 1) := by decide +kernel
theorem dX4_readLine_49 : decode cX4_readLine 49 = .ok (.istore_n 1, 1) := by decide +kernel
theorem dX4_readLine_50 : decode cX4_readLine 50 = .ok (.iconst 0, 1) := by decide +kernel
theorem dX4_readLine_51 : decode cX4_readLine 51 = .ok (.istore_n 2, 1) := by decide +kernel
theorem dX4_readLine_52 : decode cX4_readLine 52 = .ok (.iload_n 2, 1) := by decide +kernel
theorem dX4_readLine_53 : decode cX4_readLine 53 = .ok (.bipush 8, 2) := by decide +kernel
theorem dX4_readLine_55 : decode cX4_readLine 55 = .ok (.if_icmp .gt 73, 3) := by decide +kernel
theorem dX4_readLine_58 : decode cX4_readLine 58 = .ok (.aload_n 0, 1) := by decide +kernel
theorem dX4_readLine_59 : decode cX4_readLine 59 = .ok (.getfield 24, 3) := by decide +kernel
theorem dX4_readLine_62 : decode cX4_readLine 62 = .ok (.ifCond .ne 66, 3) := by decide +kernel
theorem dX4_readLine_65 : decode cX4_readLine 65 = .ok (.aload_n 0, 1) := by decide +kernel
theorem dX4_readLine_66 : decode cX4_readLine 66 = .ok (.getfield 15, 3) := by decide +kernel
theorem dX4_readLine_69 : decode cX4_readLine 69 = .ok (.iconst 2, 1) := by decide +kernel
theorem dX4_readLine_70 : decode cX4_readLine 70 = .ok (.if_icmp .eq 58, 3) := by decide +kernel
theorem dX4_readLine_73 : decode cX4_readLine 73 = .ok (.aload_n 0, 1) := by decide +kernel
theorem dX4_readLine_74 : decode cX4_readLine 74 = .ok (.iload_n 1, 1) := by decide +kernel
theorem dX4_readLine_75 : decode cX4_readLine 75 = .ok (.invokevirtual 94, 3) := by decide +kernel
theorem dX4_readLine_78 : decode cX4_readLine 78 = .ok (.istore_n 3, 1) := by decide +kernel
theorem dX4_readLine_79 : decode cX4_readLine 79 = .ok (.aload_n 0, 1) := by decide +kernel
theorem dX4_readLine_80 : decode cX4_readLine 80 = .ok (.getfield 24, 3) := by decide +kernel
theorem dX4_readLine_83 : decode cX4_readLine 83 = .ok (.ifCond .ne 28, 3) := by decide +kernel
theorem dX4_readLine_86 : decode cX4_readLine 86 = .ok (.iload_n 1, 1) := by decide +kernel
theorem dX4_readLine_87 : decode cX4_readLine 87 = .ok (.iconst 1, 1) := by decide +kernel
theorem dX4_readLine_88 : decode cX4_readLine 88 = .ok (.iload_n 3, 1) := by decide +kernel
theorem dX4_readLine_89 : decode cX4_readLine 89 = .ok (.ishl, 1) := by decide +kernel
theorem dX4_readLine_90 : decode cX4_readLine 90 = .ok (.ior, 1) := by decide +kernel
theorem dX4_readLine_91 : decode cX4_readLine 91 = .ok (.istore_n 1, 1) := by decide +kernel
theorem dX4_readLine_92 : decode cX4_readLine 92 = .ok (.aload_n 0, 1) := by decide +kernel
theorem dX4_readLine_93 : decode cX4_readLine 93 = .ok (.iconst 0, 1) := by decide +kernel
theorem dX4_readLine_94 : decode cX4_readLine 94 = .ok (.bipush 99, 2) := by decide +kernel
theorem dX4_readLine_96 : decode cX4_readLine 96 = .ok (.invokevirtual 87, 3) := by decide +kernel
theorem dX4_readLine_99 : decode cX4_readLine 99 = .ok (.aload_n 0, 1) := by decide +kernel
theorem dX4_readLine_100 : decode cX4_readLine 100 = .ok (.getfield 34, 3) := by decide +kernel
theorem dX4_readLine_103 : decode cX4_readLine 103 = .ok (.iload_n 3, 1) := by decide +kernel
theorem dX4_readLine_104 : decode cX4_readLine 104 = .ok (.aload_n 0, 1) := by decide +kernel
theorem dX4_readLine_105 : decode cX4_readLine 105 = .ok (.getfield 21, 3) := by decide +kernel
theorem dX4_readLine_108 : decode cX4_readLine 108 = .ok (.invokevirtual 98, 3) := by decide +kernel
theorem dX4_readLine_111 : decode cX4_readLine 111 = .ok (.aload_n 0, 1) := by decide +kernel
theorem dX4_readLine_112 : decode cX4_readLine 112 = .ok (.getfield 24, 3) := by decide +kernel
theorem dX4_readLine_115 : decode cX4_readLine 115 = .ok (.ifCond .ne 7, 3) := by decide +kernel
theorem dX4_readLine_118 : decode cX4_readLine 118 = .ok (.aload_n 0, 1) := by decide +kernel
theorem dX4_readLine_119 : decode cX4_readLine 119 = .ok (.invokevirtual 43, 3) := by decide +kernel
theorem dX4_readLine_122 : decode cX4_readLine 122 = .ok (.iinc 2 1, 3) := by decide +kernel
theorem dX4_readLine_125 : decode cX4_readLine 125 = .ok (.goto (-73), 3) := by decide +kernel
theorem dX4_readLine_128 : decode cX4_readLine 128 = .ok (.return_, 1) := by decide +kernel
set_option maxRecDepth 100000 in
set_option maxHeartbeats 4000000 in
theorem M_X4_readLine (G : zG) (l : Launch) {σ : zS} {σ' : zS} (hJ : J_X4_readLine σ = some σ') : zMV G l yX4_readLine cX4_readLine 4 none (zrm 4 83) [.ref (G.1 + 63)] 137 (zen G σ) 137 (zen G σ') := by
  unfold J_X4_readLine at hJ
  refine zentV (by decide +kernel) (Nat.le_of_ble_eq_true rfl) ?_
  intro p e s m args below meth c C hret
  refine zr_sub [0] [(0, .ref (G.1 + 63))] rfl ?_
  refine zr_aload_n C 0 dX4_readLine_0 rfl ?_
  obtain ⟨p1, hp1, hJ⟩ := zlet_e hJ
  obtain ⟨hp2, hJ⟩ := zg_e hJ
  refine zg_4_1 C 63 zk_63 zm_5_0 dX4_readLine_1 ?_
  refine zr_topr hp1 ?_
  refine zg_3_0 C p1 (zkP_0 hp2) zm_14_3 dX4_readLine_4 ?_
  refine zr_bipush C dX4_readLine_7 (v := (16 : Int32)) (by decide) ?_
  refine zr_icmp_lt C 18 dX4_readLine_9 (by decide) (fun hc3 => ?_) (fun hc3 => ?_)
  · have hJ := zif hc3 hJ
    refine zr_aload_n C 0 dX4_readLine_18 rfl ?_
    refine zr_iconst C dX4_readLine_19 (v := (1 : Int32)) (by decide) ?_
    refine zr_bipush C dX4_readLine_20 (v := (20 : Int32)) (by decide) ?_
    obtain ⟨σ5, hr4, hJ⟩ := zb_e hJ
    refine zr_callVV C 63 (zk_lt zk_63 (by decide)) (zen_obj zk_63) (rfl : zcl[4]? = some (RX4, TX4, 8)) (M_X4_takeNumber G l hr4) zin_X4_takeNumber zm_14_4 rfl rfl (Nat.le_of_ble_eq_true rfl) ⟨Nat.le_of_ble_eq_true rfl, Nat.le_of_ble_eq_true rfl⟩ ⟨Nat.le_of_ble_eq_true rfl, Nat.le_of_ble_eq_true rfl⟩ dX4_readLine_22 ?_
    refine zr_aload_n C 0 dX4_readLine_25 rfl ?_
    refine zg_4_6 C 63 zk_63 zm_4_21 dX4_readLine_26 ?_
    refine zr_if_eq C 33 dX4_readLine_29 (by decide) (fun hc6 => ?_) (fun hc6 => ?_)
    · have hJ := zif hc6 hJ
      refine zr_aload_n C 0 dX4_readLine_33 rfl ?_
      obtain ⟨p7, hp7, hJ⟩ := zlet_e hJ
      obtain ⟨hp8, hJ⟩ := zg_e hJ
      refine zg_4_1 C 63 zk_63 zm_5_0 dX4_readLine_34 ?_
      refine zr_topr hp7 ?_
      refine zr_aload_n C 0 dX4_readLine_37 rfl ?_
      refine zg_4_5 C 63 zk_63 zm_4_20 dX4_readLine_38 ?_
      obtain ⟨σ10, hr9, hJ⟩ := zb_e hJ
      refine zr_callVV C p7 (zk_lt (zkP_0 hp8) (by decide)) (zen_obj (zkP_0 hp8)) (rfl : zcl[3]? = some (RX3, TX3, 19)) (M_X3_addLine G l hp8 hr9) zin_X3_addLine zm_14_8 rfl rfl (Nat.le_of_ble_eq_true rfl) ⟨Nat.le_of_ble_eq_true rfl, Nat.le_of_ble_eq_true rfl⟩ ⟨Nat.le_of_ble_eq_true rfl, Nat.le_of_ble_eq_true rfl⟩ dX4_readLine_41 ?_
      refine zr_aload_n C 0 dX4_readLine_44 rfl ?_
      obtain ⟨σ12, hr11, hJ⟩ := zb_e hJ
      refine zr_callVV C 63 (zk_lt zk_63 (by decide)) (zen_obj zk_63) (rfl : zcl[4]? = some (RX4, TX4, 8)) (M_X4_takeToken G l hr11) zin_X4_takeToken zm_10_18 rfl rfl (Nat.le_of_ble_eq_true rfl) ⟨Nat.le_of_ble_eq_true rfl, Nat.le_of_ble_eq_true rfl⟩ ⟨Nat.le_of_ble_eq_true rfl, Nat.le_of_ble_eq_true rfl⟩ dX4_readLine_45 ?_
      refine zr_iconst C dX4_readLine_48 (v := (0 : Int32)) (by decide) ?_
      refine zr_istore_n C [(1, .int (0 : Int32)), (0, .ref (G.1 + 63))] dX4_readLine_49 (by decide) rfl ?_
      refine zr_iconst C dX4_readLine_50 (v := (0 : Int32)) (by decide) ?_
      refine zr_istore_n C [(2, .int (0 : Int32)), (1, .int (0 : Int32)), (0, .ref (G.1 + 63))] dX4_readLine_51 (by decide) rfl ?_
      have hl52 : ∀ (n : Nat) (w1_52 : Int32) (w2_52 : Int32) (σ_52 : zS), L_X4_readLine_52 n w1_52 w2_52 σ_52 = some σ' → zU G 4 p l e (zrm 4 83) s m args below meth c (MQ below (va_Qv (fun (_ : Unit) => True) (fun _ t => zok G 137 (zen G σ') t) (zA G)) args s 0 0 (zA G)) σ_52 52 [(0, .ref (G.1 + 63)), (1, .int w1_52), (2, .int w2_52)] [] := by
        intro n
        induction n with
        | zero =>
          intro w1_52 w2_52 σ_52 hJ
          rw [L_X4_readLine_52] at hJ
          cases hJ
        | succ n ih =>
          intro w1_52 w2_52 σ_52 hJ
          rw [L_X4_readLine_52] at hJ
          obtain ⟨r_52, hr_52, hJ⟩ := zlet_e hJ
          have ih52 : ∀ (w1_52 : Int32) (w2_52 : Int32) (σ_52 : zS), r_52 w1_52 w2_52 σ_52 = some σ' → zU G 4 p l e (zrm 4 83) s m args below meth c (MQ below (va_Qv (fun (_ : Unit) => True) (fun _ t => zok G 137 (zen G σ') t) (zA G)) args s 0 0 (zA G)) σ_52 52 [(0, .ref (G.1 + 63)), (1, .int w1_52), (2, .int w2_52)] [] := by
            rw [hr_52]
            exact ih
          refine zr_iload_n C 2 dX4_readLine_52 rfl ?_
          refine zr_bipush C dX4_readLine_53 (v := (8 : Int32)) (by decide) ?_
          refine zr_icmp_gt C 128 dX4_readLine_55 (by decide) (fun hc13 => ?_) (fun hc13 => ?_)
          · have hJ := zif hc13 hJ
            exact zr_vret C hret rfl (congrArg (zen G) (zs_e hJ)) dX4_readLine_128
          · have hJ := zif' hc13 hJ
            refine zr_aload_n C 0 dX4_readLine_58 rfl ?_
            refine zg_4_6 C 63 zk_63 zm_4_21 dX4_readLine_59 ?_
            refine zr_if_ne C 128 dX4_readLine_62 (by decide) (fun hc14 => ?_) (fun hc14 => ?_)
            · have hJ := zif' hc14 hJ
              exact zr_vret C hret rfl (congrArg (zen G) (zs_e hJ)) dX4_readLine_128
            · have hJ := zif hc14 hJ
              refine zr_aload_n C 0 dX4_readLine_65 rfl ?_
              refine zg_4_3 C 63 zk_63 zm_4_18 dX4_readLine_66 ?_
              refine zr_iconst C dX4_readLine_69 (v := (2 : Int32)) (by decide) ?_
              refine zr_icmp_eq C 128 dX4_readLine_70 (by decide) (fun hc15 => ?_) (fun hc15 => ?_)
              · have hJ := zif hc15 hJ
                exact zr_vret C hret rfl (congrArg (zen G) (zs_e hJ)) dX4_readLine_128
              · have hJ := zif' hc15 hJ
                refine zr_aload_n C 0 dX4_readLine_73 rfl ?_
                refine zr_iload_n C 1 dX4_readLine_74 rfl ?_
                obtain ⟨r16, σ17, hr16, hJ⟩ := zb2_e hJ
                refine zr_callVI C 63 (zk_lt zk_63 (by decide)) (zen_obj zk_63) (rfl : zcl[4]? = some (RX4, TX4, 8)) (M_X4_eventNamed G l hr16) zin_X4_eventNamed zm_14_12 rfl rfl (Nat.le_of_ble_eq_true rfl) ⟨Nat.le_of_ble_eq_true rfl, Nat.le_of_ble_eq_true rfl⟩ ⟨Nat.le_of_ble_eq_true rfl, Nat.le_of_ble_eq_true rfl⟩ dX4_readLine_75 ?_
                refine zr_istore_n C [(3, .int r16), (0, .ref (G.1 + 63)), (1, .int w1_52), (2, .int w2_52)] dX4_readLine_78 (by decide) rfl ?_
                refine zr_aload_n C 1 dX4_readLine_79 rfl ?_
                refine zg_4_6 C 63 zk_63 zm_4_21 dX4_readLine_80 ?_
                obtain ⟨k111, hk111, hJ⟩ := zlet_e hJ
                have hj111 : ∀ (w1_111 : Int32) (σ_111 : zS), k111 w1_111 σ_111 = some σ' → zU G 4 p l e (zrm 4 83) s m args below meth c (MQ below (va_Qv (fun (_ : Unit) => True) (fun _ t => zok G 137 (zen G σ') t) (zA G)) args s 0 0 (zA G)) σ_111 111 [(0, .ref (G.1 + 63)), (1, .int w1_111), (2, .int w2_52)] [] := by
                  intro w1_111 σ_111 hJ
                  rw [hk111] at hJ
                  unfold D_X4_readLine_111 at hJ
                  refine zr_aload_n C 0 dX4_readLine_111 rfl ?_
                  refine zg_4_6 C 63 zk_63 zm_4_21 dX4_readLine_112 ?_
                  refine zr_if_ne C 122 dX4_readLine_115 (by decide) (fun hc18 => ?_) (fun hc18 => ?_)
                  · have hJ := zif' hc18 hJ
                    obtain ⟨v19, hv19, hJ⟩ := zlet_e hJ
                    refine zr_iinc C v19 2 [(2, .int v19), (0, .ref (G.1 + 63)), (1, .int w1_111)] dX4_readLine_122 rfl (hv19.trans (zinc (by decide))) (by decide) rfl ?_
                    refine zr_goto C 52 dX4_readLine_125 (by decide) ?_
                    refine zr_sub [1, 2, 0] [(0, .ref (G.1 + 63)), (1, .int w1_111), (2, .int v19)] rfl ?_
                    exact ih52 _ _ _ hJ
                  · have hJ := zif hc18 hJ
                    refine zr_aload_n C 0 dX4_readLine_118 rfl ?_
                    obtain ⟨σ21, hr20, hJ⟩ := zb_e hJ
                    refine zr_callVV C 63 (zk_lt zk_63 (by decide)) (zen_obj zk_63) (rfl : zcl[4]? = some (RX4, TX4, 8)) (M_X4_takeToken G l hr20) zin_X4_takeToken zm_10_18 rfl rfl (Nat.le_of_ble_eq_true rfl) ⟨Nat.le_of_ble_eq_true rfl, Nat.le_of_ble_eq_true rfl⟩ ⟨Nat.le_of_ble_eq_true rfl, Nat.le_of_ble_eq_true rfl⟩ dX4_readLine_119 ?_
                    obtain ⟨v22, hv22, hJ⟩ := zlet_e hJ
                    refine zr_iinc C v22 2 [(2, .int v22), (0, .ref (G.1 + 63)), (1, .int w1_111)] dX4_readLine_122 rfl (hv22.trans (zinc (by decide))) (by decide) rfl ?_
                    refine zr_goto C 52 dX4_readLine_125 (by decide) ?_
                    refine zr_sub [1, 2, 0] [(0, .ref (G.1 + 63)), (1, .int w1_111), (2, .int v22)] rfl ?_
                    exact ih52 _ _ _ hJ
                refine zr_if_ne C 111 dX4_readLine_83 (by decide) (fun hc23 => ?_) (fun hc23 => ?_)
                · have hJ := zif' hc23 hJ
                  refine zr_sub [1, 2, 3] [(0, .ref (G.1 + 63)), (1, .int w1_52), (2, .int w2_52)] rfl ?_
                  exact hj111 _ _ hJ
                · have hJ := zif hc23 hJ
                  refine zr_iload_n C 2 dX4_readLine_86 rfl ?_
                  refine zr_iconst C dX4_readLine_87 (v := (1 : Int32)) (by decide) ?_
                  refine zr_iload_n C 0 dX4_readLine_88 rfl ?_
                  refine zr_ishl C dX4_readLine_89 ?_
                  refine zr_ior C dX4_readLine_90 ?_
                  obtain ⟨v24, hv24, hJ⟩ := zlet_e hJ
                  refine zr_topi hv24 ?_
                  refine zr_istore_n C [(1, .int v24), (3, .int r16), (0, .ref (G.1 + 63)), (2, .int w2_52)] dX4_readLine_91 (by decide) rfl ?_
                  refine zr_aload_n C 2 dX4_readLine_92 rfl ?_
                  refine zr_iconst C dX4_readLine_93 (v := (0 : Int32)) (by decide) ?_
                  refine zr_bipush C dX4_readLine_94 (v := (99 : Int32)) (by decide) ?_
                  obtain ⟨σ26, hr25, hJ⟩ := zb_e hJ
                  refine zr_callVV C 63 (zk_lt zk_63 (by decide)) (zen_obj zk_63) (rfl : zcl[4]? = some (RX4, TX4, 8)) (M_X4_takeNumber G l hr25) zin_X4_takeNumber zm_14_4 rfl rfl (Nat.le_of_ble_eq_true rfl) ⟨Nat.le_of_ble_eq_true rfl, Nat.le_of_ble_eq_true rfl⟩ ⟨Nat.le_of_ble_eq_true rfl, Nat.le_of_ble_eq_true rfl⟩ dX4_readLine_96 ?_
                  refine zr_aload_n C 2 dX4_readLine_99 rfl ?_
                  obtain ⟨p27, hp27, hJ⟩ := zlet_e hJ
                  obtain ⟨hp28, hJ⟩ := zg_e hJ
                  refine zg_4_1 C 63 zk_63 zm_5_0 dX4_readLine_100 ?_
                  refine zr_topr hp27 ?_
                  refine zr_iload_n C 1 dX4_readLine_103 rfl ?_
                  refine zr_aload_n C 2 dX4_readLine_104 rfl ?_
                  refine zg_4_5 C 63 zk_63 zm_4_20 dX4_readLine_105 ?_
                  obtain ⟨σ30, hr29, hJ⟩ := zb_e hJ
                  refine zr_callVV C p27 (zk_lt (zkP_0 hp28) (by decide)) (zen_obj (zkP_0 hp28)) (rfl : zcl[3]? = some (RX3, TX3, 19)) (M_X3_setEvent G l hp28 hr29) zin_X3_setEvent zm_15_0 rfl rfl (Nat.le_of_ble_eq_true rfl) ⟨Nat.le_of_ble_eq_true rfl, Nat.le_of_ble_eq_true rfl⟩ ⟨Nat.le_of_ble_eq_true rfl, Nat.le_of_ble_eq_true rfl⟩ dX4_readLine_108 ?_
                  refine zr_sub [2, 0, 3] [(0, .ref (G.1 + 63)), (1, .int v24), (2, .int w2_52)] rfl ?_
                  exact hj111 _ _ hJ
      refine zr_sub [2, 1, 0] [(0, .ref (G.1 + 63)), (1, .int (0 : Int32)), (2, .int (0 : Int32))] rfl ?_
      exact hl52 _ _ _ _ hJ
    · have hJ := zif' hc6 hJ
      exact zr_vret C hret rfl (congrArg (zen G) (zs_e hJ)) dX4_readLine_32
  · have hJ := zif' hc3 hJ
    refine zr_aload_n C 0 dX4_readLine_12 rfl ?_
    refine zr_iconst C dX4_readLine_13 (v := (5 : Int32)) (by decide) ?_
    obtain ⟨σ32, hr31, hJ⟩ := zb_e hJ
    refine zr_callVV C 63 (zk_lt zk_63 (by decide)) (zen_obj zk_63) (rfl : zcl[4]? = some (RX4, TX4, 8)) (M_X4_fail G l hr31) zin_X4_fail zm_11_14 rfl rfl (Nat.le_of_ble_eq_true rfl) ⟨Nat.le_of_ble_eq_true rfl, Nat.le_of_ble_eq_true rfl⟩ ⟨Nat.le_of_ble_eq_true rfl, Nat.le_of_ble_eq_true rfl⟩ dX4_readLine_14 ?_
    exact zr_vret C hret rfl (congrArg (zen G) (zs_e hJ)) dX4_readLine_17
theorem dX3_openLoop_0 : decode cX3_openLoop 0 = .ok (.aload_n 0, 1) := by decide +kernel
theorem dX3_openLoop_1 : decode cX3_openLoop 1 = .ok (.getfield 30, 3) := by decide +kernel
theorem dX3_openLoop_4 : decode cX3_openLoop 4 = .ok (.bipush 40, 2) := by decide +kernel
theorem dX3_openLoop_6 : decode cX3_openLoop 6 = .ok (.if_icmp .ge 11, 3) := by decide +kernel
theorem dX3_openLoop_9 : decode cX3_openLoop 9 = .ok (.aload_n 0, 1) := by decide +kernel
theorem dX3_openLoop_10 : decode cX3_openLoop 10 = .ok (.getfield 54, 3) := by decide +kernel
theorem dX3_openLoop_13 : decode cX3_openLoop 13 = .ok (.iconst 4, 1) := by decide +kernel
theorem dX3_openLoop_14 : decode cX3_openLoop 14 = .ok (.if_icmp .lt 4, 3) := by decide +kernel
theorem dX3_openLoop_17 : decode cX3_openLoop 17 = .ok (.return_, 1) := by decide +kernel
theorem dX3_openLoop_18 : decode cX3_openLoop 18 = .ok (.aload_n 0, 1) := by decide +kernel
theorem dX3_openLoop_19 : decode cX3_openLoop 19 = .ok (.getfield 33, 3) := by decide +kernel
theorem dX3_openLoop_22 : decode cX3_openLoop 22 = .ok (.aload_n 0, 1) := by decide +kernel
theorem dX3_openLoop_23 : decode cX3_openLoop 23 = .ok (.getfield 30, 3) := by decide +kernel
theorem dX3_openLoop_26 : decode cX3_openLoop 26 = .ok (.iload_n 1, 1) := by decide +kernel
theorem dX3_openLoop_27 : decode cX3_openLoop 27 = .ok (.iastore, 1) := by decide +kernel
theorem dX3_openLoop_28 : decode cX3_openLoop 28 = .ok (.aload_n 0, 1) := by decide +kernel
theorem dX3_openLoop_29 : decode cX3_openLoop 29 = .ok (.getfield 36, 3) := by decide +kernel
theorem dX3_openLoop_32 : decode cX3_openLoop 32 = .ok (.aload_n 0, 1) := by decide +kernel
theorem dX3_openLoop_33 : decode cX3_openLoop 33 = .ok (.getfield 30, 3) := by decide +kernel
theorem dX3_openLoop_36 : decode cX3_openLoop 36 = .ok (.aload_n 0, 1) := by decide +kernel
theorem dX3_openLoop_37 : decode cX3_openLoop 37 = .ok (.getfield 54, 3) := by decide +kernel
theorem dX3_openLoop_40 : decode cX3_openLoop 40 = .ok (.iastore, 1) := by decide +kernel
theorem dX3_openLoop_41 : decode cX3_openLoop 41 = .ok (.aload_n 0, 1) := by decide +kernel
theorem dX3_openLoop_42 : decode cX3_openLoop 42 = .ok (.getfield 39, 3) := by decide +kernel
theorem dX3_openLoop_45 : decode cX3_openLoop 45 = .ok (.aload_n 0, 1) := by decide +kernel
theorem dX3_openLoop_46 : decode cX3_openLoop 46 = .ok (.getfield 30, 3) := by decide +kernel
theorem dX3_openLoop_49 : decode cX3_openLoop 49 = .ok (.aload_n 0, 1) := by decide +kernel
theorem dX3_openLoop_50 : decode cX3_openLoop 50 = .ok (.getfield 57, 3) := by decide +kernel
theorem dX3_openLoop_53 : decode cX3_openLoop 53 = .ok (.iastore, 1) := by decide +kernel
theorem dX3_openLoop_54 : decode cX3_openLoop 54 = .ok (.aload_n 0, 1) := by decide +kernel
theorem dX3_openLoop_55 : decode cX3_openLoop 55 = .ok (.getfield 42, 3) := by decide +kernel
theorem dX3_openLoop_58 : decode cX3_openLoop 58 = .ok (.aload_n 0, 1) := by decide +kernel
theorem dX3_openLoop_59 : decode cX3_openLoop 59 = .ok (.getfield 30, 3) := by decide +kernel
theorem dX3_openLoop_62 : decode cX3_openLoop 62 = .ok (.aload_n 0, 1) := by decide +kernel
theorem dX3_openLoop_63 : decode cX3_openLoop 63 = .ok (.getfield 9, 3) := by decide +kernel
theorem dX3_openLoop_66 : decode cX3_openLoop 66 = .ok (.iastore, 1) := by decide +kernel
theorem dX3_openLoop_67 : decode cX3_openLoop 67 = .ok (.aload_n 0, 1) := by decide +kernel
theorem dX3_openLoop_68 : decode cX3_openLoop 68 = .ok (.getfield 45, 3) := by decide +kernel
theorem dX3_openLoop_71 : decode cX3_openLoop 71 = .ok (.aload_n 0, 1) := by decide +kernel
theorem dX3_openLoop_72 : decode cX3_openLoop 72 = .ok (.getfield 30, 3) := by decide +kernel
theorem dX3_openLoop_75 : decode cX3_openLoop 75 = .ok (.aload_n 0, 1) := by decide +kernel
theorem dX3_openLoop_76 : decode cX3_openLoop 76 = .ok (.getfield 9, 3) := by decide +kernel
theorem dX3_openLoop_79 : decode cX3_openLoop 79 = .ok (.iastore, 1) := by decide +kernel
theorem dX3_openLoop_80 : decode cX3_openLoop 80 = .ok (.aload_n 0, 1) := by decide +kernel
theorem dX3_openLoop_81 : decode cX3_openLoop 81 = .ok (.getfield 48, 3) := by decide +kernel
theorem dX3_openLoop_84 : decode cX3_openLoop 84 = .ok (.aload_n 0, 1) := by decide +kernel
theorem dX3_openLoop_85 : decode cX3_openLoop 85 = .ok (.getfield 30, 3) := by decide +kernel
theorem dX3_openLoop_88 : decode cX3_openLoop 88 = .ok (.aload_n 0, 1) := by decide +kernel
theorem dX3_openLoop_89 : decode cX3_openLoop 89 = .ok (.getfield 60, 3) := by decide +kernel
theorem dX3_openLoop_92 : decode cX3_openLoop 92 = .ok (.iastore, 1) := by decide +kernel
theorem dX3_openLoop_93 : decode cX3_openLoop 93 = .ok (.aload_n 0, 1) := by decide +kernel
theorem dX3_openLoop_94 : decode cX3_openLoop 94 = .ok (.getfield 51, 3) := by decide +kernel
theorem dX3_openLoop_97 : decode cX3_openLoop 97 = .ok (.aload_n 0, 1) := by decide +kernel
theorem dX3_openLoop_98 : decode cX3_openLoop 98 = .ok (.getfield 54, 3) := by decide +kernel
theorem dX3_openLoop_101 : decode cX3_openLoop 101 = .ok (.aload_n 0, 1) := by decide +kernel
theorem dX3_openLoop_102 : decode cX3_openLoop 102 = .ok (.getfield 30, 3) := by decide +kernel
theorem dX3_openLoop_105 : decode cX3_openLoop 105 = .ok (.iastore, 1) := by decide +kernel
theorem dX3_openLoop_106 : decode cX3_openLoop 106 = .ok (.aload_n 0, 1) := by decide +kernel
theorem dX3_openLoop_107 : decode cX3_openLoop 107 = .ok (.dup, 1) := by decide +kernel
theorem dX3_openLoop_108 : decode cX3_openLoop 108 = .ok (.getfield 54, 3) := by decide +kernel
theorem dX3_openLoop_111 : decode cX3_openLoop 111 = .ok (.iconst 1, 1) := by decide +kernel
theorem dX3_openLoop_112 : decode cX3_openLoop 112 = .ok (.iadd, 1) := by decide +kernel
theorem dX3_openLoop_113 : decode cX3_openLoop 113 = .ok (.putfield 54, 3) := by decide +kernel
theorem dX3_openLoop_116 : decode cX3_openLoop 116 = .ok (.aload_n 0, 1) := by decide +kernel
theorem dX3_openLoop_117 : decode cX3_openLoop 117 = .ok (.dup, 1) := by decide +kernel
theorem dX3_openLoop_118 : decode cX3_openLoop 118 = .ok (.getfield 57, 3) := by decide +kernel
theorem dX3_openLoop_121 : decode cX3_openLoop 121 = .ok (.iload_n 1, 1) := by decide +kernel
theorem dX3_openLoop_122 : decode cX3_openLoop 122 = .ok (.imul, 1) := by decide +kernel
theorem dX3_openLoop_123 : decode cX3_openLoop 123 = .ok (.putfield 57, 3) := by decide +kernel
theorem dX3_openLoop_126 : decode cX3_openLoop 126 = .ok (.aload_n 0, 1) := by decide +kernel
theorem dX3_openLoop_127 : decode cX3_openLoop 127 = .ok (.dup, 1) := by decide +kernel
theorem dX3_openLoop_128 : decode cX3_openLoop 128 = .ok (.getfield 30, 3) := by decide +kernel
theorem dX3_openLoop_131 : decode cX3_openLoop 131 = .ok (.iconst 1, 1) := by decide +kernel
theorem dX3_openLoop_132 : decode cX3_openLoop 132 = .ok (.iadd, 1) := by decide +kernel
theorem dX3_openLoop_133 : decode cX3_openLoop 133 = .ok (.putfield 30, 3) := by decide +kernel
theorem dX3_openLoop_136 : decode cX3_openLoop 136 = .ok (.return_, 1) := by decide +kernel
set_option maxRecDepth 100000 in
set_option maxHeartbeats 4000000 in
theorem M_X3_openLoop (G : zG) (l : Launch) {p0 : Nat} (hp0 : zP p0 = true) {a1 : Int32} {σ : zS} {σ' : zS} (hJ : J_X3_openLoop p0 a1 σ = some σ') : zMV G l yX3_openLoop cX3_openLoop 2 none (zrm 0 0) [.ref (G.1 + p0), .int a1] 137 (zen G σ) 137 (zen G σ') := by
  unfold J_X3_openLoop at hJ
  refine zentV (by decide +kernel) (Nat.le_of_ble_eq_true rfl) ?_
  intro p e s m args below meth c C hret
  refine zr_sub [0, 1] [(0, .ref (G.1 + p0)), (1, .int a1)] rfl ?_
  refine zr_aload_n C 0 dX3_openLoop_0 rfl ?_
  refine zg_3_5 C p0 (zkP_0 hp0) zm_3_23 dX3_openLoop_1 ?_
  refine zr_bipush C dX3_openLoop_4 (v := (40 : Int32)) (by decide) ?_
  refine zr_icmp_ge C 17 dX3_openLoop_6 (by decide) (fun hc1 => ?_) (fun hc1 => ?_)
  · have hJ := zif hc1 hJ
    exact zr_vret C hret rfl (congrArg (zen G) (zs_e hJ)) dX3_openLoop_17
  · have hJ := zif' hc1 hJ
    refine zr_aload_n C 0 dX3_openLoop_9 rfl ?_
    refine zg_3_13 C p0 (zkP_0 hp0) zm_4_7 dX3_openLoop_10 ?_
    refine zr_iconst C dX3_openLoop_13 (v := (4 : Int32)) (by decide) ?_
    refine zr_icmp_lt C 18 dX3_openLoop_14 (by decide) (fun hc2 => ?_) (fun hc2 => ?_)
    · have hJ := zif hc2 hJ
      refine zr_aload_n C 0 dX3_openLoop_18 rfl ?_
      refine zg_3_6 C p0 (zkP_0 hp0) zm_4_0 dX3_openLoop_19 ?_
      refine zr_aload_n C 0 dX3_openLoop_22 rfl ?_
      refine zg_3_5 C p0 (zkP_0 hp0) zm_3_23 dX3_openLoop_23 ?_
      refine zr_iload_n C 1 dX3_openLoop_26 rfl ?_
      obtain ⟨hg3, hJ⟩ := zg_e hJ
      obtain ⟨σ4, hσ4, hJ⟩ := zlet_e hJ
      refine zv_iast C (p0 + 21) (zkP_21 hp0) hg3 hσ4 dX3_openLoop_27 ?_
      refine zr_aload_n C 0 dX3_openLoop_28 rfl ?_
      refine zg_3_7 C p0 (zkP_0 hp0) zm_4_1 dX3_openLoop_29 ?_
      refine zr_aload_n C 0 dX3_openLoop_32 rfl ?_
      refine zg_3_5 C p0 (zkP_0 hp0) zm_3_23 dX3_openLoop_33 ?_
      refine zr_aload_n C 0 dX3_openLoop_36 rfl ?_
      refine zg_3_13 C p0 (zkP_0 hp0) zm_4_7 dX3_openLoop_37 ?_
      obtain ⟨hg5, hJ⟩ := zg_e hJ
      obtain ⟨σ6, hσ6, hJ⟩ := zlet_e hJ
      refine zv_iast C (p0 + 22) (zkP_22 hp0) hg5 hσ6 dX3_openLoop_40 ?_
      refine zr_aload_n C 0 dX3_openLoop_41 rfl ?_
      refine zg_3_8 C p0 (zkP_0 hp0) zm_4_2 dX3_openLoop_42 ?_
      refine zr_aload_n C 0 dX3_openLoop_45 rfl ?_
      refine zg_3_5 C p0 (zkP_0 hp0) zm_3_23 dX3_openLoop_46 ?_
      refine zr_aload_n C 0 dX3_openLoop_49 rfl ?_
      refine zg_3_14 C p0 (zkP_0 hp0) zm_4_8 dX3_openLoop_50 ?_
      obtain ⟨hg7, hJ⟩ := zg_e hJ
      obtain ⟨σ8, hσ8, hJ⟩ := zlet_e hJ
      refine zv_iast C (p0 + 23) (zkP_23 hp0) hg7 hσ8 dX3_openLoop_53 ?_
      refine zr_aload_n C 0 dX3_openLoop_54 rfl ?_
      refine zg_3_9 C p0 (zkP_0 hp0) zm_4_3 dX3_openLoop_55 ?_
      refine zr_aload_n C 0 dX3_openLoop_58 rfl ?_
      refine zg_3_5 C p0 (zkP_0 hp0) zm_3_23 dX3_openLoop_59 ?_
      refine zr_aload_n C 0 dX3_openLoop_62 rfl ?_
      refine zg_3_0 C p0 (zkP_0 hp0) zm_3_16 dX3_openLoop_63 ?_
      obtain ⟨hg9, hJ⟩ := zg_e hJ
      obtain ⟨σ10, hσ10, hJ⟩ := zlet_e hJ
      refine zv_iast C (p0 + 24) (zkP_24 hp0) hg9 hσ10 dX3_openLoop_66 ?_
      refine zr_aload_n C 0 dX3_openLoop_67 rfl ?_
      refine zg_3_10 C p0 (zkP_0 hp0) zm_4_4 dX3_openLoop_68 ?_
      refine zr_aload_n C 0 dX3_openLoop_71 rfl ?_
      refine zg_3_5 C p0 (zkP_0 hp0) zm_3_23 dX3_openLoop_72 ?_
      refine zr_aload_n C 0 dX3_openLoop_75 rfl ?_
      refine zg_3_0 C p0 (zkP_0 hp0) zm_3_16 dX3_openLoop_76 ?_
      obtain ⟨hg11, hJ⟩ := zg_e hJ
      obtain ⟨σ12, hσ12, hJ⟩ := zlet_e hJ
      refine zv_iast C (p0 + 25) (zkP_25 hp0) hg11 hσ12 dX3_openLoop_79 ?_
      refine zr_aload_n C 0 dX3_openLoop_80 rfl ?_
      refine zg_3_11 C p0 (zkP_0 hp0) zm_4_5 dX3_openLoop_81 ?_
      refine zr_aload_n C 0 dX3_openLoop_84 rfl ?_
      refine zg_3_5 C p0 (zkP_0 hp0) zm_3_23 dX3_openLoop_85 ?_
      refine zr_aload_n C 0 dX3_openLoop_88 rfl ?_
      refine zg_3_15 C p0 (zkP_0 hp0) zm_4_9 dX3_openLoop_89 ?_
      obtain ⟨hg13, hJ⟩ := zg_e hJ
      obtain ⟨σ14, hσ14, hJ⟩ := zlet_e hJ
      refine zv_iast C (p0 + 26) (zkP_26 hp0) hg13 hσ14 dX3_openLoop_92 ?_
      refine zr_aload_n C 0 dX3_openLoop_93 rfl ?_
      refine zg_3_12 C p0 (zkP_0 hp0) zm_4_6 dX3_openLoop_94 ?_
      refine zr_aload_n C 0 dX3_openLoop_97 rfl ?_
      refine zg_3_13 C p0 (zkP_0 hp0) zm_4_7 dX3_openLoop_98 ?_
      refine zr_aload_n C 0 dX3_openLoop_101 rfl ?_
      refine zg_3_5 C p0 (zkP_0 hp0) zm_3_23 dX3_openLoop_102 ?_
      obtain ⟨hg15, hJ⟩ := zg_e hJ
      obtain ⟨σ16, hσ16, hJ⟩ := zlet_e hJ
      refine zv_iast C (p0 + 27) (zkP_27 hp0) hg15 hσ16 dX3_openLoop_105 ?_
      refine zr_aload_n C 0 dX3_openLoop_106 rfl ?_
      refine zr_dup C dX3_openLoop_107 rfl ?_
      refine zg_3_13 C p0 (zkP_0 hp0) zm_4_7 dX3_openLoop_108 ?_
      refine zr_iconst C dX3_openLoop_111 (v := (1 : Int32)) (by decide) ?_
      refine zr_iadd C dX3_openLoop_112 ?_
      obtain ⟨σ17, hσ17, hJ⟩ := zlet_e hJ
      refine zp_3_13 C p0 (zkP_0 hp0) zm_4_7 hσ17 dX3_openLoop_113 ?_
      refine zr_aload_n C 0 dX3_openLoop_116 rfl ?_
      refine zr_dup C dX3_openLoop_117 rfl ?_
      refine zg_3_14 C p0 (zkP_0 hp0) zm_4_8 dX3_openLoop_118 ?_
      refine zr_iload_n C 1 dX3_openLoop_121 rfl ?_
      refine zr_imul C dX3_openLoop_122 ?_
      obtain ⟨σ18, hσ18, hJ⟩ := zlet_e hJ
      refine zp_3_14 C p0 (zkP_0 hp0) zm_4_8 hσ18 dX3_openLoop_123 ?_
      refine zr_aload_n C 0 dX3_openLoop_126 rfl ?_
      refine zr_dup C dX3_openLoop_127 rfl ?_
      refine zg_3_5 C p0 (zkP_0 hp0) zm_3_23 dX3_openLoop_128 ?_
      refine zr_iconst C dX3_openLoop_131 (v := (1 : Int32)) (by decide) ?_
      refine zr_iadd C dX3_openLoop_132 ?_
      obtain ⟨σ19, hσ19, hJ⟩ := zlet_e hJ
      refine zp_3_5 C p0 (zkP_0 hp0) zm_3_23 hσ19 dX3_openLoop_133 ?_
      exact zr_vret C hret rfl (congrArg (zen G) (zs_e hJ)) dX3_openLoop_136
    · have hJ := zif' hc2 hJ
      exact zr_vret C hret rfl (congrArg (zen G) (zs_e hJ)) dX3_openLoop_17
theorem dX4_takeKind_0 : decode cX4_takeKind 0 = .ok (.aload_n 0, 1) := by decide +kernel
theorem dX4_takeKind_1 : decode cX4_takeKind 1 = .ok (.invokevirtual 43, 3) := by decide +kernel
theorem dX4_takeKind_4 : decode cX4_takeKind 4 = .ok (.aload_n 0, 1) := by decide +kernel
theorem dX4_takeKind_5 : decode cX4_takeKind 5 = .ok (.getfield 24, 3) := by decide +kernel
theorem dX4_takeKind_8 : decode cX4_takeKind 8 = .ok (.ifCond .ne 16, 3) := by decide +kernel
theorem dX4_takeKind_11 : decode cX4_takeKind 11 = .ok (.aload_n 0, 1) := by decide +kernel
theorem dX4_takeKind_12 : decode cX4_takeKind 12 = .ok (.getfield 15, 3) := by decide +kernel
theorem dX4_takeKind_15 : decode cX4_takeKind 15 = .ok (.iload_n 1, 1) := by decide +kernel
theorem dX4_takeKind_16 : decode cX4_takeKind 16 = .ok (.if_icmp .eq 8, 3) := by decide +kernel
theorem dX4_takeKind_19 : decode cX4_takeKind 19 = .ok (.aload_n 0, 1) := by decide +kernel
theorem dX4_takeKind_20 : decode cX4_takeKind 20 = .ok (.iconst 2, 1) := by decide +kernel
theorem dX4_takeKind_21 : decode cX4_takeKind 21 = .ok (.invokevirtual 74, 3) := by decide +kernel
theorem dX4_takeKind_24 : decode cX4_takeKind 24 = .ok (.return_, 1) := by decide +kernel
set_option maxRecDepth 100000 in
set_option maxHeartbeats 4000000 in
theorem M_X4_takeKind (G : zG) (l : Launch) {a1 : Int32} {σ : zS} {σ' : zS} (hJ : J_X4_takeKind a1 σ = some σ') : zMV G l yX4_takeKind cX4_takeKind 2 none (zrm 3 61) [.ref (G.1 + 63), .int a1] 137 (zen G σ) 137 (zen G σ') := by
  unfold J_X4_takeKind at hJ
  refine zentV (by decide +kernel) (Nat.le_of_ble_eq_true rfl) ?_
  intro p e s m args below meth c C hret
  refine zr_sub [0, 1] [(0, .ref (G.1 + 63)), (1, .int a1)] rfl ?_
  refine zr_aload_n C 0 dX4_takeKind_0 rfl ?_
  obtain ⟨σ2, hr1, hJ⟩ := zb_e hJ
  refine zr_callVV C 63 (zk_lt zk_63 (by decide)) (zen_obj zk_63) (rfl : zcl[4]? = some (RX4, TX4, 8)) (M_X4_takeToken G l hr1) zin_X4_takeToken zm_10_18 rfl rfl (Nat.le_of_ble_eq_true rfl) ⟨Nat.le_of_ble_eq_true rfl, Nat.le_of_ble_eq_true rfl⟩ ⟨Nat.le_of_ble_eq_true rfl, Nat.le_of_ble_eq_true rfl⟩ dX4_takeKind_1 ?_
  refine zr_aload_n C 0 dX4_takeKind_4 rfl ?_
  refine zg_4_6 C 63 zk_63 zm_4_21 dX4_takeKind_5 ?_
  refine zr_if_ne C 24 dX4_takeKind_8 (by decide) (fun hc3 => ?_) (fun hc3 => ?_)
  · have hJ := zif' hc3 hJ
    exact zr_vret C hret rfl (congrArg (zen G) (zs_e hJ)) dX4_takeKind_24
  · have hJ := zif hc3 hJ
    refine zr_aload_n C 0 dX4_takeKind_11 rfl ?_
    refine zg_4_3 C 63 zk_63 zm_4_18 dX4_takeKind_12 ?_
    refine zr_iload_n C 1 dX4_takeKind_15 rfl ?_
    refine zr_icmp_eq C 24 dX4_takeKind_16 (by decide) (fun hc4 => ?_) (fun hc4 => ?_)
    · have hJ := zif hc4 hJ
      exact zr_vret C hret rfl (congrArg (zen G) (zs_e hJ)) dX4_takeKind_24
    · have hJ := zif' hc4 hJ
      refine zr_aload_n C 0 dX4_takeKind_19 rfl ?_
      refine zr_iconst C dX4_takeKind_20 (v := (2 : Int32)) (by decide) ?_
      obtain ⟨σ6, hr5, hJ⟩ := zb_e hJ
      refine zr_callVV C 63 (zk_lt zk_63 (by decide)) (zen_obj zk_63) (rfl : zcl[4]? = some (RX4, TX4, 8)) (M_X4_fail G l hr5) zin_X4_fail zm_11_14 rfl rfl (Nat.le_of_ble_eq_true rfl) ⟨Nat.le_of_ble_eq_true rfl, Nat.le_of_ble_eq_true rfl⟩ ⟨Nat.le_of_ble_eq_true rfl, Nat.le_of_ble_eq_true rfl⟩ dX4_takeKind_21 ?_
      exact zr_vret C hret rfl (congrArg (zen G) (zs_e hJ)) dX4_takeKind_24
theorem dX4_readLoop_0 : decode cX4_readLoop 0 = .ok (.aload_n 0, 1) := by decide +kernel
theorem dX4_readLoop_1 : decode cX4_readLoop 1 = .ok (.getfield 34, 3) := by decide +kernel
theorem dX4_readLoop_4 : decode cX4_readLoop 4 = .ok (.getfield 64, 3) := by decide +kernel
theorem dX4_readLoop_7 : decode cX4_readLoop 7 = .ok (.iconst 4, 1) := by decide +kernel
theorem dX4_readLoop_8 : decode cX4_readLoop 8 = .ok (.if_icmp .lt 9, 3) := by decide +kernel
theorem dX4_readLoop_11 : decode cX4_readLoop 11 = .ok (.aload_n 0, 1) := by decide +kernel
theorem dX4_readLoop_12 : decode cX4_readLoop 12 = .ok (.iconst 5, 1) := by decide +kernel
theorem dX4_readLoop_13 : decode cX4_readLoop 13 = .ok (.invokevirtual 74, 3) := by decide +kernel
theorem dX4_readLoop_16 : decode cX4_readLoop 16 = .ok (.return_, 1) := by decide +kernel
theorem dX4_readLoop_17 : decode cX4_readLoop 17 = .ok (.aload_n 0, 1) := by decide +kernel
theorem dX4_readLoop_18 : decode cX4_readLoop 18 = .ok (.iconst 1, 1) := by decide +kernel
theorem dX4_readLoop_19 : decode cX4_readLoop 19 = .ok (.bipush 99, 2) := by decide +kernel
theorem dX4_readLoop_21 : decode cX4_readLoop 21 = .ok (.invokevirtual 87, 3) := by decide +kernel
theorem dX4_readLoop_24 : decode cX4_readLoop 24 = .ok (.aload_n 0, 1) := by decide +kernel
theorem dX4_readLoop_25 : decode cX4_readLoop 25 = .ok (.getfield 24, 3) := by decide +kernel
theorem dX4_readLoop_28 : decode cX4_readLoop 28 = .ok (.ifCond .ne 19, 3) := by decide +kernel
theorem dX4_readLoop_31 : decode cX4_readLoop 31 = .ok (.aload_n 0, 1) := by decide +kernel
theorem dX4_readLoop_32 : decode cX4_readLoop 32 = .ok (.getfield 34, 3) := by decide +kernel
theorem dX4_readLoop_35 : decode cX4_readLoop 35 = .ok (.aload_n 0, 1) := by decide +kernel
theorem dX4_readLoop_36 : decode cX4_readLoop 36 = .ok (.getfield 21, 3) := by decide +kernel
theorem dX4_readLoop_39 : decode cX4_readLoop 39 = .ok (.invokevirtual 116, 3) := by decide +kernel
theorem dX4_readLoop_42 : decode cX4_readLoop 42 = .ok (.aload_n 0, 1) := by decide +kernel
theorem dX4_readLoop_43 : decode cX4_readLoop 43 = .ok (.iconst 2, 1) := by decide +kernel
theorem dX4_readLoop_44 : decode cX4_readLoop 44 = .ok (.invokevirtual 67, 3) := by decide +kernel
theorem dX4_readLoop_47 : decode cX4_readLoop 47 = .ok (.return_, 1) := by decide +kernel
set_option maxRecDepth 100000 in
set_option maxHeartbeats 4000000 in
theorem M_X4_readLoop (G : zG) (l : Launch) {σ : zS} {σ' : zS} (hJ : J_X4_readLoop σ = some σ') : zMV G l yX4_readLoop cX4_readLoop 1 none (zrm 4 83) [.ref (G.1 + 63)] 137 (zen G σ) 137 (zen G σ') := by
  unfold J_X4_readLoop at hJ
  refine zentV (by decide +kernel) (Nat.le_of_ble_eq_true rfl) ?_
  intro p e s m args below meth c C hret
  refine zr_sub [0] [(0, .ref (G.1 + 63))] rfl ?_
  refine zr_aload_n C 0 dX4_readLoop_0 rfl ?_
  obtain ⟨p1, hp1, hJ⟩ := zlet_e hJ
  obtain ⟨hp2, hJ⟩ := zg_e hJ
  refine zg_4_1 C 63 zk_63 zm_5_0 dX4_readLoop_1 ?_
  refine zr_topr hp1 ?_
  refine zg_3_13 C p1 (zkP_0 hp2) zm_10_13 dX4_readLoop_4 ?_
  refine zr_iconst C dX4_readLoop_7 (v := (4 : Int32)) (by decide) ?_
  refine zr_icmp_lt C 17 dX4_readLoop_8 (by decide) (fun hc3 => ?_) (fun hc3 => ?_)
  · have hJ := zif hc3 hJ
    refine zr_aload_n C 0 dX4_readLoop_17 rfl ?_
    refine zr_iconst C dX4_readLoop_18 (v := (1 : Int32)) (by decide) ?_
    refine zr_bipush C dX4_readLoop_19 (v := (99 : Int32)) (by decide) ?_
    obtain ⟨σ5, hr4, hJ⟩ := zb_e hJ
    refine zr_callVV C 63 (zk_lt zk_63 (by decide)) (zen_obj zk_63) (rfl : zcl[4]? = some (RX4, TX4, 8)) (M_X4_takeNumber G l hr4) zin_X4_takeNumber zm_14_4 rfl rfl (Nat.le_of_ble_eq_true rfl) ⟨Nat.le_of_ble_eq_true rfl, Nat.le_of_ble_eq_true rfl⟩ ⟨Nat.le_of_ble_eq_true rfl, Nat.le_of_ble_eq_true rfl⟩ dX4_readLoop_21 ?_
    refine zr_aload_n C 0 dX4_readLoop_24 rfl ?_
    refine zg_4_6 C 63 zk_63 zm_4_21 dX4_readLoop_25 ?_
    refine zr_if_ne C 47 dX4_readLoop_28 (by decide) (fun hc6 => ?_) (fun hc6 => ?_)
    · have hJ := zif' hc6 hJ
      exact zr_vret C hret rfl (congrArg (zen G) (zs_e hJ)) dX4_readLoop_47
    · have hJ := zif hc6 hJ
      refine zr_aload_n C 0 dX4_readLoop_31 rfl ?_
      obtain ⟨p7, hp7, hJ⟩ := zlet_e hJ
      obtain ⟨hp8, hJ⟩ := zg_e hJ
      refine zg_4_1 C 63 zk_63 zm_5_0 dX4_readLoop_32 ?_
      refine zr_topr hp7 ?_
      refine zr_aload_n C 0 dX4_readLoop_35 rfl ?_
      refine zg_4_5 C 63 zk_63 zm_4_20 dX4_readLoop_36 ?_
      obtain ⟨σ10, hr9, hJ⟩ := zb_e hJ
      refine zr_callVV C p7 (zk_lt (zkP_0 hp8) (by decide)) (zen_obj (zkP_0 hp8)) (rfl : zcl[3]? = some (RX3, TX3, 19)) (M_X3_openLoop G l hp8 hr9) zin_X3_openLoop zm_15_8 rfl rfl (Nat.le_of_ble_eq_true rfl) ⟨Nat.le_of_ble_eq_true rfl, Nat.le_of_ble_eq_true rfl⟩ ⟨Nat.le_of_ble_eq_true rfl, Nat.le_of_ble_eq_true rfl⟩ dX4_readLoop_39 ?_
      refine zr_aload_n C 0 dX4_readLoop_42 rfl ?_
      refine zr_iconst C dX4_readLoop_43 (v := (2 : Int32)) (by decide) ?_
      obtain ⟨σ12, hr11, hJ⟩ := zb_e hJ
      refine zr_callVV C 63 (zk_lt zk_63 (by decide)) (zen_obj zk_63) (rfl : zcl[4]? = some (RX4, TX4, 8)) (M_X4_takeKind G l hr11) zin_X4_takeKind zm_15_12 rfl rfl (Nat.le_of_ble_eq_true rfl) ⟨Nat.le_of_ble_eq_true rfl, Nat.le_of_ble_eq_true rfl⟩ ⟨Nat.le_of_ble_eq_true rfl, Nat.le_of_ble_eq_true rfl⟩ dX4_readLoop_44 ?_
      exact zr_vret C hret rfl (congrArg (zen G) (zs_e hJ)) dX4_readLoop_47
  · have hJ := zif' hc3 hJ
    refine zr_aload_n C 0 dX4_readLoop_11 rfl ?_
    refine zr_iconst C dX4_readLoop_12 (v := (5 : Int32)) (by decide) ?_
    obtain ⟨σ14, hr13, hJ⟩ := zb_e hJ
    refine zr_callVV C 63 (zk_lt zk_63 (by decide)) (zen_obj zk_63) (rfl : zcl[4]? = some (RX4, TX4, 8)) (M_X4_fail G l hr13) zin_X4_fail zm_11_14 rfl rfl (Nat.le_of_ble_eq_true rfl) ⟨Nat.le_of_ble_eq_true rfl, Nat.le_of_ble_eq_true rfl⟩ ⟨Nat.le_of_ble_eq_true rfl, Nat.le_of_ble_eq_true rfl⟩ dX4_readLoop_13 ?_
    exact zr_vret C hret rfl (congrArg (zen G) (zs_e hJ)) dX4_readLoop_16
theorem dX4_readInto_0 : decode cX4_readInto 0 = .ok (.aload_n 0, 1) := by decide +kernel
theorem dX4_readInto_1 : decode cX4_readInto 1 = .ok (.aload_n 1, 1) := by decide +kernel
theorem dX4_readInto_2 : decode cX4_readInto 2 = .ok (.putfield 34, 3) := by decide +kernel
theorem dX4_readInto_5 : decode cX4_readInto 5 = .ok (.aload_n 0, 1) := by decide +kernel
theorem dX4_readInto_6 : decode cX4_readInto 6 = .ok (.getfield 34, 3) := by decide +kernel
theorem dX4_readInto_9 : decode cX4_readInto 9 = .ok (.invokevirtual 38, 3) := by decide +kernel
theorem dX4_readInto_12 : decode cX4_readInto 12 = .ok (.aload_n 0, 1) := by decide +kernel
theorem dX4_readInto_13 : decode cX4_readInto 13 = .ok (.iconst 0, 1) := by decide +kernel
theorem dX4_readInto_14 : decode cX4_readInto 14 = .ok (.putfield 9, 3) := by decide +kernel
theorem dX4_readInto_17 : decode cX4_readInto 17 = .ok (.aload_n 0, 1) := by decide +kernel
theorem dX4_readInto_18 : decode cX4_readInto 18 = .ok (.iconst 0, 1) := by decide +kernel
theorem dX4_readInto_19 : decode cX4_readInto 19 = .ok (.putfield 24, 3) := by decide +kernel
theorem dX4_readInto_22 : decode cX4_readInto 22 = .ok (.aload_n 0, 1) := by decide +kernel
theorem dX4_readInto_23 : decode cX4_readInto 23 = .ok (.iconst 0, 1) := by decide +kernel
theorem dX4_readInto_24 : decode cX4_readInto 24 = .ok (.putfield 27, 3) := by decide +kernel
theorem dX4_readInto_27 : decode cX4_readInto 27 = .ok (.aload_n 0, 1) := by decide +kernel
theorem dX4_readInto_28 : decode cX4_readInto 28 = .ok (.invokevirtual 43, 3) := by decide +kernel
theorem dX4_readInto_31 : decode cX4_readInto 31 = .ok (.iconst 0, 1) := by decide +kernel
theorem dX4_readInto_32 : decode cX4_readInto 32 = .ok (.istore_n 2, 1) := by decide +kernel
theorem dX4_readInto_33 : decode cX4_readInto 33 = .ok (.iload_n 2, 1) := by decide +kernel
theorem dX4_readInto_34 : decode cX4_readInto 34 = .ok (.sipush 320, 3) := by decide +kernel
theorem dX4_readInto_37 : decode cX4_readInto 37 = .ok (.if_icmp .gt 106, 3) := by decide +kernel
theorem dX4_readInto_40 : decode cX4_readInto 40 = .ok (.aload_n 0, 1) := by decide +kernel
theorem dX4_readInto_41 : decode cX4_readInto 41 = .ok (.getfield 24, 3) := by decide +kernel
theorem dX4_readInto_44 : decode cX4_readInto 44 = .ok (.ifCond .ne 99, 3) := by decide +kernel
theorem dX4_readInto_47 : decode cX4_readInto 47 = .ok (.aload_n 0, 1) := by decide +kernel
theorem dX4_readInto_48 : decode cX4_readInto 48 = .ok (.getfield 15, 3) := by decide +kernel
theorem dX4_readInto_51 : decode cX4_readInto 51 = .ok (.iconst 3, 1) := by decide +kernel
theorem dX4_readInto_52 : decode cX4_readInto 52 = .ok (.if_icmp .eq 91, 3) := by decide +kernel
theorem dX4_readInto_55 : decode cX4_readInto 55 = .ok (.aload_n 0, 1) := by decide +kernel
theorem dX4_readInto_56 : decode cX4_readInto 56 = .ok (.ldc 48, 2) := by decide +kernel
theorem dX4_readInto_58 : decode cX4_readInto 58 = .ok (.invokevirtual 50, 3) := by decide +kernel
theorem dX4_readInto_61 : decode cX4_readInto 61 = .ok (.ifCond .eq 10, 3) := by decide +kernel
theorem dX4_readInto_64 : decode cX4_readInto 64 = .ok (.aload_n 0, 1) := by decide +kernel
theorem dX4_readInto_65 : decode cX4_readInto 65 = .ok (.invokevirtual 54, 3) := by decide +kernel
theorem dX4_readInto_68 : decode cX4_readInto 68 = .ok (.goto 58, 3) := by decide +kernel
theorem dX4_readInto_71 : decode cX4_readInto 71 = .ok (.aload_n 0, 1) := by decide +kernel
theorem dX4_readInto_72 : decode cX4_readInto 72 = .ok (.ldc 57, 2) := by decide +kernel
theorem dX4_readInto_74 : decode cX4_readInto 74 = .ok (.invokevirtual 50, 3) := by decide +kernel
theorem dX4_readInto_77 : decode cX4_readInto 77 = .ok (.ifCond .eq 10, 3) := by decide +kernel
theorem dX4_readInto_80 : decode cX4_readInto 80 = .ok (.aload_n 0, 1) := by decide +kernel
theorem dX4_readInto_81 : decode cX4_readInto 81 = .ok (.invokevirtual 59, 3) := by decide +kernel
theorem dX4_readInto_84 : decode cX4_readInto 84 = .ok (.goto 42, 3) := by decide +kernel
theorem dX4_readInto_87 : decode cX4_readInto 87 = .ok (.aload_n 0, 1) := by decide +kernel
theorem dX4_readInto_88 : decode cX4_readInto 88 = .ok (.ldc 62, 2) := by decide +kernel
theorem dX4_readInto_90 : decode cX4_readInto 90 = .ok (.invokevirtual 50, 3) := by decide +kernel
theorem dX4_readInto_93 : decode cX4_readInto 93 = .ok (.ifCond .eq 28, 3) := by decide +kernel
theorem dX4_readInto_96 : decode cX4_readInto 96 = .ok (.aload_n 0, 1) := by decide +kernel
theorem dX4_readInto_97 : decode cX4_readInto 97 = .ok (.getfield 34, 3) := by decide +kernel
theorem dX4_readInto_100 : decode cX4_readInto 100 = .ok (.getfield 64, 3) := by decide +kernel
theorem dX4_readInto_103 : decode cX4_readInto 103 = .ok (.ifCond .le 18, 3) := by decide +kernel
theorem dX4_readInto_106 : decode cX4_readInto 106 = .ok (.aload_n 0, 1) := by decide +kernel
theorem dX4_readInto_107 : decode cX4_readInto 107 = .ok (.iconst 2, 1) := by decide +kernel
theorem dX4_readInto_108 : decode cX4_readInto 108 = .ok (.invokevirtual 67, 3) := by decide +kernel
theorem dX4_readInto_111 : decode cX4_readInto 111 = .ok (.aload_n 0, 1) := by decide +kernel
theorem dX4_readInto_112 : decode cX4_readInto 112 = .ok (.getfield 34, 3) := by decide +kernel
theorem dX4_readInto_115 : decode cX4_readInto 115 = .ok (.invokevirtual 71, 3) := by decide +kernel
theorem dX4_readInto_118 : decode cX4_readInto 118 = .ok (.goto 8, 3) := by decide +kernel
theorem dX4_readInto_121 : decode cX4_readInto 121 = .ok (.aload_n 0, 1) := by decide +kernel
theorem dX4_readInto_122 : decode cX4_readInto 122 = .ok (.iconst 2, 1) := by decide +kernel
theorem dX4_readInto_123 : decode cX4_readInto 123 = .ok (.invokevirtual 74, 3) := by decide +kernel
theorem dX4_readInto_126 : decode cX4_readInto 126 = .ok (.aload_n 0, 1) := by decide +kernel
theorem dX4_readInto_127 : decode cX4_readInto 127 = .ok (.getfield 24, 3) := by decide +kernel
theorem dX4_readInto_130 : decode cX4_readInto 130 = .ok (.ifCond .ne 7, 3) := by decide +kernel
theorem dX4_readInto_133 : decode cX4_readInto 133 = .ok (.aload_n 0, 1) := by decide +kernel
theorem dX4_readInto_134 : decode cX4_readInto 134 = .ok (.invokevirtual 43, 3) := by decide +kernel
theorem dX4_readInto_137 : decode cX4_readInto 137 = .ok (.iinc 2 1, 3) := by decide +kernel
theorem dX4_readInto_140 : decode cX4_readInto 140 = .ok (.goto (-107), 3) := by decide +kernel
theorem dX4_readInto_143 : decode cX4_readInto 143 = .ok (.aload_n 0, 1) := by decide +kernel
theorem dX4_readInto_144 : decode cX4_readInto 144 = .ok (.invokevirtual 77, 3) := by decide +kernel
theorem dX4_readInto_147 : decode cX4_readInto 147 = .ok (.return_, 1) := by decide +kernel
set_option maxRecDepth 100000 in
set_option maxHeartbeats 4000000 in
theorem M_X4_readInto (G : zG) (l : Launch) {p1 : Nat} (hp1 : zP p1 = true) {σ : zS} {σ' : zS} (hJ : J_X4_readInto p1 σ = some σ') : zMV G l yX4_readInto cX4_readInto 3 none (zrm 9 322) [.ref (G.1 + 63), .ref (G.1 + p1)] 137 (zen G σ) 137 (zen G σ') := by
  unfold J_X4_readInto at hJ
  refine zentV (by decide +kernel) (Nat.le_of_ble_eq_true rfl) ?_
  intro p e s m args below meth c C hret
  refine zr_sub [0, 1] [(0, .ref (G.1 + 63)), (1, .ref (G.1 + p1))] rfl ?_
  refine zr_aload_n C 0 dX4_readInto_0 rfl ?_
  refine zr_aload_n C 1 dX4_readInto_1 rfl ?_
  obtain ⟨σ1, hσ1, hJ⟩ := zlet_e hJ
  refine zp_4_1 C 63 zk_63 zm_5_0 hσ1 dX4_readInto_2 ?_
  refine zr_aload_n C 0 dX4_readInto_5 rfl ?_
  obtain ⟨p2, hp2, hJ⟩ := zlet_e hJ
  obtain ⟨hp3, hJ⟩ := zg_e hJ
  refine zg_4_1 C 63 zk_63 zm_5_0 dX4_readInto_6 ?_
  refine zr_topr hp2 ?_
  obtain ⟨σ5, hr4, hJ⟩ := zb_e hJ
  refine zr_callVV C p2 (zk_lt (zkP_0 hp3) (by decide)) (zen_obj (zkP_0 hp3)) (rfl : zcl[3]? = some (RX3, TX3, 19)) (M_X3_begin G l hp3 hr4) zin_X3_begin zm_10_14 rfl rfl (Nat.le_of_ble_eq_true rfl) ⟨Nat.le_of_ble_eq_true rfl, Nat.le_of_ble_eq_true rfl⟩ ⟨Nat.le_of_ble_eq_true rfl, Nat.le_of_ble_eq_true rfl⟩ dX4_readInto_9 ?_
  refine zr_aload_n C 0 dX4_readInto_12 rfl ?_
  refine zr_iconst C dX4_readInto_13 (v := (0 : Int32)) (by decide) ?_
  obtain ⟨σ6, hσ6, hJ⟩ := zlet_e hJ
  refine zp_4_2 C 63 zk_63 zm_4_17 hσ6 dX4_readInto_14 ?_
  refine zr_aload_n C 0 dX4_readInto_17 rfl ?_
  refine zr_iconst C dX4_readInto_18 (v := (0 : Int32)) (by decide) ?_
  obtain ⟨σ7, hσ7, hJ⟩ := zlet_e hJ
  refine zp_4_6 C 63 zk_63 zm_4_21 hσ7 dX4_readInto_19 ?_
  refine zr_aload_n C 0 dX4_readInto_22 rfl ?_
  refine zr_iconst C dX4_readInto_23 (v := (0 : Int32)) (by decide) ?_
  obtain ⟨σ8, hσ8, hJ⟩ := zlet_e hJ
  refine zp_4_7 C 63 zk_63 zm_4_22 hσ8 dX4_readInto_24 ?_
  refine zr_aload_n C 0 dX4_readInto_27 rfl ?_
  obtain ⟨σ10, hr9, hJ⟩ := zb_e hJ
  refine zr_callVV C 63 (zk_lt zk_63 (by decide)) (zen_obj zk_63) (rfl : zcl[4]? = some (RX4, TX4, 8)) (M_X4_takeToken G l hr9) zin_X4_takeToken zm_10_18 rfl rfl (Nat.le_of_ble_eq_true rfl) ⟨Nat.le_of_ble_eq_true rfl, Nat.le_of_ble_eq_true rfl⟩ ⟨Nat.le_of_ble_eq_true rfl, Nat.le_of_ble_eq_true rfl⟩ dX4_readInto_28 ?_
  refine zr_iconst C dX4_readInto_31 (v := (0 : Int32)) (by decide) ?_
  refine zr_istore_n C [(2, .int (0 : Int32)), (0, .ref (G.1 + 63)), (1, .ref (G.1 + p1))] dX4_readInto_32 (by decide) rfl ?_
  obtain ⟨k143, hk143, hJ⟩ := zlet_e hJ
  have hj143 : ∀ (σ_143 : zS), k143 σ_143 = some σ' → zU G 3 p l e (zrm 9 322) s m args below meth c (MQ below (va_Qv (fun (_ : Unit) => True) (fun _ t => zok G 137 (zen G σ') t) (zA G)) args s 0 0 (zA G)) σ_143 143 [(0, .ref (G.1 + 63))] [] := by
    intro σ_143 hJ
    rw [hk143] at hJ
    unfold D_X4_readInto_143 at hJ
    refine zr_aload_n C 0 dX4_readInto_143 rfl ?_
    obtain ⟨σ12, hr11, hJ⟩ := zb_e hJ
    refine zr_callVV C 63 (zk_lt zk_63 (by decide)) (zen_obj zk_63) (rfl : zcl[4]? = some (RX4, TX4, 8)) (M_X4_finish G l hr11) zin_X4_finish zm_16_0 rfl rfl (Nat.le_of_ble_eq_true rfl) ⟨Nat.le_of_ble_eq_true rfl, Nat.le_of_ble_eq_true rfl⟩ ⟨Nat.le_of_ble_eq_true rfl, Nat.le_of_ble_eq_true rfl⟩ dX4_readInto_144 ?_
    exact zr_vret C hret rfl (congrArg (zen G) (zs_e hJ)) dX4_readInto_147
  have hl33 : ∀ (n : Nat) (w2_33 : Int32) (σ_33 : zS), L_X4_readInto_33 k143 n w2_33 σ_33 = some σ' → zU G 3 p l e (zrm 9 322) s m args below meth c (MQ below (va_Qv (fun (_ : Unit) => True) (fun _ t => zok G 137 (zen G σ') t) (zA G)) args s 0 0 (zA G)) σ_33 33 [(0, .ref (G.1 + 63)), (2, .int w2_33)] [] := by
    intro n
    induction n with
    | zero =>
      intro w2_33 σ_33 hJ
      rw [L_X4_readInto_33] at hJ
      cases hJ
    | succ n ih =>
      intro w2_33 σ_33 hJ
      rw [L_X4_readInto_33] at hJ
      obtain ⟨r_33, hr_33, hJ⟩ := zlet_e hJ
      have ih33 : ∀ (w2_33 : Int32) (σ_33 : zS), r_33 w2_33 σ_33 = some σ' → zU G 3 p l e (zrm 9 322) s m args below meth c (MQ below (va_Qv (fun (_ : Unit) => True) (fun _ t => zok G 137 (zen G σ') t) (zA G)) args s 0 0 (zA G)) σ_33 33 [(0, .ref (G.1 + 63)), (2, .int w2_33)] [] := by
        rw [hr_33]
        exact ih
      refine zr_iload_n C 1 dX4_readInto_33 rfl ?_
      refine zr_sipush C dX4_readInto_34 (v := (320 : Int32)) (by decide) ?_
      refine zr_icmp_gt C 143 dX4_readInto_37 (by decide) (fun hc13 => ?_) (fun hc13 => ?_)
      · have hJ := zif hc13 hJ
        refine zr_sub [0] [(0, .ref (G.1 + 63))] rfl ?_
        exact hj143 _ hJ
      · have hJ := zif' hc13 hJ
        refine zr_aload_n C 0 dX4_readInto_40 rfl ?_
        refine zg_4_6 C 63 zk_63 zm_4_21 dX4_readInto_41 ?_
        refine zr_if_ne C 143 dX4_readInto_44 (by decide) (fun hc14 => ?_) (fun hc14 => ?_)
        · have hJ := zif' hc14 hJ
          refine zr_sub [0] [(0, .ref (G.1 + 63))] rfl ?_
          exact hj143 _ hJ
        · have hJ := zif hc14 hJ
          refine zr_aload_n C 0 dX4_readInto_47 rfl ?_
          refine zg_4_3 C 63 zk_63 zm_4_18 dX4_readInto_48 ?_
          refine zr_iconst C dX4_readInto_51 (v := (3 : Int32)) (by decide) ?_
          refine zr_icmp_eq C 143 dX4_readInto_52 (by decide) (fun hc15 => ?_) (fun hc15 => ?_)
          · have hJ := zif hc15 hJ
            refine zr_sub [0] [(0, .ref (G.1 + 63))] rfl ?_
            exact hj143 _ hJ
          · have hJ := zif' hc15 hJ
            refine zr_aload_n C 0 dX4_readInto_55 rfl ?_
            refine zr_ldcs0 C dX4_readInto_56 ?_
            obtain ⟨r16, hr16, hJ⟩ := zb_e hJ
            refine zr_callVI C 63 (zk_lt zk_63 (by decide)) (zen_obj zk_63) (rfl : zcl[4]? = some (RX4, TX4, 8)) (M_X4_isWord G l (by decide) hr16) zin_X4_isWord zm_11_18 rfl rfl (Nat.le_of_ble_eq_true rfl) ⟨Nat.le_of_ble_eq_true rfl, Nat.le_of_ble_eq_true rfl⟩ ⟨Nat.le_of_ble_eq_true rfl, Nat.le_of_ble_eq_true rfl⟩ dX4_readInto_58 ?_
            obtain ⟨k126, hk126, hJ⟩ := zlet_e hJ
            have hj126 : ∀ (σ_126 : zS), k126 σ_126 = some σ' → zU G 3 p l e (zrm 9 322) s m args below meth c (MQ below (va_Qv (fun (_ : Unit) => True) (fun _ t => zok G 137 (zen G σ') t) (zA G)) args s 0 0 (zA G)) σ_126 126 [(0, .ref (G.1 + 63)), (2, .int w2_33)] [] := by
              intro σ_126 hJ
              rw [hk126] at hJ
              unfold D_X4_readInto_126 at hJ
              refine zr_aload_n C 0 dX4_readInto_126 rfl ?_
              refine zg_4_6 C 63 zk_63 zm_4_21 dX4_readInto_127 ?_
              refine zr_if_ne C 137 dX4_readInto_130 (by decide) (fun hc17 => ?_) (fun hc17 => ?_)
              · have hJ := zif' hc17 hJ
                obtain ⟨v18, hv18, hJ⟩ := zlet_e hJ
                refine zr_iinc C v18 1 [(2, .int v18), (0, .ref (G.1 + 63))] dX4_readInto_137 rfl (hv18.trans (zinc (by decide))) (by decide) rfl ?_
                refine zr_goto C 33 dX4_readInto_140 (by decide) ?_
                refine zr_sub [1, 0] [(0, .ref (G.1 + 63)), (2, .int v18)] rfl ?_
                exact ih33 _ _ hJ
              · have hJ := zif hc17 hJ
                refine zr_aload_n C 0 dX4_readInto_133 rfl ?_
                obtain ⟨σ20, hr19, hJ⟩ := zb_e hJ
                refine zr_callVV C 63 (zk_lt zk_63 (by decide)) (zen_obj zk_63) (rfl : zcl[4]? = some (RX4, TX4, 8)) (M_X4_takeToken G l hr19) zin_X4_takeToken zm_10_18 rfl rfl (Nat.le_of_ble_eq_true rfl) ⟨Nat.le_of_ble_eq_true rfl, Nat.le_of_ble_eq_true rfl⟩ ⟨Nat.le_of_ble_eq_true rfl, Nat.le_of_ble_eq_true rfl⟩ dX4_readInto_134 ?_
                obtain ⟨v21, hv21, hJ⟩ := zlet_e hJ
                refine zr_iinc C v21 1 [(2, .int v21), (0, .ref (G.1 + 63))] dX4_readInto_137 rfl (hv21.trans (zinc (by decide))) (by decide) rfl ?_
                refine zr_goto C 33 dX4_readInto_140 (by decide) ?_
                refine zr_sub [1, 0] [(0, .ref (G.1 + 63)), (2, .int v21)] rfl ?_
                exact ih33 _ _ hJ
            refine zr_if_eq C 71 dX4_readInto_61 (by decide) (fun hc22 => ?_) (fun hc22 => ?_)
            · have hJ := zif hc22 hJ
              refine zr_aload_n C 0 dX4_readInto_71 rfl ?_
              refine zr_ldcs1 C dX4_readInto_72 ?_
              obtain ⟨r23, hr23, hJ⟩ := zb_e hJ
              refine zr_callVI C 63 (zk_lt zk_63 (by decide)) (zen_obj zk_63) (rfl : zcl[4]? = some (RX4, TX4, 8)) (M_X4_isWord G l (by decide) hr23) zin_X4_isWord zm_11_18 rfl rfl (Nat.le_of_ble_eq_true rfl) ⟨Nat.le_of_ble_eq_true rfl, Nat.le_of_ble_eq_true rfl⟩ ⟨Nat.le_of_ble_eq_true rfl, Nat.le_of_ble_eq_true rfl⟩ dX4_readInto_74 ?_
              refine zr_if_eq C 87 dX4_readInto_77 (by decide) (fun hc24 => ?_) (fun hc24 => ?_)
              · have hJ := zif hc24 hJ
                refine zr_aload_n C 0 dX4_readInto_87 rfl ?_
                refine zr_ldcs2 C dX4_readInto_88 ?_
                obtain ⟨r25, hr25, hJ⟩ := zb_e hJ
                refine zr_callVI C 63 (zk_lt zk_63 (by decide)) (zen_obj zk_63) (rfl : zcl[4]? = some (RX4, TX4, 8)) (M_X4_isWord G l (by decide) hr25) zin_X4_isWord zm_11_18 rfl rfl (Nat.le_of_ble_eq_true rfl) ⟨Nat.le_of_ble_eq_true rfl, Nat.le_of_ble_eq_true rfl⟩ ⟨Nat.le_of_ble_eq_true rfl, Nat.le_of_ble_eq_true rfl⟩ dX4_readInto_90 ?_
                obtain ⟨k121, hk121, hJ⟩ := zlet_e hJ
                have hj121 : k121 = some σ' → zU G 3 p l e (zrm 9 322) s m args below meth c (MQ below (va_Qv (fun (_ : Unit) => True) (fun _ t => zok G 137 (zen G σ') t) (zA G)) args s 0 0 (zA G)) σ_33 121 [(0, .ref (G.1 + 63)), (2, .int w2_33)] [] := by
                  intro hJ
                  rw [hk121] at hJ
                  unfold D_X4_readInto_121 at hJ
                  refine zr_aload_n C 0 dX4_readInto_121 rfl ?_
                  refine zr_iconst C dX4_readInto_122 (v := (2 : Int32)) (by decide) ?_
                  obtain ⟨σ27, hr26, hJ⟩ := zb_e hJ
                  refine zr_callVV C 63 (zk_lt zk_63 (by decide)) (zen_obj zk_63) (rfl : zcl[4]? = some (RX4, TX4, 8)) (M_X4_fail G l hr26) zin_X4_fail zm_11_14 rfl rfl (Nat.le_of_ble_eq_true rfl) ⟨Nat.le_of_ble_eq_true rfl, Nat.le_of_ble_eq_true rfl⟩ ⟨Nat.le_of_ble_eq_true rfl, Nat.le_of_ble_eq_true rfl⟩ dX4_readInto_123 ?_
                  exact hj126 _ hJ
                refine zr_if_eq C 121 dX4_readInto_93 (by decide) (fun hc28 => ?_) (fun hc28 => ?_)
                · have hJ := zif hc28 hJ
                  exact hj121 hJ
                · have hJ := zif' hc28 hJ
                  refine zr_aload_n C 0 dX4_readInto_96 rfl ?_
                  obtain ⟨p29, hp29, hJ⟩ := zlet_e hJ
                  obtain ⟨hp30, hJ⟩ := zg_e hJ
                  refine zg_4_1 C 63 zk_63 zm_5_0 dX4_readInto_97 ?_
                  refine zr_topr hp29 ?_
                  refine zg_3_13 C p29 (zkP_0 hp30) zm_10_13 dX4_readInto_100 ?_
                  refine zr_if_le C 121 dX4_readInto_103 (by decide) (fun hc31 => ?_) (fun hc31 => ?_)
                  · have hJ := zif hc31 hJ
                    exact hj121 hJ
                  · have hJ := zif' hc31 hJ
                    refine zr_aload_n C 0 dX4_readInto_106 rfl ?_
                    refine zr_iconst C dX4_readInto_107 (v := (2 : Int32)) (by decide) ?_
                    obtain ⟨σ33, hr32, hJ⟩ := zb_e hJ
                    refine zr_callVV C 63 (zk_lt zk_63 (by decide)) (zen_obj zk_63) (rfl : zcl[4]? = some (RX4, TX4, 8)) (M_X4_takeKind G l hr32) zin_X4_takeKind zm_15_12 rfl rfl (Nat.le_of_ble_eq_true rfl) ⟨Nat.le_of_ble_eq_true rfl, Nat.le_of_ble_eq_true rfl⟩ ⟨Nat.le_of_ble_eq_true rfl, Nat.le_of_ble_eq_true rfl⟩ dX4_readInto_108 ?_
                    refine zr_aload_n C 0 dX4_readInto_111 rfl ?_
                    obtain ⟨p34, hp34, hJ⟩ := zlet_e hJ
                    obtain ⟨hp35, hJ⟩ := zg_e hJ
                    refine zg_4_1 C 63 zk_63 zm_5_0 dX4_readInto_112 ?_
                    refine zr_topr hp34 ?_
                    obtain ⟨σ37, hr36, hJ⟩ := zb_e hJ
                    refine zr_callVV C p34 (zk_lt (zkP_0 hp35) (by decide)) (zen_obj (zkP_0 hp35)) (rfl : zcl[3]? = some (RX3, TX3, 19)) (M_X3_closeLoop G l hp35 hr36) zin_X3_closeLoop zm_15_16 rfl rfl (Nat.le_of_ble_eq_true rfl) ⟨Nat.le_of_ble_eq_true rfl, Nat.le_of_ble_eq_true rfl⟩ ⟨Nat.le_of_ble_eq_true rfl, Nat.le_of_ble_eq_true rfl⟩ dX4_readInto_115 ?_
                    refine zr_goto C 126 dX4_readInto_118 (by decide) ?_
                    exact hj126 _ hJ
              · have hJ := zif' hc24 hJ
                refine zr_aload_n C 0 dX4_readInto_80 rfl ?_
                obtain ⟨σ39, hr38, hJ⟩ := zb_e hJ
                refine zr_callVV C 63 (zk_lt zk_63 (by decide)) (zen_obj zk_63) (rfl : zcl[4]? = some (RX4, TX4, 8)) (M_X4_readLoop G l hr38) zin_X4_readLoop zm_15_4 rfl rfl (Nat.le_of_ble_eq_true rfl) ⟨Nat.le_of_ble_eq_true rfl, Nat.le_of_ble_eq_true rfl⟩ ⟨Nat.le_of_ble_eq_true rfl, Nat.le_of_ble_eq_true rfl⟩ dX4_readInto_81 ?_
                refine zr_goto C 126 dX4_readInto_84 (by decide) ?_
                exact hj126 _ hJ
            · have hJ := zif' hc22 hJ
              refine zr_aload_n C 0 dX4_readInto_64 rfl ?_
              obtain ⟨σ41, hr40, hJ⟩ := zb_e hJ
              refine zr_callVV C 63 (zk_lt zk_63 (by decide)) (zen_obj zk_63) (rfl : zcl[4]? = some (RX4, TX4, 8)) (M_X4_readLine G l hr40) zin_X4_readLine zm_13_23 rfl rfl (Nat.le_of_ble_eq_true rfl) ⟨Nat.le_of_ble_eq_true rfl, Nat.le_of_ble_eq_true rfl⟩ ⟨Nat.le_of_ble_eq_true rfl, Nat.le_of_ble_eq_true rfl⟩ dX4_readInto_65 ?_
              refine zr_goto C 126 dX4_readInto_68 (by decide) ?_
              exact hj126 _ hJ
  refine zr_sub [1, 0] [(0, .ref (G.1 + 63)), (2, .int (0 : Int32))] rfl ?_
  exact hl33 _ _ _ hJ
theorem dX10_program_0 : decode cX10_program 0 = .ok (.aload_n 0, 1) := by decide +kernel
theorem dX10_program_1 : decode cX10_program 1 = .ok (.getfield 31, 3) := by decide +kernel
theorem dX10_program_4 : decode cX10_program 4 = .ok (.aload_n 0, 1) := by decide +kernel
theorem dX10_program_5 : decode cX10_program 5 = .ok (.getfield 23, 3) := by decide +kernel
theorem dX10_program_8 : decode cX10_program 8 = .ok (.invokevirtual 99, 3) := by decide +kernel
theorem dX10_program_11 : decode cX10_program 11 = .ok (.aload_n 0, 1) := by decide +kernel
theorem dX10_program_12 : decode cX10_program 12 = .ok (.aload_n 0, 1) := by decide +kernel
theorem dX10_program_13 : decode cX10_program 13 = .ok (.getfield 31, 3) := by decide +kernel
theorem dX10_program_16 : decode cX10_program 16 = .ok (.getfield 103, 3) := by decide +kernel
theorem dX10_program_19 : decode cX10_program 19 = .ok (.putfield 84, 3) := by decide +kernel
theorem dX10_program_22 : decode cX10_program 22 = .ok (.aload_n 0, 1) := by decide +kernel
theorem dX10_program_23 : decode cX10_program 23 = .ok (.getfield 10, 3) := by decide +kernel
theorem dX10_program_26 : decode cX10_program 26 = .ok (.iconst 0, 1) := by decide +kernel
theorem dX10_program_27 : decode cX10_program 27 = .ok (.putfield 96, 3) := by decide +kernel
theorem dX10_program_30 : decode cX10_program 30 = .ok (.aload_n 0, 1) := by decide +kernel
theorem dX10_program_31 : decode cX10_program 31 = .ok (.getfield 84, 3) := by decide +kernel
theorem dX10_program_34 : decode cX10_program 34 = .ok (.ifCond .eq 14, 3) := by decide +kernel
theorem dX10_program_37 : decode cX10_program 37 = .ok (.bipush (-10), 2) := by decide +kernel
theorem dX10_program_39 : decode cX10_program 39 = .ok (.aload_n 0, 1) := by decide +kernel
theorem dX10_program_40 : decode cX10_program 40 = .ok (.getfield 31, 3) := by decide +kernel
theorem dX10_program_43 : decode cX10_program 43 = .ok (.getfield 106, 3) := by decide +kernel
theorem dX10_program_46 : decode cX10_program 46 = .ok (.isub, 1) := by decide +kernel
theorem dX10_program_47 : decode cX10_program 47 = .ok (.ireturn, 1) := by decide +kernel
theorem dX10_program_48 : decode cX10_program 48 = .ok (.aload_n 0, 1) := by decide +kernel
theorem dX10_program_49 : decode cX10_program 49 = .ok (.getfield 23, 3) := by decide +kernel
theorem dX10_program_52 : decode cX10_program 52 = .ok (.astore_n 1, 1) := by decide +kernel
theorem dX10_program_53 : decode cX10_program 53 = .ok (.aload_n 0, 1) := by decide +kernel
theorem dX10_program_54 : decode cX10_program 54 = .ok (.aload_n 0, 1) := by decide +kernel
theorem dX10_program_55 : decode cX10_program 55 = .ok (.getfield 19, 3) := by decide +kernel
theorem dX10_program_58 : decode cX10_program 58 = .ok (.putfield 23, 3) := by decide +kernel
theorem dX10_program_61 : decode cX10_program 61 = .ok (.aload_n 0, 1) := by decide +kernel
theorem dX10_program_62 : decode cX10_program 62 = .ok (.aload_n 1, 1) := by decide +kernel
theorem dX10_program_63 : decode cX10_program 63 = .ok (.putfield 19, 3) := by decide +kernel
theorem dX10_program_66 : decode cX10_program 66 = .ok (.aload_n 0, 1) := by decide +kernel
theorem dX10_program_67 : decode cX10_program 67 = .ok (.getfield 19, 3) := by decide +kernel
theorem dX10_program_70 : decode cX10_program 70 = .ok (.invokevirtual 109, 3) := by decide +kernel
theorem dX10_program_73 : decode cX10_program 73 = .ok (.aload_n 0, 1) := by decide +kernel
theorem dX10_program_74 : decode cX10_program 74 = .ok (.getfield 73, 3) := by decide +kernel
theorem dX10_program_77 : decode cX10_program 77 = .ok (.iconst 0, 1) := by decide +kernel
theorem dX10_program_78 : decode cX10_program 78 = .ok (.putfield 112, 3) := by decide +kernel
theorem dX10_program_81 : decode cX10_program 81 = .ok (.aload_n 0, 1) := by decide +kernel
theorem dX10_program_82 : decode cX10_program 82 = .ok (.getfield 19, 3) := by decide +kernel
theorem dX10_program_85 : decode cX10_program 85 = .ok (.getfield 113, 3) := by decide +kernel
theorem dX10_program_88 : decode cX10_program 88 = .ok (.ireturn, 1) := by decide +kernel
set_option maxRecDepth 100000 in
set_option maxHeartbeats 4000000 in
theorem M_X10_program (G : zG) (l : Launch) {σ : zS} {r : Int32} {σ' : zS} (hJ : J_X10_program σ = some (r, σ')) : zMI G l yX10_program cX10_program 2 (some .int) (zrm 10 344) [.ref (G.1 + 0)] 137 (zen G σ) r 137 (zen G σ') := by
  unfold J_X10_program at hJ
  refine zentI (by decide +kernel) (Nat.le_of_ble_eq_true rfl) ?_
  intro p e s m args below meth c C hret
  refine zr_sub [0] [(0, .ref (G.1 + 0))] rfl ?_
  refine zr_aload_n C 0 dX10_program_0 rfl ?_
  refine zg_10_3 C 0 zk_0 zm_2_1 dX10_program_1 ?_
  refine zr_aload_n C 0 dX10_program_4 rfl ?_
  obtain ⟨p1, hp1, hJ⟩ := zlet_e hJ
  obtain ⟨hp2, hJ⟩ := zg_e hJ
  refine zg_10_2 C 0 zk_0 zm_1_21 dX10_program_5 ?_
  refine zr_topr hp1 ?_
  obtain ⟨σ4, hr3, hJ⟩ := zb_e hJ
  refine zr_callVV C 63 (zk_lt zk_63 (by decide)) (zen_obj zk_63) (rfl : zcl[4]? = some (RX4, TX4, 8)) (M_X4_readInto G l hp2 hr3) zin_X4_readInto zm_10_9 rfl rfl (Nat.le_of_ble_eq_true rfl) ⟨Nat.le_of_ble_eq_true rfl, Nat.le_of_ble_eq_true rfl⟩ ⟨Nat.le_of_ble_eq_true rfl, Nat.le_of_ble_eq_true rfl⟩ dX10_program_8 ?_
  refine zr_aload_n C 0 dX10_program_11 rfl ?_
  refine zr_aload_n C 0 dX10_program_12 rfl ?_
  refine zg_10_3 C 0 zk_0 zm_2_1 dX10_program_13 ?_
  refine zg_4_6 C 63 zk_63 zm_10_5 dX10_program_16 ?_
  obtain ⟨σ5, hσ5, hJ⟩ := zlet_e hJ
  refine zp_10_11 C 0 zk_0 zm_3_6 hσ5 dX10_program_19 ?_
  refine zr_aload_n C 0 dX10_program_22 rfl ?_
  refine zg_10_0 C 0 zk_0 zm_1_16 dX10_program_23 ?_
  refine zr_iconst C dX10_program_26 (v := (0 : Int32)) (by decide) ?_
  obtain ⟨σ6, hσ6, hJ⟩ := zlet_e hJ
  refine zp_8_1 C 1 zk_1 zm_9_3 hσ6 dX10_program_27 ?_
  refine zr_aload_n C 0 dX10_program_30 rfl ?_
  refine zg_10_11 C 0 zk_0 zm_3_6 dX10_program_31 ?_
  refine zr_if_eq C 48 dX10_program_34 (by decide) (fun hc7 => ?_) (fun hc7 => ?_)
  · have hJ := zif hc7 hJ
    refine zr_aload_n C 0 dX10_program_48 rfl ?_
    obtain ⟨p8, hp8, hJ⟩ := zlet_e hJ
    obtain ⟨hp9, hJ⟩ := zg_e hJ
    refine zg_10_2 C 0 zk_0 zm_1_21 dX10_program_49 ?_
    refine zr_topr hp8 ?_
    refine zr_astore_n C [(1, .ref (G.1 + p8)), (0, .ref (G.1 + 0))] dX10_program_52 (by decide) rfl ?_
    refine zr_aload_n C 1 dX10_program_53 rfl ?_
    refine zr_aload_n C 1 dX10_program_54 rfl ?_
    obtain ⟨p10, hp10, hJ⟩ := zlet_e hJ
    obtain ⟨hp11, hJ⟩ := zg_e hJ
    refine zg_10_1 C 0 zk_0 zm_1_20 dX10_program_55 ?_
    refine zr_topr hp10 ?_
    obtain ⟨σ12, hσ12, hJ⟩ := zlet_e hJ
    refine zp_10_2 C 0 zk_0 zm_1_21 hσ12 dX10_program_58 ?_
    refine zr_aload_n C 1 dX10_program_61 rfl ?_
    refine zr_aload_n C 0 dX10_program_62 rfl ?_
    obtain ⟨σ13, hσ13, hJ⟩ := zlet_e hJ
    refine zp_10_1 C 0 zk_0 zm_1_20 hσ13 dX10_program_63 ?_
    refine zr_aload_n C 1 dX10_program_66 rfl ?_
    obtain ⟨p14, hp14, hJ⟩ := zlet_e hJ
    obtain ⟨hp15, hJ⟩ := zg_e hJ
    refine zg_10_1 C 0 zk_0 zm_1_20 dX10_program_67 ?_
    refine zr_topr hp14 ?_
    obtain ⟨σ17, hr16, hJ⟩ := zb_e hJ
    refine zr_callVV C p14 (zk_lt (zkP_0 hp15) (by decide)) (zen_obj (zkP_0 hp15)) (rfl : zcl[3]? = some (RX3, TX3, 19)) (M_X3_timeSteps G l hp15 hr16) zin_X3_timeSteps zm_16_5 rfl rfl (Nat.le_of_ble_eq_true rfl) ⟨Nat.le_of_ble_eq_true rfl, Nat.le_of_ble_eq_true rfl⟩ ⟨Nat.le_of_ble_eq_true rfl, Nat.le_of_ble_eq_true rfl⟩ dX10_program_70 ?_
    refine zr_aload_n C 1 dX10_program_73 rfl ?_
    refine zg_10_9 C 0 zk_0 zm_3_1 dX10_program_74 ?_
    refine zr_iconst C dX10_program_77 (v := (0 : Int32)) (by decide) ?_
    obtain ⟨σ18, hσ18, hJ⟩ := zlet_e hJ
    refine zp_5_0 C 92 zk_92 zm_10_7 hσ18 dX10_program_78 ?_
    refine zr_aload_n C 1 dX10_program_81 rfl ?_
    obtain ⟨p19, hp19, hJ⟩ := zlet_e hJ
    obtain ⟨hp20, hJ⟩ := zg_e hJ
    refine zg_10_1 C 0 zk_0 zm_1_20 dX10_program_82 ?_
    refine zr_topr hp19 ?_
    refine zg_3_0 C p19 (zkP_0 hp20) zm_10_8 dX10_program_85 ?_
    exact zr_iret C hret (Prod.mk.inj (zs_e hJ)).1 rfl (congrArg (zen G) (Prod.mk.inj (zs_e hJ)).2) dX10_program_88
  · have hJ := zif' hc7 hJ
    refine zr_bipush C dX10_program_37 (v := (-10 : Int32)) (by decide) ?_
    refine zr_aload_n C 0 dX10_program_39 rfl ?_
    refine zg_10_3 C 0 zk_0 zm_2_1 dX10_program_40 ?_
    refine zg_4_7 C 63 zk_63 zm_10_6 dX10_program_43 ?_
    refine zr_isub C dX10_program_46 ?_
    exact zr_iret C hret (Prod.mk.inj (zs_e hJ)).1 rfl (congrArg (zen G) (Prod.mk.inj (zs_e hJ)).2) dX10_program_47
theorem dX10_ratio_0 : decode cX10_ratio 0 = .ok (.iload_n 1, 1) := by decide +kernel
theorem dX10_ratio_1 : decode cX10_ratio 1 = .ok (.bipush (-4), 2) := by decide +kernel
theorem dX10_ratio_3 : decode cX10_ratio 3 = .ok (.if_icmp .eq 14, 3) := by decide +kernel
theorem dX10_ratio_6 : decode cX10_ratio 6 = .ok (.aload_n 0, 1) := by decide +kernel
theorem dX10_ratio_7 : decode cX10_ratio 7 = .ok (.getfield 19, 3) := by decide +kernel
theorem dX10_ratio_10 : decode cX10_ratio 10 = .ok (.iload_n 1, 1) := by decide +kernel
theorem dX10_ratio_11 : decode cX10_ratio 11 = .ok (.invokevirtual 116, 3) := by decide +kernel
theorem dX10_ratio_14 : decode cX10_ratio 14 = .ok (.ifCond .eq 25, 3) := by decide +kernel
theorem dX10_ratio_17 : decode cX10_ratio 17 = .ok (.iload_n 2, 1) := by decide +kernel
theorem dX10_ratio_18 : decode cX10_ratio 18 = .ok (.invokestatic 120, 3) := by decide +kernel
theorem dX10_ratio_21 : decode cX10_ratio 21 = .ok (.ifCond .eq 18, 3) := by decide +kernel
theorem dX10_ratio_24 : decode cX10_ratio 24 = .ok (.iload_n 3, 1) := by decide +kernel
theorem dX10_ratio_25 : decode cX10_ratio 25 = .ok (.invokestatic 120, 3) := by decide +kernel
theorem dX10_ratio_28 : decode cX10_ratio 28 = .ok (.ifCond .eq 11, 3) := by decide +kernel
theorem dX10_ratio_31 : decode cX10_ratio 31 = .ok (.iload 4, 2) := by decide +kernel
theorem dX10_ratio_33 : decode cX10_ratio 33 = .ok (.invokestatic 152, 3) := by decide +kernel
theorem dX10_ratio_36 : decode cX10_ratio 36 = .ok (.ifCond .ne 5, 3) := by decide +kernel
theorem dX10_ratio_39 : decode cX10_ratio 39 = .ok (.iconst (-1), 1) := by decide +kernel
theorem dX10_ratio_40 : decode cX10_ratio 40 = .ok (.ireturn, 1) := by decide +kernel
theorem dX10_ratio_41 : decode cX10_ratio 41 = .ok (.iload_n 1, 1) := by decide +kernel
theorem dX10_ratio_42 : decode cX10_ratio 42 = .ok (.bipush (-4), 2) := by decide +kernel
theorem dX10_ratio_44 : decode cX10_ratio 44 = .ok (.if_icmp .ne 14, 3) := by decide +kernel
theorem dX10_ratio_47 : decode cX10_ratio 47 = .ok (.aload_n 0, 1) := by decide +kernel
theorem dX10_ratio_48 : decode cX10_ratio 48 = .ok (.getfield 19, 3) := by decide +kernel
theorem dX10_ratio_51 : decode cX10_ratio 51 = .ok (.iload_n 2, 1) := by decide +kernel
theorem dX10_ratio_52 : decode cX10_ratio 52 = .ok (.invokevirtual 148, 3) := by decide +kernel
theorem dX10_ratio_55 : decode cX10_ratio 55 = .ok (.goto 14, 3) := by decide +kernel
theorem dX10_ratio_58 : decode cX10_ratio 58 = .ok (.aload_n 0, 1) := by decide +kernel
theorem dX10_ratio_59 : decode cX10_ratio 59 = .ok (.getfield 19, 3) := by decide +kernel
theorem dX10_ratio_62 : decode cX10_ratio 62 = .ok (.getfield 123, 3) := by decide +kernel
theorem dX10_ratio_65 : decode cX10_ratio 65 = .ok (.iload_n 1, 1) := by decide +kernel
theorem dX10_ratio_66 : decode cX10_ratio 66 = .ok (.aaload, 1) := by decide +kernel
theorem dX10_ratio_67 : decode cX10_ratio 67 = .ok (.iload_n 2, 1) := by decide +kernel
theorem dX10_ratio_68 : decode cX10_ratio 68 = .ok (.iaload, 1) := by decide +kernel
theorem dX10_ratio_69 : decode cX10_ratio 69 = .ok (.istore 5, 2) := by decide +kernel
theorem dX10_ratio_71 : decode cX10_ratio 71 = .ok (.iload_n 1, 1) := by decide +kernel
theorem dX10_ratio_72 : decode cX10_ratio 72 = .ok (.bipush (-4), 2) := by decide +kernel
theorem dX10_ratio_74 : decode cX10_ratio 74 = .ok (.if_icmp .ne 14, 3) := by decide +kernel
theorem dX10_ratio_77 : decode cX10_ratio 77 = .ok (.aload_n 0, 1) := by decide +kernel
theorem dX10_ratio_78 : decode cX10_ratio 78 = .ok (.getfield 19, 3) := by decide +kernel
theorem dX10_ratio_81 : decode cX10_ratio 81 = .ok (.iload_n 3, 1) := by decide +kernel
theorem dX10_ratio_82 : decode cX10_ratio 82 = .ok (.invokevirtual 148, 3) := by decide +kernel
theorem dX10_ratio_85 : decode cX10_ratio 85 = .ok (.goto 14, 3) := by decide +kernel
theorem dX10_ratio_88 : decode cX10_ratio 88 = .ok (.aload_n 0, 1) := by decide +kernel
theorem dX10_ratio_89 : decode cX10_ratio 89 = .ok (.getfield 19, 3) := by decide +kernel
theorem dX10_ratio_92 : decode cX10_ratio 92 = .ok (.getfield 123, 3) := by decide +kernel
theorem dX10_ratio_95 : decode cX10_ratio 95 = .ok (.iload_n 1, 1) := by decide +kernel
theorem dX10_ratio_96 : decode cX10_ratio 96 = .ok (.aaload, 1) := by decide +kernel
theorem dX10_ratio_97 : decode cX10_ratio 97 = .ok (.iload_n 3, 1) := by decide +kernel
theorem dX10_ratio_98 : decode cX10_ratio 98 = .ok (.iaload, 1) := by decide +kernel
theorem dX10_ratio_99 : decode cX10_ratio 99 = .ok (.istore 6, 2) := by decide +kernel
theorem dX10_ratio_101 : decode cX10_ratio 101 = .ok (.iload 6, 2) := by decide +kernel
theorem dX10_ratio_103 : decode cX10_ratio 103 = .ok (.iconst 1, 1) := by decide +kernel
theorem dX10_ratio_104 : decode cX10_ratio 104 = .ok (.if_icmp .ge 6, 3) := by decide +kernel
theorem dX10_ratio_107 : decode cX10_ratio 107 = .ok (.bipush (-4), 2) := by decide +kernel
theorem dX10_ratio_109 : decode cX10_ratio 109 = .ok (.ireturn, 1) := by decide +kernel
theorem dX10_ratio_110 : decode cX10_ratio 110 = .ok (.iload 5, 2) := by decide +kernel
theorem dX10_ratio_112 : decode cX10_ratio 112 = .ok (.i2l, 1) := by decide +kernel
theorem dX10_ratio_113 : decode cX10_ratio 113 = .ok (.iload 6, 2) := by decide +kernel
theorem dX10_ratio_115 : decode cX10_ratio 115 = .ok (.i2l, 1) := by decide +kernel
theorem dX10_ratio_116 : decode cX10_ratio 116 = .ok (.iload 4, 2) := by decide +kernel
theorem dX10_ratio_118 : decode cX10_ratio 118 = .ok (.ifCond .ne 7, 3) := by decide +kernel
theorem dX10_ratio_121 : decode cX10_ratio 121 = .ok (.iconst 1, 1) := by decide +kernel
theorem dX10_ratio_122 : decode cX10_ratio 122 = .ok (.goto 4, 3) := by decide +kernel
theorem dX10_ratio_125 : decode cX10_ratio 125 = .ok (.iconst 0, 1) := by decide +kernel
theorem dX10_ratio_126 : decode cX10_ratio 126 = .ok (.invokestatic 155, 3) := by decide +kernel
theorem dX10_ratio_129 : decode cX10_ratio 129 = .ok (.l2i, 1) := by decide +kernel
theorem dX10_ratio_130 : decode cX10_ratio 130 = .ok (.ireturn, 1) := by decide +kernel
set_option maxRecDepth 100000 in
set_option maxHeartbeats 4000000 in
theorem M_X10_ratio (G : zG) (l : Launch) {a1 : Int32} {a2 : Int32} {a3 : Int32} {a4 : Int32} {σ : zS} {r : Int32} (hJ : J_X10_ratio a1 a2 a3 a4 σ = some r) : zMI G l yX10_ratio cX10_ratio 7 (some .int) (zrm 2 56) [.ref (G.1 + 0), .int a1, .int a2, .int a3, .int a4] 137 (zen G σ) r 137 (zen G σ) := by
  unfold J_X10_ratio at hJ
  refine zentI (by decide +kernel) (Nat.le_of_ble_eq_true rfl) ?_
  intro p e s m args below meth c C hret
  refine zr_sub [0, 1, 2, 3, 4] [(0, .ref (G.1 + 0)), (1, .int a1), (2, .int a2), (3, .int a3), (4, .int a4)] rfl ?_
  refine zr_iload_n C 1 dX10_ratio_0 rfl ?_
  refine zr_bipush C dX10_ratio_1 (v := (-4 : Int32)) (by decide) ?_
  obtain ⟨k17, hk17, hJ⟩ := zlet_e hJ
  have hj17 : k17 = some r → zU G 7 p l e (zrm 2 56) s m args below meth c (MQ below (va_Qi (fun x (_ : Unit) => x = r) (fun _ t => zok G 137 (zen G σ) t) (zA G)) args s 0 0 (zA G)) σ 17 [(0, .ref (G.1 + 0)), (1, .int a1), (2, .int a2), (3, .int a3), (4, .int a4)] [] := by
    intro hJ
    rw [hk17] at hJ
    unfold D_X10_ratio_17 at hJ
    refine zr_iload_n C 2 dX10_ratio_17 rfl ?_
    obtain ⟨r1, hr1, hJ⟩ := zb_e hJ
    refine zr_callSI C (M_X10_isEvent G l hr1) zin_X10_isEvent zm_14_23 rfl rfl (Nat.le_of_ble_eq_true rfl) ⟨Nat.le_of_ble_eq_true rfl, Nat.le_of_ble_eq_true rfl⟩ ⟨Nat.le_of_ble_eq_true rfl, Nat.le_of_ble_eq_true rfl⟩ dX10_ratio_18 ?_
    refine zr_if_eq C 39 dX10_ratio_21 (by decide) (fun hc2 => ?_) (fun hc2 => ?_)
    · have hJ := zif hc2 hJ
      refine zr_iconst C dX10_ratio_39 (v := (-1 : Int32)) (by decide) ?_
      exact zr_iret C hret (zs_e hJ) rfl rfl dX10_ratio_40
    · have hJ := zif' hc2 hJ
      refine zr_iload_n C 3 dX10_ratio_24 rfl ?_
      obtain ⟨r3, hr3, hJ⟩ := zb_e hJ
      refine zr_callSI C (M_X10_isEvent G l hr3) zin_X10_isEvent zm_14_23 rfl rfl (Nat.le_of_ble_eq_true rfl) ⟨Nat.le_of_ble_eq_true rfl, Nat.le_of_ble_eq_true rfl⟩ ⟨Nat.le_of_ble_eq_true rfl, Nat.le_of_ble_eq_true rfl⟩ dX10_ratio_25 ?_
      refine zr_if_eq C 39 dX10_ratio_28 (by decide) (fun hc4 => ?_) (fun hc4 => ?_)
      · have hJ := zif hc4 hJ
        refine zr_iconst C dX10_ratio_39 (v := (-1 : Int32)) (by decide) ?_
        exact zr_iret C hret (zs_e hJ) rfl rfl dX10_ratio_40
      · have hJ := zif' hc4 hJ
        refine zr_iload C 4 dX10_ratio_31 rfl ?_
        obtain ⟨r5, hr5, hJ⟩ := zb_e hJ
        refine zr_callSI C (M_X10_isEither G l hr5) zin_X10_isEither zm_23_7 rfl rfl (Nat.le_of_ble_eq_true rfl) ⟨Nat.le_of_ble_eq_true rfl, Nat.le_of_ble_eq_true rfl⟩ ⟨Nat.le_of_ble_eq_true rfl, Nat.le_of_ble_eq_true rfl⟩ dX10_ratio_33 ?_
        refine zr_if_ne C 41 dX10_ratio_36 (by decide) (fun hc6 => ?_) (fun hc6 => ?_)
        · have hJ := zif' hc6 hJ
          refine zr_iload_n C 1 dX10_ratio_41 rfl ?_
          refine zr_bipush C dX10_ratio_42 (v := (-4 : Int32)) (by decide) ?_
          obtain ⟨k69, hk69, hJ⟩ := zlet_e hJ
          have hj69 : ∀ (x0_69 : Int32), k69 x0_69 = some r → zU G 7 p l e (zrm 2 56) s m args below meth c (MQ below (va_Qi (fun x (_ : Unit) => x = r) (fun _ t => zok G 137 (zen G σ) t) (zA G)) args s 0 0 (zA G)) σ 69 [(0, .ref (G.1 + 0)), (1, .int a1), (3, .int a3), (4, .int a4)] [.int x0_69] := by
            intro x0_69 hJ
            rw [hk69] at hJ
            unfold D_X10_ratio_69 at hJ
            refine zr_istore C [(5, .int x0_69), (0, .ref (G.1 + 0)), (1, .int a1), (3, .int a3), (4, .int a4)] dX10_ratio_69 (by decide) rfl ?_
            refine zr_iload_n C 2 dX10_ratio_71 rfl ?_
            refine zr_bipush C dX10_ratio_72 (v := (-4 : Int32)) (by decide) ?_
            obtain ⟨k99, hk99, hJ⟩ := zlet_e hJ
            have hj99 : ∀ (x0_99 : Int32), k99 x0_99 = some r → zU G 7 p l e (zrm 2 56) s m args below meth c (MQ below (va_Qi (fun x (_ : Unit) => x = r) (fun _ t => zok G 137 (zen G σ) t) (zA G)) args s 0 0 (zA G)) σ 99 [(4, .int a4), (5, .int x0_69)] [.int x0_99] := by
              intro x0_99 hJ
              rw [hk99] at hJ
              unfold D_X10_ratio_99 at hJ
              refine zr_istore C [(6, .int x0_99), (4, .int a4), (5, .int x0_69)] dX10_ratio_99 (by decide) rfl ?_
              refine zr_iload C 0 dX10_ratio_101 rfl ?_
              refine zr_iconst C dX10_ratio_103 (v := (1 : Int32)) (by decide) ?_
              refine zr_icmp_ge C 110 dX10_ratio_104 (by decide) (fun hc7 => ?_) (fun hc7 => ?_)
              · have hJ := zif hc7 hJ
                refine zr_iload C 2 dX10_ratio_110 rfl ?_
                refine zr_i2l C dX10_ratio_112 ?_
                refine zr_iload C 0 dX10_ratio_113 rfl ?_
                refine zr_i2l C dX10_ratio_115 ?_
                refine zr_iload C 1 dX10_ratio_116 rfl ?_
                obtain ⟨v8, hv8, hJ⟩ := zlet_e hJ
                obtain ⟨v9, hv9, hJ⟩ := zlet_e hJ
                obtain ⟨v10, hv10, hJ⟩ := zlet_e hJ
                have hf12 : zU G 7 p l e (zrm 2 56) s m args below meth c (MQ below (va_Qi (fun x (_ : Unit) => x = r) (fun _ t => zok G 137 (zen G σ) t) (zA G)) args s 0 0 (zA G)) σ 126 [] [.int v8, .long v9, .long v10] := by
                  obtain ⟨r11, hr11, hJ⟩ := zb_e hJ
                  refine zr_callSL C (M_X10_inLowestTerms G l hr11) zin_X10_inLowestTerms zm_23_10 rfl rfl (Nat.le_of_ble_eq_true rfl) ⟨Nat.le_of_ble_eq_true rfl, Nat.le_of_ble_eq_true rfl⟩ ⟨Nat.le_of_ble_eq_true rfl, Nat.le_of_ble_eq_true rfl⟩ dX10_ratio_126 ?_
                  refine zr_l2i C dX10_ratio_129 ?_
                  exact zr_iret C hret (zs_e hJ) rfl rfl dX10_ratio_130
                refine zr_if_ne C 125 dX10_ratio_118 (by decide) (fun hc13 => ?_) (fun hc13 => ?_)
                · have hv8 := hv8.trans (if_neg hc13)
                  refine zr_iconst C dX10_ratio_125 (v := (0 : Int32)) (by decide) ?_
                  refine zr_sub [] [] rfl ?_
                  rw [hv8, hv9, hv10] at hf12
                  exact hf12
                · have hv8 := hv8.trans (if_pos hc13)
                  refine zr_iconst C dX10_ratio_121 (v := (1 : Int32)) (by decide) ?_
                  refine zr_goto C 126 dX10_ratio_122 (by decide) ?_
                  refine zr_sub [] [] rfl ?_
                  rw [hv8, hv9, hv10] at hf12
                  exact hf12
              · have hJ := zif' hc7 hJ
                refine zr_bipush C dX10_ratio_107 (v := (-4 : Int32)) (by decide) ?_
                exact zr_iret C hret (zs_e hJ) rfl rfl dX10_ratio_109
            refine zr_icmp_ne C 88 dX10_ratio_74 (by decide) (fun hc14 => ?_) (fun hc14 => ?_)
            · have hJ := zif' hc14 hJ
              refine zr_aload_n C 1 dX10_ratio_88 rfl ?_
              obtain ⟨p15, hp15, hJ⟩ := zlet_e hJ
              obtain ⟨hp16, hJ⟩ := zg_e hJ
              refine zg_10_1 C 0 zk_0 zm_1_20 dX10_ratio_89 ?_
              refine zr_topr hp15 ?_
              refine zg_3_4 C p15 (zkP_0 hp16) zm_20_15 dX10_ratio_92 ?_
              refine zr_iload_n C 2 dX10_ratio_95 rfl ?_
              obtain ⟨hg17, hJ⟩ := zg_e hJ
              refine zu_aald C (p15 + 4) (zkP_4 hp16) hg17 dX10_ratio_96 ?_
              refine zr_iload_n C 3 dX10_ratio_97 rfl ?_
              obtain ⟨hg18, hJ⟩ := zg_e hJ
              refine zu_iald C ((p15 + 4) + 1 + a1.toNatClampNeg) (zk_rowP hp16 (zi_lt hg17)) hg18 dX10_ratio_98 ?_
              refine zr_sub [4, 0] [(4, .int a4), (5, .int x0_69)] rfl ?_
              exact hj99 _ hJ
            · have hJ := zif hc14 hJ
              refine zr_aload_n C 1 dX10_ratio_77 rfl ?_
              obtain ⟨p19, hp19, hJ⟩ := zlet_e hJ
              obtain ⟨hp20, hJ⟩ := zg_e hJ
              refine zg_10_1 C 0 zk_0 zm_1_20 dX10_ratio_78 ?_
              refine zr_topr hp19 ?_
              refine zr_iload_n C 3 dX10_ratio_81 rfl ?_
              obtain ⟨r21, hr21, hJ⟩ := zb_e hJ
              refine zr_callVI C p19 (zk_lt (zkP_0 hp20) (by decide)) (zen_obj (zkP_0 hp20)) (rfl : zcl[3]? = some (RX3, TX3, 19)) (M_X3_total G l hp20 hr21) zin_X3_total zm_22_11 rfl rfl (Nat.le_of_ble_eq_true rfl) ⟨Nat.le_of_ble_eq_true rfl, Nat.le_of_ble_eq_true rfl⟩ ⟨Nat.le_of_ble_eq_true rfl, Nat.le_of_ble_eq_true rfl⟩ dX10_ratio_82 ?_
              refine zr_goto C 99 dX10_ratio_85 (by decide) ?_
              refine zr_sub [4, 0] [(4, .int a4), (5, .int x0_69)] rfl ?_
              exact hj99 _ hJ
          refine zr_icmp_ne C 58 dX10_ratio_44 (by decide) (fun hc22 => ?_) (fun hc22 => ?_)
          · have hJ := zif' hc22 hJ
            refine zr_aload_n C 0 dX10_ratio_58 rfl ?_
            obtain ⟨p23, hp23, hJ⟩ := zlet_e hJ
            obtain ⟨hp24, hJ⟩ := zg_e hJ
            refine zg_10_1 C 0 zk_0 zm_1_20 dX10_ratio_59 ?_
            refine zr_topr hp23 ?_
            refine zg_3_4 C p23 (zkP_0 hp24) zm_20_15 dX10_ratio_62 ?_
            refine zr_iload_n C 1 dX10_ratio_65 rfl ?_
            obtain ⟨hg25, hJ⟩ := zg_e hJ
            refine zu_aald C (p23 + 4) (zkP_4 hp24) hg25 dX10_ratio_66 ?_
            refine zr_iload_n C 2 dX10_ratio_67 rfl ?_
            obtain ⟨hg26, hJ⟩ := zg_e hJ
            refine zu_iald C ((p23 + 4) + 1 + a1.toNatClampNeg) (zk_rowP hp24 (zi_lt hg25)) hg26 dX10_ratio_68 ?_
            refine zr_sub [0, 1, 3, 4] [(0, .ref (G.1 + 0)), (1, .int a1), (3, .int a3), (4, .int a4)] rfl ?_
            exact hj69 _ hJ
          · have hJ := zif hc22 hJ
            refine zr_aload_n C 0 dX10_ratio_47 rfl ?_
            obtain ⟨p27, hp27, hJ⟩ := zlet_e hJ
            obtain ⟨hp28, hJ⟩ := zg_e hJ
            refine zg_10_1 C 0 zk_0 zm_1_20 dX10_ratio_48 ?_
            refine zr_topr hp27 ?_
            refine zr_iload_n C 2 dX10_ratio_51 rfl ?_
            obtain ⟨r29, hr29, hJ⟩ := zb_e hJ
            refine zr_callVI C p27 (zk_lt (zkP_0 hp28) (by decide)) (zen_obj (zkP_0 hp28)) (rfl : zcl[3]? = some (RX3, TX3, 19)) (M_X3_total G l hp28 hr29) zin_X3_total zm_22_11 rfl rfl (Nat.le_of_ble_eq_true rfl) ⟨Nat.le_of_ble_eq_true rfl, Nat.le_of_ble_eq_true rfl⟩ ⟨Nat.le_of_ble_eq_true rfl, Nat.le_of_ble_eq_true rfl⟩ dX10_ratio_52 ?_
            refine zr_goto C 69 dX10_ratio_55 (by decide) ?_
            refine zr_sub [0, 1, 3, 4] [(0, .ref (G.1 + 0)), (1, .int a1), (3, .int a3), (4, .int a4)] rfl ?_
            exact hj69 _ hJ
        · have hJ := zif hc6 hJ
          refine zr_iconst C dX10_ratio_39 (v := (-1 : Int32)) (by decide) ?_
          exact zr_iret C hret (zs_e hJ) rfl rfl dX10_ratio_40
  refine zr_icmp_eq C 17 dX10_ratio_3 (by decide) (fun hc30 => ?_) (fun hc30 => ?_)
  · have hJ := zif hc30 hJ
    exact hj17 hJ
  · have hJ := zif' hc30 hJ
    refine zr_aload_n C 0 dX10_ratio_6 rfl ?_
    obtain ⟨p31, hp31, hJ⟩ := zlet_e hJ
    obtain ⟨hp32, hJ⟩ := zg_e hJ
    refine zg_10_1 C 0 zk_0 zm_1_20 dX10_ratio_7 ?_
    refine zr_topr hp31 ?_
    refine zr_iload_n C 1 dX10_ratio_10 rfl ?_
    obtain ⟨r33, hr33, hJ⟩ := zb_e hJ
    refine zr_callVI C p31 (zk_lt (zkP_0 hp32) (by decide)) (zen_obj (zkP_0 hp32)) (rfl : zcl[3]? = some (RX3, TX3, 19)) (M_X3_hasLine G l hp32 hr33) zin_X3_hasLine zm_20_19 rfl rfl (Nat.le_of_ble_eq_true rfl) ⟨Nat.le_of_ble_eq_true rfl, Nat.le_of_ble_eq_true rfl⟩ ⟨Nat.le_of_ble_eq_true rfl, Nat.le_of_ble_eq_true rfl⟩ dX10_ratio_11 ?_
    refine zr_if_eq C 39 dX10_ratio_14 (by decide) (fun hc34 => ?_) (fun hc34 => ?_)
    · have hJ := zif hc34 hJ
      refine zr_iconst C dX10_ratio_39 (v := (-1 : Int32)) (by decide) ?_
      exact zr_iret C hret (zs_e hJ) rfl rfl dX10_ratio_40
    · have hJ := zif' hc34 hJ
      exact hj17 hJ
theorem dX10_rounds_0 : decode cX10_rounds 0 = .ok (.iload_n 1, 1) := by decide +kernel
theorem dX10_rounds_1 : decode cX10_rounds 1 = .ok (.invokestatic 211, 3) := by decide +kernel
theorem dX10_rounds_4 : decode cX10_rounds 4 = .ok (.ifCond .eq 17, 3) := by decide +kernel
theorem dX10_rounds_7 : decode cX10_rounds 7 = .ok (.iload_n 2, 1) := by decide +kernel
theorem dX10_rounds_8 : decode cX10_rounds 8 = .ok (.ifCond .eq 15, 3) := by decide +kernel
theorem dX10_rounds_11 : decode cX10_rounds 11 = .ok (.iload_n 2, 1) := by decide +kernel
theorem dX10_rounds_12 : decode cX10_rounds 12 = .ok (.bipush 10, 2) := by decide +kernel
theorem dX10_rounds_14 : decode cX10_rounds 14 = .ok (.isub, 1) := by decide +kernel
theorem dX10_rounds_15 : decode cX10_rounds 15 = .ok (.invokestatic 120, 3) := by decide +kernel
theorem dX10_rounds_18 : decode cX10_rounds 18 = .ok (.ifCond .ne 5, 3) := by decide +kernel
theorem dX10_rounds_21 : decode cX10_rounds 21 = .ok (.iconst (-1), 1) := by decide +kernel
theorem dX10_rounds_22 : decode cX10_rounds 22 = .ok (.ireturn, 1) := by decide +kernel
theorem dX10_rounds_23 : decode cX10_rounds 23 = .ok (.aload_n 0, 1) := by decide +kernel
theorem dX10_rounds_24 : decode cX10_rounds 24 = .ok (.getfield 45, 3) := by decide +kernel
theorem dX10_rounds_27 : decode cX10_rounds 27 = .ok (.iload_n 1, 1) := by decide +kernel
theorem dX10_rounds_28 : decode cX10_rounds 28 = .ok (.invokevirtual 234, 3) := by decide +kernel
theorem dX10_rounds_31 : decode cX10_rounds 31 = .ok (.istore_n 3, 1) := by decide +kernel
theorem dX10_rounds_32 : decode cX10_rounds 32 = .ok (.iload_n 3, 1) := by decide +kernel
theorem dX10_rounds_33 : decode cX10_rounds 33 = .ok (.ifCond .ge 6, 3) := by decide +kernel
theorem dX10_rounds_36 : decode cX10_rounds 36 = .ok (.bipush (-4), 2) := by decide +kernel
theorem dX10_rounds_38 : decode cX10_rounds 38 = .ok (.ireturn, 1) := by decide +kernel
theorem dX10_rounds_39 : decode cX10_rounds 39 = .ok (.iload_n 2, 1) := by decide +kernel
theorem dX10_rounds_40 : decode cX10_rounds 40 = .ok (.ifCond .ne 5, 3) := by decide +kernel
theorem dX10_rounds_43 : decode cX10_rounds 43 = .ok (.iload_n 3, 1) := by decide +kernel
theorem dX10_rounds_44 : decode cX10_rounds 44 = .ok (.ireturn, 1) := by decide +kernel
theorem dX10_rounds_45 : decode cX10_rounds 45 = .ok (.iload_n 2, 1) := by decide +kernel
theorem dX10_rounds_46 : decode cX10_rounds 46 = .ok (.bipush 10, 2) := by decide +kernel
theorem dX10_rounds_48 : decode cX10_rounds 48 = .ok (.isub, 1) := by decide +kernel
theorem dX10_rounds_49 : decode cX10_rounds 49 = .ok (.iload_n 3, 1) := by decide +kernel
theorem dX10_rounds_50 : decode cX10_rounds 50 = .ok (.if_icmp .ge 18, 3) := by decide +kernel
theorem dX10_rounds_53 : decode cX10_rounds 53 = .ok (.aload_n 0, 1) := by decide +kernel
theorem dX10_rounds_54 : decode cX10_rounds 54 = .ok (.getfield 45, 3) := by decide +kernel
theorem dX10_rounds_57 : decode cX10_rounds 57 = .ok (.getfield 237, 3) := by decide +kernel
theorem dX10_rounds_60 : decode cX10_rounds 60 = .ok (.iload_n 2, 1) := by decide +kernel
theorem dX10_rounds_61 : decode cX10_rounds 61 = .ok (.bipush 10, 2) := by decide +kernel
theorem dX10_rounds_63 : decode cX10_rounds 63 = .ok (.isub, 1) := by decide +kernel
theorem dX10_rounds_64 : decode cX10_rounds 64 = .ok (.iaload, 1) := by decide +kernel
theorem dX10_rounds_65 : decode cX10_rounds 65 = .ok (.goto 4, 3) := by decide +kernel
theorem dX10_rounds_68 : decode cX10_rounds 68 = .ok (.iconst (-1), 1) := by decide +kernel
theorem dX10_rounds_69 : decode cX10_rounds 69 = .ok (.ireturn, 1) := by decide +kernel
set_option maxRecDepth 100000 in
set_option maxHeartbeats 4000000 in
theorem M_X10_rounds (G : zG) (l : Launch) {a1 : Int32} {a2 : Int32} {σ : zS} {r : Int32} {σ' : zS} (hJ : J_X10_rounds a1 a2 σ = some (r, σ')) : zMI G l yX10_rounds cX10_rounds 4 (some .int) (zrm 17 396) [.ref (G.1 + 0), .int a1, .int a2] 137 (zen G σ) r 137 (zen G σ') := by
  unfold J_X10_rounds at hJ
  refine zentI (by decide +kernel) (Nat.le_of_ble_eq_true rfl) ?_
  intro p e s m args below meth c C hret
  refine zr_sub [0, 1, 2] [(0, .ref (G.1 + 0)), (1, .int a1), (2, .int a2)] rfl ?_
  refine zr_iload_n C 1 dX10_rounds_0 rfl ?_
  obtain ⟨r1, hr1, hJ⟩ := zb_e hJ
  refine zr_callSI C (M_X10_isSet G l hr1) zin_X10_isSet zm_14_20 rfl rfl (Nat.le_of_ble_eq_true rfl) ⟨Nat.le_of_ble_eq_true rfl, Nat.le_of_ble_eq_true rfl⟩ ⟨Nat.le_of_ble_eq_true rfl, Nat.le_of_ble_eq_true rfl⟩ dX10_rounds_1 ?_
  refine zr_if_eq C 21 dX10_rounds_4 (by decide) (fun hc2 => ?_) (fun hc2 => ?_)
  · have hJ := zif hc2 hJ
    refine zr_iconst C dX10_rounds_21 (v := (-1 : Int32)) (by decide) ?_
    exact zr_iret C hret (Prod.mk.inj (zs_e hJ)).1 rfl (congrArg (zen G) (Prod.mk.inj (zs_e hJ)).2) dX10_rounds_22
  · have hJ := zif' hc2 hJ
    refine zr_iload_n C 2 dX10_rounds_7 rfl ?_
    obtain ⟨k23, hk23, hJ⟩ := zlet_e hJ
    have hj23 : k23 = some (r, σ') → zU G 4 p l e (zrm 17 396) s m args below meth c (MQ below (va_Qi (fun x (_ : Unit) => x = r) (fun _ t => zok G 137 (zen G σ') t) (zA G)) args s 0 0 (zA G)) σ 23 [(0, .ref (G.1 + 0)), (1, .int a1), (2, .int a2)] [] := by
      intro hJ
      rw [hk23] at hJ
      unfold D_X10_rounds_23 at hJ
      refine zr_aload_n C 0 dX10_rounds_23 rfl ?_
      refine zg_10_5 C 0 zk_0 zm_2_9 dX10_rounds_24 ?_
      refine zr_iload_n C 1 dX10_rounds_27 rfl ?_
      obtain ⟨r3, σ4, hr3, hJ⟩ := zb2_e hJ
      refine zr_callVI C 82 (zk_lt zk_82 (by decide)) (zen_obj zk_82) (rfl : zcl[0]? = some (RX0, TX0, 7)) (M_X0_divide G l hr3) zin_X0_divide zm_32_18 rfl rfl (Nat.le_of_ble_eq_true rfl) ⟨Nat.le_of_ble_eq_true rfl, Nat.le_of_ble_eq_true rfl⟩ ⟨Nat.le_of_ble_eq_true rfl, Nat.le_of_ble_eq_true rfl⟩ dX10_rounds_28 ?_
      refine zr_istore_n C [(3, .int r3), (0, .ref (G.1 + 0)), (1, .int a1), (2, .int a2)] dX10_rounds_31 (by decide) rfl ?_
      refine zr_iload_n C 0 dX10_rounds_32 rfl ?_
      refine zr_if_ge C 39 dX10_rounds_33 (by decide) (fun hc5 => ?_) (fun hc5 => ?_)
      · have hJ := zif hc5 hJ
        refine zr_iload_n C 3 dX10_rounds_39 rfl ?_
        refine zr_if_ne C 45 dX10_rounds_40 (by decide) (fun hc6 => ?_) (fun hc6 => ?_)
        · have hJ := zif' hc6 hJ
          refine zr_iload_n C 3 dX10_rounds_45 rfl ?_
          refine zr_bipush C dX10_rounds_46 (v := (10 : Int32)) (by decide) ?_
          refine zr_isub C dX10_rounds_48 ?_
          refine zr_iload_n C 0 dX10_rounds_49 rfl ?_
          refine zr_icmp_ge C 68 dX10_rounds_50 (by decide) (fun hc7 => ?_) (fun hc7 => ?_)
          · have hJ := zif hc7 hJ
            refine zr_iconst C dX10_rounds_68 (v := (-1 : Int32)) (by decide) ?_
            exact zr_iret C hret (Prod.mk.inj (zs_e hJ)).1 rfl (congrArg (zen G) (Prod.mk.inj (zs_e hJ)).2) dX10_rounds_69
          · have hJ := zif' hc7 hJ
            refine zr_aload_n C 1 dX10_rounds_53 rfl ?_
            refine zg_10_5 C 0 zk_0 zm_2_9 dX10_rounds_54 ?_
            refine zg_0_3 C 82 zk_82 zm_32_17 dX10_rounds_57 ?_
            refine zr_iload_n C 3 dX10_rounds_60 rfl ?_
            refine zr_bipush C dX10_rounds_61 (v := (10 : Int32)) (by decide) ?_
            refine zr_isub C dX10_rounds_63 ?_
            obtain ⟨hg8, hJ⟩ := zg_e hJ
            refine zu_iald C 85 zk_85 hg8 dX10_rounds_64 ?_
            refine zr_goto C 69 dX10_rounds_65 (by decide) ?_
            exact zr_iret C hret (Prod.mk.inj (zs_e hJ)).1 rfl (congrArg (zen G) (Prod.mk.inj (zs_e hJ)).2) dX10_rounds_69
        · have hJ := zif hc6 hJ
          refine zr_iload_n C 0 dX10_rounds_43 rfl ?_
          exact zr_iret C hret (Prod.mk.inj (zs_e hJ)).1 rfl (congrArg (zen G) (Prod.mk.inj (zs_e hJ)).2) dX10_rounds_44
      · have hJ := zif' hc5 hJ
        refine zr_bipush C dX10_rounds_36 (v := (-4 : Int32)) (by decide) ?_
        exact zr_iret C hret (Prod.mk.inj (zs_e hJ)).1 rfl (congrArg (zen G) (Prod.mk.inj (zs_e hJ)).2) dX10_rounds_38
    refine zr_if_eq C 23 dX10_rounds_8 (by decide) (fun hc9 => ?_) (fun hc9 => ?_)
    · have hJ := zif hc9 hJ
      exact hj23 hJ
    · have hJ := zif' hc9 hJ
      refine zr_iload_n C 2 dX10_rounds_11 rfl ?_
      refine zr_bipush C dX10_rounds_12 (v := (10 : Int32)) (by decide) ?_
      refine zr_isub C dX10_rounds_14 ?_
      obtain ⟨r10, hr10, hJ⟩ := zb_e hJ
      refine zr_callSI C (M_X10_isEvent G l hr10) zin_X10_isEvent zm_14_23 rfl rfl (Nat.le_of_ble_eq_true rfl) ⟨Nat.le_of_ble_eq_true rfl, Nat.le_of_ble_eq_true rfl⟩ ⟨Nat.le_of_ble_eq_true rfl, Nat.le_of_ble_eq_true rfl⟩ dX10_rounds_15 ?_
      refine zr_if_ne C 23 dX10_rounds_18 (by decide) (fun hc11 => ?_) (fun hc11 => ?_)
      · have hJ := zif' hc11 hJ
        exact hj23 hJ
      · have hJ := zif hc11 hJ
        refine zr_iconst C dX10_rounds_21 (v := (-1 : Int32)) (by decide) ?_
        exact zr_iret C hret (Prod.mk.inj (zs_e hJ)).1 rfl (congrArg (zen G) (Prod.mk.inj (zs_e hJ)).2) dX10_rounds_22
theorem dX5_add_0 : decode cX5_add 0 = .ok (.aload_n 0, 1) := by decide +kernel
theorem dX5_add_1 : decode cX5_add 1 = .ok (.getfield 9, 3) := by decide +kernel
theorem dX5_add_4 : decode cX5_add 4 = .ok (.bipush 12, 2) := by decide +kernel
theorem dX5_add_6 : decode cX5_add 6 = .ok (.if_icmp .lt 5, 3) := by decide +kernel
theorem dX5_add_9 : decode cX5_add 9 = .ok (.iconst 0, 1) := by decide +kernel
theorem dX5_add_10 : decode cX5_add 10 = .ok (.ireturn, 1) := by decide +kernel
theorem dX5_add_11 : decode cX5_add 11 = .ok (.aload_n 0, 1) := by decide +kernel
theorem dX5_add_12 : decode cX5_add 12 = .ok (.getfield 15, 3) := by decide +kernel
theorem dX5_add_15 : decode cX5_add 15 = .ok (.aload_n 0, 1) := by decide +kernel
theorem dX5_add_16 : decode cX5_add 16 = .ok (.getfield 9, 3) := by decide +kernel
theorem dX5_add_19 : decode cX5_add 19 = .ok (.iload_n 1, 1) := by decide +kernel
theorem dX5_add_20 : decode cX5_add 20 = .ok (.iastore, 1) := by decide +kernel
theorem dX5_add_21 : decode cX5_add 21 = .ok (.aload_n 0, 1) := by decide +kernel
theorem dX5_add_22 : decode cX5_add 22 = .ok (.getfield 19, 3) := by decide +kernel
theorem dX5_add_25 : decode cX5_add 25 = .ok (.aload_n 0, 1) := by decide +kernel
theorem dX5_add_26 : decode cX5_add 26 = .ok (.getfield 9, 3) := by decide +kernel
theorem dX5_add_29 : decode cX5_add 29 = .ok (.iload_n 2, 1) := by decide +kernel
theorem dX5_add_30 : decode cX5_add 30 = .ok (.iastore, 1) := by decide +kernel
theorem dX5_add_31 : decode cX5_add 31 = .ok (.aload_n 0, 1) := by decide +kernel
theorem dX5_add_32 : decode cX5_add 32 = .ok (.getfield 22, 3) := by decide +kernel
theorem dX5_add_35 : decode cX5_add 35 = .ok (.aload_n 0, 1) := by decide +kernel
theorem dX5_add_36 : decode cX5_add 36 = .ok (.getfield 9, 3) := by decide +kernel
theorem dX5_add_39 : decode cX5_add 39 = .ok (.iload_n 3, 1) := by decide +kernel
theorem dX5_add_40 : decode cX5_add 40 = .ok (.iastore, 1) := by decide +kernel
theorem dX5_add_41 : decode cX5_add 41 = .ok (.aload_n 0, 1) := by decide +kernel
theorem dX5_add_42 : decode cX5_add 42 = .ok (.dup, 1) := by decide +kernel
theorem dX5_add_43 : decode cX5_add 43 = .ok (.getfield 9, 3) := by decide +kernel
theorem dX5_add_46 : decode cX5_add 46 = .ok (.iconst 1, 1) := by decide +kernel
theorem dX5_add_47 : decode cX5_add 47 = .ok (.iadd, 1) := by decide +kernel
theorem dX5_add_48 : decode cX5_add 48 = .ok (.putfield 9, 3) := by decide +kernel
theorem dX5_add_51 : decode cX5_add 51 = .ok (.iconst 1, 1) := by decide +kernel
theorem dX5_add_52 : decode cX5_add 52 = .ok (.ireturn, 1) := by decide +kernel
set_option maxRecDepth 100000 in
set_option maxHeartbeats 4000000 in
theorem M_X5_add (G : zG) (l : Launch) {a1 : Int32} {a2 : Int32} {a3 : Int32} {σ : zS} {r : Int32} {σ' : zS} (hJ : J_X5_add a1 a2 a3 σ = some (r, σ')) : zMI G l yX5_add cX5_add 4 (some .boolean) (zrm 0 0) [.ref (G.1 + 92), .int a1, .int a2, .int a3] 137 (zen G σ) r 137 (zen G σ') := by
  unfold J_X5_add at hJ
  refine zentI (by decide +kernel) (Nat.le_of_ble_eq_true rfl) ?_
  intro p e s m args below meth c C hret
  refine zr_sub [0, 1, 2, 3] [(0, .ref (G.1 + 92)), (1, .int a1), (2, .int a2), (3, .int a3)] rfl ?_
  refine zr_aload_n C 0 dX5_add_0 rfl ?_
  refine zg_5_0 C 92 zk_92 zm_6_14 dX5_add_1 ?_
  refine zr_bipush C dX5_add_4 (v := (12 : Int32)) (by decide) ?_
  refine zr_icmp_lt C 11 dX5_add_6 (by decide) (fun hc1 => ?_) (fun hc1 => ?_)
  · have hJ := zif hc1 hJ
    refine zr_aload_n C 0 dX5_add_11 rfl ?_
    refine zg_5_1 C 92 zk_92 zm_6_15 dX5_add_12 ?_
    refine zr_aload_n C 0 dX5_add_15 rfl ?_
    refine zg_5_0 C 92 zk_92 zm_6_14 dX5_add_16 ?_
    refine zr_iload_n C 1 dX5_add_19 rfl ?_
    obtain ⟨hg2, hJ⟩ := zg_e hJ
    obtain ⟨σ3, hσ3, hJ⟩ := zlet_e hJ
    refine zv_iast C 93 zk_93 hg2 hσ3 dX5_add_20 ?_
    refine zr_aload_n C 0 dX5_add_21 rfl ?_
    refine zg_5_2 C 92 zk_92 zm_6_16 dX5_add_22 ?_
    refine zr_aload_n C 0 dX5_add_25 rfl ?_
    refine zg_5_0 C 92 zk_92 zm_6_14 dX5_add_26 ?_
    refine zr_iload_n C 2 dX5_add_29 rfl ?_
    obtain ⟨hg4, hJ⟩ := zg_e hJ
    obtain ⟨σ5, hσ5, hJ⟩ := zlet_e hJ
    refine zv_iast C 94 zk_94 hg4 hσ5 dX5_add_30 ?_
    refine zr_aload_n C 0 dX5_add_31 rfl ?_
    refine zg_5_3 C 92 zk_92 zm_6_17 dX5_add_32 ?_
    refine zr_aload_n C 0 dX5_add_35 rfl ?_
    refine zg_5_0 C 92 zk_92 zm_6_14 dX5_add_36 ?_
    refine zr_iload_n C 3 dX5_add_39 rfl ?_
    obtain ⟨hg6, hJ⟩ := zg_e hJ
    obtain ⟨σ7, hσ7, hJ⟩ := zlet_e hJ
    refine zv_iast C 95 zk_95 hg6 hσ7 dX5_add_40 ?_
    refine zr_aload_n C 0 dX5_add_41 rfl ?_
    refine zr_dup C dX5_add_42 rfl ?_
    refine zg_5_0 C 92 zk_92 zm_6_14 dX5_add_43 ?_
    refine zr_iconst C dX5_add_46 (v := (1 : Int32)) (by decide) ?_
    refine zr_iadd C dX5_add_47 ?_
    obtain ⟨σ8, hσ8, hJ⟩ := zlet_e hJ
    refine zp_5_0 C 92 zk_92 zm_6_14 hσ8 dX5_add_48 ?_
    refine zr_iconst C dX5_add_51 (v := (1 : Int32)) (by decide) ?_
    exact zr_zret C hret (Prod.mk.inj (zs_e hJ)).1 rfl rfl (congrArg (zen G) (Prod.mk.inj (zs_e hJ)).2) dX5_add_52
  · have hJ := zif' hc1 hJ
    refine zr_iconst C dX5_add_9 (v := (0 : Int32)) (by decide) ?_
    exact zr_zret C hret (Prod.mk.inj (zs_e hJ)).1 rfl rfl (congrArg (zen G) (Prod.mk.inj (zs_e hJ)).2) dX5_add_10
theorem dX10_run_0 : decode cX10_run 0 = .ok (.aload_n 0, 1) := by decide +kernel
theorem dX10_run_1 : decode cX10_run 1 = .ok (.getfield 45, 3) := by decide +kernel
theorem dX10_run_4 : decode cX10_run 4 = .ok (.iload_n 1, 1) := by decide +kernel
theorem dX10_run_5 : decode cX10_run 5 = .ok (.invokevirtual 208, 3) := by decide +kernel
theorem dX10_run_8 : decode cX10_run 8 = .ok (.ifCond .eq 20, 3) := by decide +kernel
theorem dX10_run_11 : decode cX10_run 11 = .ok (.iload_n 2, 1) := by decide +kernel
theorem dX10_run_12 : decode cX10_run 12 = .ok (.invokestatic 120, 3) := by decide +kernel
theorem dX10_run_15 : decode cX10_run 15 = .ok (.ifCond .eq 13, 3) := by decide +kernel
theorem dX10_run_18 : decode cX10_run 18 = .ok (.iload_n 3, 1) := by decide +kernel
theorem dX10_run_19 : decode cX10_run 19 = .ok (.ifCond .lt 9, 3) := by decide +kernel
theorem dX10_run_22 : decode cX10_run 22 = .ok (.iload_n 3, 1) := by decide +kernel
theorem dX10_run_23 : decode cX10_run 23 = .ok (.ldc 177, 2) := by decide +kernel
theorem dX10_run_25 : decode cX10_run 25 = .ok (.if_icmp .le 5, 3) := by decide +kernel
theorem dX10_run_28 : decode cX10_run 28 = .ok (.iconst (-1), 1) := by decide +kernel
theorem dX10_run_29 : decode cX10_run 29 = .ok (.ireturn, 1) := by decide +kernel
theorem dX10_run_30 : decode cX10_run 30 = .ok (.aload_n 0, 1) := by decide +kernel
theorem dX10_run_31 : decode cX10_run 31 = .ok (.getfield 73, 3) := by decide +kernel
theorem dX10_run_34 : decode cX10_run 34 = .ok (.iload_n 1, 1) := by decide +kernel
theorem dX10_run_35 : decode cX10_run 35 = .ok (.iload_n 2, 1) := by decide +kernel
theorem dX10_run_36 : decode cX10_run 36 = .ok (.iload_n 3, 1) := by decide +kernel
theorem dX10_run_37 : decode cX10_run 37 = .ok (.invokevirtual 331, 3) := by decide +kernel
theorem dX10_run_40 : decode cX10_run 40 = .ok (.ifCond .eq 13, 3) := by decide +kernel
theorem dX10_run_43 : decode cX10_run 43 = .ok (.aload_n 0, 1) := by decide +kernel
theorem dX10_run_44 : decode cX10_run 44 = .ok (.getfield 73, 3) := by decide +kernel
theorem dX10_run_47 : decode cX10_run 47 = .ok (.getfield 112, 3) := by decide +kernel
theorem dX10_run_50 : decode cX10_run 50 = .ok (.goto 5, 3) := by decide +kernel
theorem dX10_run_53 : decode cX10_run 53 = .ok (.bipush (-3), 2) := by decide +kernel
theorem dX10_run_55 : decode cX10_run 55 = .ok (.ireturn, 1) := by decide +kernel
set_option maxRecDepth 100000 in
set_option maxHeartbeats 4000000 in
theorem M_X10_run (G : zG) (l : Launch) {a1 : Int32} {a2 : Int32} {a3 : Int32} {σ : zS} {r : Int32} {σ' : zS} (hJ : J_X10_run a1 a2 a3 σ = some (r, σ')) : zMI G l yX10_run cX10_run 4 (some .int) (zrm 1 23) [.ref (G.1 + 0), .int a1, .int a2, .int a3] 137 (zen G σ) r 137 (zen G σ') := by
  unfold J_X10_run at hJ
  refine zentI (by decide +kernel) (Nat.le_of_ble_eq_true rfl) ?_
  intro p e s m args below meth c C hret
  refine zr_sub [0, 1, 2, 3] [(0, .ref (G.1 + 0)), (1, .int a1), (2, .int a2), (3, .int a3)] rfl ?_
  refine zr_aload_n C 0 dX10_run_0 rfl ?_
  refine zg_10_5 C 0 zk_0 zm_2_9 dX10_run_1 ?_
  refine zr_iload_n C 1 dX10_run_4 rfl ?_
  obtain ⟨r1, hr1, hJ⟩ := zb_e hJ
  refine zr_callVI C 82 (zk_lt zk_82 (by decide)) (zen_obj zk_82) (rfl : zcl[0]? = some (RX0, TX0, 7)) (M_X0_has G l hr1) zin_X0_has zm_29_19 rfl rfl (Nat.le_of_ble_eq_true rfl) ⟨Nat.le_of_ble_eq_true rfl, Nat.le_of_ble_eq_true rfl⟩ ⟨Nat.le_of_ble_eq_true rfl, Nat.le_of_ble_eq_true rfl⟩ dX10_run_5 ?_
  refine zr_if_eq C 28 dX10_run_8 (by decide) (fun hc2 => ?_) (fun hc2 => ?_)
  · have hJ := zif hc2 hJ
    refine zr_iconst C dX10_run_28 (v := (-1 : Int32)) (by decide) ?_
    exact zr_iret C hret (Prod.mk.inj (zs_e hJ)).1 rfl (congrArg (zen G) (Prod.mk.inj (zs_e hJ)).2) dX10_run_29
  · have hJ := zif' hc2 hJ
    refine zr_iload_n C 2 dX10_run_11 rfl ?_
    obtain ⟨r3, hr3, hJ⟩ := zb_e hJ
    refine zr_callSI C (M_X10_isEvent G l hr3) zin_X10_isEvent zm_14_23 rfl rfl (Nat.le_of_ble_eq_true rfl) ⟨Nat.le_of_ble_eq_true rfl, Nat.le_of_ble_eq_true rfl⟩ ⟨Nat.le_of_ble_eq_true rfl, Nat.le_of_ble_eq_true rfl⟩ dX10_run_12 ?_
    refine zr_if_eq C 28 dX10_run_15 (by decide) (fun hc4 => ?_) (fun hc4 => ?_)
    · have hJ := zif hc4 hJ
      refine zr_iconst C dX10_run_28 (v := (-1 : Int32)) (by decide) ?_
      exact zr_iret C hret (Prod.mk.inj (zs_e hJ)).1 rfl (congrArg (zen G) (Prod.mk.inj (zs_e hJ)).2) dX10_run_29
    · have hJ := zif' hc4 hJ
      refine zr_iload_n C 3 dX10_run_18 rfl ?_
      refine zr_if_lt C 28 dX10_run_19 (by decide) (fun hc5 => ?_) (fun hc5 => ?_)
      · have hJ := zif hc5 hJ
        refine zr_iconst C dX10_run_28 (v := (-1 : Int32)) (by decide) ?_
        exact zr_iret C hret (Prod.mk.inj (zs_e hJ)).1 rfl (congrArg (zen G) (Prod.mk.inj (zs_e hJ)).2) dX10_run_29
      · have hJ := zif' hc5 hJ
        refine zr_iload_n C 3 dX10_run_22 rfl ?_
        refine zr_ldc C dX10_run_23 zm_25_16 ?_
        refine zr_icmp_le C 30 dX10_run_25 (by decide) (fun hc6 => ?_) (fun hc6 => ?_)
        · have hJ := zif hc6 hJ
          refine zr_aload_n C 0 dX10_run_30 rfl ?_
          refine zg_10_9 C 0 zk_0 zm_3_1 dX10_run_31 ?_
          refine zr_iload_n C 1 dX10_run_34 rfl ?_
          refine zr_iload_n C 2 dX10_run_35 rfl ?_
          refine zr_iload_n C 3 dX10_run_36 rfl ?_
          obtain ⟨r7, σ8, hr7, hJ⟩ := zb2_e hJ
          refine zr_callVI C 92 (zk_lt zk_92 (by decide)) (zen_obj zk_92) (rfl : zcl[5]? = some (RX5, TX5, 6)) (M_X5_add G l hr7) zin_X5_add zm_44_0 rfl rfl (Nat.le_of_ble_eq_true rfl) ⟨Nat.le_of_ble_eq_true rfl, Nat.le_of_ble_eq_true rfl⟩ ⟨Nat.le_of_ble_eq_true rfl, Nat.le_of_ble_eq_true rfl⟩ dX10_run_37 ?_
          refine zr_if_eq C 53 dX10_run_40 (by decide) (fun hc9 => ?_) (fun hc9 => ?_)
          · have hJ := zif hc9 hJ
            refine zr_bipush C dX10_run_53 (v := (-3 : Int32)) (by decide) ?_
            exact zr_iret C hret (Prod.mk.inj (zs_e hJ)).1 rfl (congrArg (zen G) (Prod.mk.inj (zs_e hJ)).2) dX10_run_55
          · have hJ := zif' hc9 hJ
            refine zr_aload_n C 0 dX10_run_43 rfl ?_
            refine zg_10_9 C 0 zk_0 zm_3_1 dX10_run_44 ?_
            refine zg_5_0 C 92 zk_92 zm_10_7 dX10_run_47 ?_
            refine zr_goto C 55 dX10_run_50 (by decide) ?_
            exact zr_iret C hret (Prod.mk.inj (zs_e hJ)).1 rfl (congrArg (zen G) (Prod.mk.inj (zs_e hJ)).2) dX10_run_55
        · have hJ := zif' hc6 hJ
          refine zr_iconst C dX10_run_28 (v := (-1 : Int32)) (by decide) ?_
          exact zr_iret C hret (Prod.mk.inj (zs_e hJ)).1 rfl (congrArg (zen G) (Prod.mk.inj (zs_e hJ)).2) dX10_run_29
theorem dX7_compare_0 : decode cX7_compare 0 = .ok (.iconst 0, 1) := by decide +kernel
theorem dX7_compare_1 : decode cX7_compare 1 = .ok (.istore 6, 2) := by decide +kernel
theorem dX7_compare_3 : decode cX7_compare 3 = .ok (.bipush (-4), 2) := by decide +kernel
theorem dX7_compare_5 : decode cX7_compare 5 = .ok (.istore 7, 2) := by decide +kernel
theorem dX7_compare_7 : decode cX7_compare 7 = .ok (.iconst 0, 1) := by decide +kernel
theorem dX7_compare_8 : decode cX7_compare 8 = .ok (.istore 8, 2) := by decide +kernel
theorem dX7_compare_10 : decode cX7_compare 10 = .ok (.iconst 0, 1) := by decide +kernel
theorem dX7_compare_11 : decode cX7_compare 11 = .ok (.istore 9, 2) := by decide +kernel
theorem dX7_compare_13 : decode cX7_compare 13 = .ok (.iconst 0, 1) := by decide +kernel
theorem dX7_compare_14 : decode cX7_compare 14 = .ok (.istore 10, 2) := by decide +kernel
theorem dX7_compare_16 : decode cX7_compare 16 = .ok (.iload 10, 2) := by decide +kernel
theorem dX7_compare_18 : decode cX7_compare 18 = .ok (.aload_n 3, 1) := by decide +kernel
theorem dX7_compare_19 : decode cX7_compare 19 = .ok (.getfield 28, 3) := by decide +kernel
theorem dX7_compare_22 : decode cX7_compare 22 = .ok (.if_icmp .ge 76, 3) := by decide +kernel
theorem dX7_compare_25 : decode cX7_compare 25 = .ok (.aload_n 0, 1) := by decide +kernel
theorem dX7_compare_26 : decode cX7_compare 26 = .ok (.getfield 20, 3) := by decide +kernel
theorem dX7_compare_29 : decode cX7_compare 29 = .ok (.iload_n 1, 1) := by decide +kernel
theorem dX7_compare_30 : decode cX7_compare 30 = .ok (.aaload, 1) := by decide +kernel
theorem dX7_compare_31 : decode cX7_compare 31 = .ok (.iload_n 2, 1) := by decide +kernel
theorem dX7_compare_32 : decode cX7_compare 32 = .ok (.iload 10, 2) := by decide +kernel
theorem dX7_compare_34 : decode cX7_compare 34 = .ok (.iadd, 1) := by decide +kernel
theorem dX7_compare_35 : decode cX7_compare 35 = .ok (.iaload, 1) := by decide +kernel
theorem dX7_compare_36 : decode cX7_compare 36 = .ok (.aload_n 3, 1) := by decide +kernel
theorem dX7_compare_37 : decode cX7_compare 37 = .ok (.iload 10, 2) := by decide +kernel
theorem dX7_compare_39 : decode cX7_compare 39 = .ok (.iload 4, 2) := by decide +kernel
theorem dX7_compare_41 : decode cX7_compare 41 = .ok (.invokevirtual 34, 3) := by decide +kernel
theorem dX7_compare_44 : decode cX7_compare 44 = .ok (.isub, 1) := by decide +kernel
theorem dX7_compare_45 : decode cX7_compare 45 = .ok (.istore 11, 2) := by decide +kernel
theorem dX7_compare_47 : decode cX7_compare 47 = .ok (.iload 11, 2) := by decide +kernel
theorem dX7_compare_49 : decode cX7_compare 49 = .ok (.ifCond .ne 9, 3) := by decide +kernel
theorem dX7_compare_52 : decode cX7_compare 52 = .ok (.iinc 6 1, 3) := by decide +kernel
theorem dX7_compare_55 : decode cX7_compare 55 = .ok (.goto 14, 3) := by decide +kernel
theorem dX7_compare_58 : decode cX7_compare 58 = .ok (.iload 7, 2) := by decide +kernel
theorem dX7_compare_60 : decode cX7_compare 60 = .ok (.bipush (-4), 2) := by decide +kernel
theorem dX7_compare_62 : decode cX7_compare 62 = .ok (.if_icmp .ne 7, 3) := by decide +kernel
theorem dX7_compare_65 : decode cX7_compare 65 = .ok (.iload 10, 2) := by decide +kernel
theorem dX7_compare_67 : decode cX7_compare 67 = .ok (.istore 7, 2) := by decide +kernel
theorem dX7_compare_69 : decode cX7_compare 69 = .ok (.iload 8, 2) := by decide +kernel
theorem dX7_compare_71 : decode cX7_compare 71 = .ok (.iload 11, 2) := by decide +kernel
theorem dX7_compare_73 : decode cX7_compare 73 = .ok (.iconst 0, 1) := by decide +kernel
theorem dX7_compare_74 : decode cX7_compare 74 = .ok (.invokestatic 37, 3) := by decide +kernel
theorem dX7_compare_77 : decode cX7_compare 77 = .ok (.iadd, 1) := by decide +kernel
theorem dX7_compare_78 : decode cX7_compare 78 = .ok (.istore 8, 2) := by decide +kernel
theorem dX7_compare_80 : decode cX7_compare 80 = .ok (.iload 9, 2) := by decide +kernel
theorem dX7_compare_82 : decode cX7_compare 82 = .ok (.iload 11, 2) := by decide +kernel
theorem dX7_compare_84 : decode cX7_compare 84 = .ok (.ineg, 1) := by decide +kernel
theorem dX7_compare_85 : decode cX7_compare 85 = .ok (.iconst 0, 1) := by decide +kernel
theorem dX7_compare_86 : decode cX7_compare 86 = .ok (.invokestatic 37, 3) := by decide +kernel
theorem dX7_compare_89 : decode cX7_compare 89 = .ok (.iadd, 1) := by decide +kernel
theorem dX7_compare_90 : decode cX7_compare 90 = .ok (.istore 9, 2) := by decide +kernel
theorem dX7_compare_92 : decode cX7_compare 92 = .ok (.iinc 10 1, 3) := by decide +kernel
theorem dX7_compare_95 : decode cX7_compare 95 = .ok (.goto (-79), 3) := by decide +kernel
theorem dX7_compare_98 : decode cX7_compare 98 = .ok (.iload 5, 2) := by decide +kernel
theorem dX7_compare_100 : decode cX7_compare 100 = .ok (.tableswitch 37 0 2 #[28, 31, 34], 28) := by decide +kernel
theorem dX7_compare_128 : decode cX7_compare 128 = .ok (.iload 6, 2) := by decide +kernel
theorem dX7_compare_130 : decode cX7_compare 130 = .ok (.ireturn, 1) := by decide +kernel
theorem dX7_compare_131 : decode cX7_compare 131 = .ok (.iload 7, 2) := by decide +kernel
theorem dX7_compare_133 : decode cX7_compare 133 = .ok (.ireturn, 1) := by decide +kernel
theorem dX7_compare_134 : decode cX7_compare 134 = .ok (.iload 8, 2) := by decide +kernel
theorem dX7_compare_136 : decode cX7_compare 136 = .ok (.ireturn, 1) := by decide +kernel
theorem dX7_compare_137 : decode cX7_compare 137 = .ok (.iload 9, 2) := by decide +kernel
theorem dX7_compare_139 : decode cX7_compare 139 = .ok (.ireturn, 1) := by decide +kernel
set_option maxRecDepth 100000 in
set_option maxHeartbeats 4000000 in
theorem M_X7_compare (G : zG) (l : Launch) {a1 : Int32} {a2 : Int32} {p3 : Nat} (hp3 : zP p3 = true) {a4 : Int32} {a5 : Int32} {σ : zS} {r : Int32} (hJ : J_X7_compare a1 a2 p3 a4 a5 σ = some r) : zMI G l yX7_compare cX7_compare 12 (some .int) (zrm 1 22) [.ref (G.1 + 97), .int a1, .int a2, .ref (G.1 + p3), .int a4, .int a5] 137 (zen G σ) r 137 (zen G σ) := by
  unfold J_X7_compare at hJ
  refine zentI (by decide +kernel) (Nat.le_of_ble_eq_true rfl) ?_
  intro p e s m args below meth c C hret
  refine zr_sub [0, 1, 2, 3, 4, 5] [(0, .ref (G.1 + 97)), (1, .int a1), (2, .int a2), (3, .ref (G.1 + p3)), (4, .int a4), (5, .int a5)] rfl ?_
  refine zr_iconst C dX7_compare_0 (v := (0 : Int32)) (by decide) ?_
  refine zr_istore C [(6, .int (0 : Int32)), (0, .ref (G.1 + 97)), (1, .int a1), (2, .int a2), (3, .ref (G.1 + p3)), (4, .int a4), (5, .int a5)] dX7_compare_1 (by decide) rfl ?_
  refine zr_bipush C dX7_compare_3 (v := (-4 : Int32)) (by decide) ?_
  refine zr_istore C [(7, .int (-4 : Int32)), (6, .int (0 : Int32)), (0, .ref (G.1 + 97)), (1, .int a1), (2, .int a2), (3, .ref (G.1 + p3)), (4, .int a4), (5, .int a5)] dX7_compare_5 (by decide) rfl ?_
  refine zr_iconst C dX7_compare_7 (v := (0 : Int32)) (by decide) ?_
  refine zr_istore C [(8, .int (0 : Int32)), (7, .int (-4 : Int32)), (6, .int (0 : Int32)), (0, .ref (G.1 + 97)), (1, .int a1), (2, .int a2), (3, .ref (G.1 + p3)), (4, .int a4), (5, .int a5)] dX7_compare_8 (by decide) rfl ?_
  refine zr_iconst C dX7_compare_10 (v := (0 : Int32)) (by decide) ?_
  refine zr_istore C [(9, .int (0 : Int32)), (8, .int (0 : Int32)), (7, .int (-4 : Int32)), (6, .int (0 : Int32)), (0, .ref (G.1 + 97)), (1, .int a1), (2, .int a2), (3, .ref (G.1 + p3)), (4, .int a4), (5, .int a5)] dX7_compare_11 (by decide) rfl ?_
  refine zr_iconst C dX7_compare_13 (v := (0 : Int32)) (by decide) ?_
  refine zr_istore C [(10, .int (0 : Int32)), (9, .int (0 : Int32)), (8, .int (0 : Int32)), (7, .int (-4 : Int32)), (6, .int (0 : Int32)), (0, .ref (G.1 + 97)), (1, .int a1), (2, .int a2), (3, .ref (G.1 + p3)), (4, .int a4), (5, .int a5)] dX7_compare_14 (by decide) rfl ?_
  obtain ⟨k98, hk98, hJ⟩ := zlet_e hJ
  have hj98 : ∀ (w6_98 : Int32) (w7_98 : Int32) (w8_98 : Int32) (w9_98 : Int32), k98 w6_98 w7_98 w8_98 w9_98 = some r → zU G 12 p l e (zrm 1 22) s m args below meth c (MQ below (va_Qi (fun x (_ : Unit) => x = r) (fun _ t => zok G 137 (zen G σ) t) (zA G)) args s 0 0 (zA G)) σ 98 [(5, .int a5), (6, .int w6_98), (7, .int w7_98), (8, .int w8_98), (9, .int w9_98)] [] := by
    intro w6_98 w7_98 w8_98 w9_98 hJ
    rw [hk98] at hJ
    unfold D_X7_compare_98 at hJ
    refine zr_iload C 0 dX7_compare_98 rfl ?_
    by_cases hs1 : a5 = (0 : Int32)
    · have hJ := zif hs1 hJ
      refine zr_tin C 128 dX7_compare_100 (by rw [hs1]; decide) (by rw [hs1]; decide) (by rw [hs1]; rfl) (by decide) ?_
      refine zr_iload C 1 dX7_compare_128 rfl ?_
      exact zr_iret C hret (zs_e hJ) rfl rfl dX7_compare_130
    have hJ := zif' hs1 hJ
    by_cases hs2 : a5 = (1 : Int32)
    · have hJ := zif hs2 hJ
      refine zr_tin C 131 dX7_compare_100 (by rw [hs2]; decide) (by rw [hs2]; decide) (by rw [hs2]; rfl) (by decide) ?_
      refine zr_iload C 2 dX7_compare_131 rfl ?_
      exact zr_iret C hret (zs_e hJ) rfl rfl dX7_compare_133
    have hJ := zif' hs2 hJ
    by_cases hs3 : a5 = (2 : Int32)
    · have hJ := zif hs3 hJ
      refine zr_tin C 134 dX7_compare_100 (by rw [hs3]; decide) (by rw [hs3]; decide) (by rw [hs3]; rfl) (by decide) ?_
      refine zr_iload C 3 dX7_compare_134 rfl ?_
      exact zr_iret C hret (zs_e hJ) rfl rfl dX7_compare_136
    have hJ := zif' hs3 hJ
    refine zr_tout C 137 dX7_compare_100 (by have ghs1 := lv_neT hs1 (show ((0 : Int32)).toInt = 0 by decide); have ghs2 := lv_neT hs2 (show ((1 : Int32)).toInt = 1 by decide); have ghs3 := lv_neT hs3 (show ((2 : Int32)).toInt = 2 by decide); omega) (by decide) ?_
    refine zr_iload C 4 dX7_compare_137 rfl ?_
    exact zr_iret C hret (zs_e hJ) rfl rfl dX7_compare_139
  have hl16 : ∀ (n : Nat) (w6_16 : Int32) (w7_16 : Int32) (w8_16 : Int32) (w9_16 : Int32) (w10_16 : Int32), L_X7_compare_16 a1 a2 p3 a4 σ k98 n w6_16 w7_16 w8_16 w9_16 w10_16 = some r → zU G 12 p l e (zrm 1 22) s m args below meth c (MQ below (va_Qi (fun x (_ : Unit) => x = r) (fun _ t => zok G 137 (zen G σ) t) (zA G)) args s 0 0 (zA G)) σ 16 [(0, .ref (G.1 + 97)), (1, .int a1), (2, .int a2), (3, .ref (G.1 + p3)), (4, .int a4), (5, .int a5), (6, .int w6_16), (7, .int w7_16), (8, .int w8_16), (9, .int w9_16), (10, .int w10_16)] [] := by
    intro n
    induction n with
    | zero =>
      intro w6_16 w7_16 w8_16 w9_16 w10_16 hJ
      rw [L_X7_compare_16] at hJ
      cases hJ
    | succ n ih =>
      intro w6_16 w7_16 w8_16 w9_16 w10_16 hJ
      rw [L_X7_compare_16] at hJ
      obtain ⟨r_16, hr_16, hJ⟩ := zlet_e hJ
      have ih16 : ∀ (w6_16 : Int32) (w7_16 : Int32) (w8_16 : Int32) (w9_16 : Int32) (w10_16 : Int32), r_16 w6_16 w7_16 w8_16 w9_16 w10_16 = some r → zU G 12 p l e (zrm 1 22) s m args below meth c (MQ below (va_Qi (fun x (_ : Unit) => x = r) (fun _ t => zok G 137 (zen G σ) t) (zA G)) args s 0 0 (zA G)) σ 16 [(0, .ref (G.1 + 97)), (1, .int a1), (2, .int a2), (3, .ref (G.1 + p3)), (4, .int a4), (5, .int a5), (6, .int w6_16), (7, .int w7_16), (8, .int w8_16), (9, .int w9_16), (10, .int w10_16)] [] := by
        rw [hr_16]
        exact ih
      refine zr_iload C 10 dX7_compare_16 rfl ?_
      refine zr_aload_n C 3 dX7_compare_18 rfl ?_
      refine zg_3_0 C p3 (zkP_0 hp3) zm_48_14 dX7_compare_19 ?_
      refine zr_icmp_ge C 98 dX7_compare_22 (by decide) (fun hc4 => ?_) (fun hc4 => ?_)
      · have hJ := zif hc4 hJ
        refine zr_sub [5, 6, 7, 8, 9] [(5, .int a5), (6, .int w6_16), (7, .int w7_16), (8, .int w8_16), (9, .int w9_16)] rfl ?_
        exact hj98 _ _ _ _ hJ
      · have hJ := zif' hc4 hJ
        refine zr_aload_n C 0 dX7_compare_25 rfl ?_
        refine zg_7_2 C 97 zk_97 zm_7_2 dX7_compare_26 ?_
        refine zr_iload_n C 1 dX7_compare_29 rfl ?_
        obtain ⟨hg5, hJ⟩ := zg_e hJ
        refine zu_aald C 100 zk_100 hg5 dX7_compare_30 ?_
        refine zr_iload_n C 2 dX7_compare_31 rfl ?_
        refine zr_iload C 10 dX7_compare_32 rfl ?_
        refine zr_iadd C dX7_compare_34 ?_
        obtain ⟨hg6, hJ⟩ := zg_e hJ
        refine zu_iald C (100 + 1 + a1.toNatClampNeg) (zk_rowS (zi_lt hg5)) hg6 dX7_compare_35 ?_
        refine zr_aload_n C 3 dX7_compare_36 rfl ?_
        refine zr_iload C 10 dX7_compare_37 rfl ?_
        refine zr_iload C 4 dX7_compare_39 rfl ?_
        obtain ⟨r7, hr7, hJ⟩ := zb_e hJ
        refine zr_callVI C p3 (zk_lt (zkP_0 hp3) (by decide)) (zen_obj (zkP_0 hp3)) (rfl : zcl[3]? = some (RX3, TX3, 19)) (M_X3_made G l hp3 hr7) zin_X3_made zm_48_18 rfl rfl (Nat.le_of_ble_eq_true rfl) ⟨Nat.le_of_ble_eq_true rfl, Nat.le_of_ble_eq_true rfl⟩ ⟨Nat.le_of_ble_eq_true rfl, Nat.le_of_ble_eq_true rfl⟩ dX7_compare_41 ?_
        refine zr_isub C dX7_compare_44 ?_
        obtain ⟨v8, hv8, hJ⟩ := zlet_e hJ
        refine zr_topi hv8 ?_
        refine zr_istore C [(11, .int v8), (0, .ref (G.1 + 97)), (1, .int a1), (2, .int a2), (3, .ref (G.1 + p3)), (4, .int a4), (5, .int a5), (6, .int w6_16), (7, .int w7_16), (8, .int w8_16), (9, .int w9_16), (10, .int w10_16)] dX7_compare_45 (by decide) rfl ?_
        refine zr_iload C 0 dX7_compare_47 rfl ?_
        obtain ⟨v9, hv9, hJ⟩ := zlet_e hJ
        obtain ⟨v10, hv10, hJ⟩ := zlet_e hJ
        have hf16 : zU G 12 p l e (zrm 1 22) s m args below meth c (MQ below (va_Qi (fun x (_ : Unit) => x = r) (fun _ t => zok G 137 (zen G σ) t) (zA G)) args s 0 0 (zA G)) σ 69 [(0, .ref (G.1 + 97)), (1, .int a1), (2, .int a2), (3, .ref (G.1 + p3)), (4, .int a4), (5, .int a5), (6, .int v9), (7, .int v10), (8, .int w8_16), (9, .int w9_16), (10, .int w10_16), (11, .int v8)] [] := by
          refine zr_iload C 8 dX7_compare_69 rfl ?_
          refine zr_iload C 11 dX7_compare_71 rfl ?_
          refine zr_iconst C dX7_compare_73 (v := (0 : Int32)) (by decide) ?_
          refine zr_mmax C zm_48_15 zMs_max zMi zMc_max (Nat.le_of_ble_eq_true rfl) (Nat.le_of_ble_eq_true rfl) ⟨Nat.le_of_ble_eq_true rfl, Nat.le_of_ble_eq_true rfl⟩ dX7_compare_74 ?_
          obtain ⟨v11, hv11, hJ⟩ := zlet_e hJ
          refine zr_topi hv11 ?_
          refine zr_iadd C dX7_compare_77 ?_
          obtain ⟨v12, hv12, hJ⟩ := zlet_e hJ
          refine zr_topi hv12 ?_
          refine zr_istore C [(8, .int v12), (0, .ref (G.1 + 97)), (1, .int a1), (2, .int a2), (3, .ref (G.1 + p3)), (4, .int a4), (5, .int a5), (6, .int v9), (7, .int v10), (9, .int w9_16), (10, .int w10_16), (11, .int v8)] dX7_compare_78 (by decide) rfl ?_
          refine zr_iload C 9 dX7_compare_80 rfl ?_
          refine zr_iload C 11 dX7_compare_82 rfl ?_
          refine zr_ineg C dX7_compare_84 ?_
          refine zr_iconst C dX7_compare_85 (v := (0 : Int32)) (by decide) ?_
          refine zr_mmax C zm_48_15 zMs_max zMi zMc_max (Nat.le_of_ble_eq_true rfl) (Nat.le_of_ble_eq_true rfl) ⟨Nat.le_of_ble_eq_true rfl, Nat.le_of_ble_eq_true rfl⟩ dX7_compare_86 ?_
          obtain ⟨v13, hv13, hJ⟩ := zlet_e hJ
          refine zr_topi hv13 ?_
          refine zr_iadd C dX7_compare_89 ?_
          obtain ⟨v14, hv14, hJ⟩ := zlet_e hJ
          refine zr_topi hv14 ?_
          refine zr_istore C [(9, .int v14), (8, .int v12), (0, .ref (G.1 + 97)), (1, .int a1), (2, .int a2), (3, .ref (G.1 + p3)), (4, .int a4), (5, .int a5), (6, .int v9), (7, .int v10), (10, .int w10_16), (11, .int v8)] dX7_compare_90 (by decide) rfl ?_
          obtain ⟨v15, hv15, hJ⟩ := zlet_e hJ
          refine zr_iinc C v15 10 [(10, .int v15), (9, .int v14), (8, .int v12), (0, .ref (G.1 + 97)), (1, .int a1), (2, .int a2), (3, .ref (G.1 + p3)), (4, .int a4), (5, .int a5), (6, .int v9), (7, .int v10), (11, .int v8)] dX7_compare_92 rfl (hv15.trans (zinc (by decide))) (by decide) rfl ?_
          refine zr_goto C 16 dX7_compare_95 (by decide) ?_
          refine zr_sub [3, 4, 5, 6, 7, 8, 9, 10, 2, 1, 0] [(0, .ref (G.1 + 97)), (1, .int a1), (2, .int a2), (3, .ref (G.1 + p3)), (4, .int a4), (5, .int a5), (6, .int v9), (7, .int v10), (8, .int v12), (9, .int v14), (10, .int v15)] rfl ?_
          exact ih16 _ _ _ _ _ hJ
        refine zr_if_ne C 58 dX7_compare_49 (by decide) (fun hc17 => ?_) (fun hc17 => ?_)
        · have hv9 := hv9.trans (if_neg hc17)
          have hv10 := hv10.trans (if_neg hc17)
          refine zr_iload C 8 dX7_compare_58 rfl ?_
          refine zr_bipush C dX7_compare_60 (v := (-4 : Int32)) (by decide) ?_
          refine zr_icmp_ne C 69 dX7_compare_62 (by decide) (fun hc18 => ?_) (fun hc18 => ?_)
          · have hv9 := hv9.trans (if_neg hc18)
            have hv10 := hv10.trans (if_neg hc18)
            refine zr_sub [1, 2, 3, 4, 5, 6, 7, 8, 9, 10, 11, 0] [(0, .ref (G.1 + 97)), (1, .int a1), (2, .int a2), (3, .ref (G.1 + p3)), (4, .int a4), (5, .int a5), (6, .int w6_16), (7, .int w7_16), (8, .int w8_16), (9, .int w9_16), (10, .int w10_16), (11, .int v8)] rfl ?_
            rw [hv9, hv10] at hf16
            exact hf16
          · have hv9 := hv9.trans (if_pos hc18)
            have hv10 := hv10.trans (if_pos hc18)
            refine zr_iload C 11 dX7_compare_65 rfl ?_
            refine zr_istore C [(7, .int w10_16), (11, .int v8), (0, .ref (G.1 + 97)), (1, .int a1), (2, .int a2), (3, .ref (G.1 + p3)), (4, .int a4), (5, .int a5), (6, .int w6_16), (8, .int w8_16), (9, .int w9_16), (10, .int w10_16)] dX7_compare_67 (by decide) rfl ?_
            refine zr_sub [2, 3, 4, 5, 6, 7, 8, 0, 9, 10, 11, 1] [(0, .ref (G.1 + 97)), (1, .int a1), (2, .int a2), (3, .ref (G.1 + p3)), (4, .int a4), (5, .int a5), (6, .int w6_16), (7, .int w10_16), (8, .int w8_16), (9, .int w9_16), (10, .int w10_16), (11, .int v8)] rfl ?_
            rw [hv9, hv10] at hf16
            exact hf16
        · have hv9 := hv9.trans (if_pos hc17)
          have hv10 := hv10.trans (if_pos hc17)
          refine zr_iinc C (w6_16 + (1 : Int32)) 7 [(6, .int (w6_16 + (1 : Int32))), (11, .int v8), (0, .ref (G.1 + 97)), (1, .int a1), (2, .int a2), (3, .ref (G.1 + p3)), (4, .int a4), (5, .int a5), (7, .int w7_16), (8, .int w8_16), (9, .int w9_16), (10, .int w10_16)] dX7_compare_52 rfl (zinc (by decide)) (by decide) rfl ?_
          refine zr_goto C 69 dX7_compare_55 (by decide) ?_
          refine zr_sub [2, 3, 4, 5, 6, 7, 0, 8, 9, 10, 11, 1] [(0, .ref (G.1 + 97)), (1, .int a1), (2, .int a2), (3, .ref (G.1 + p3)), (4, .int a4), (5, .int a5), (6, .int (w6_16 + (1 : Int32))), (7, .int w7_16), (8, .int w8_16), (9, .int w9_16), (10, .int w10_16), (11, .int v8)] rfl ?_
          rw [hv9, hv10] at hf16
          exact hf16
  refine zr_sub [5, 6, 7, 8, 9, 10, 4, 3, 2, 1, 0] [(0, .ref (G.1 + 97)), (1, .int a1), (2, .int a2), (3, .ref (G.1 + p3)), (4, .int a4), (5, .int a5), (6, .int (0 : Int32)), (7, .int (-4 : Int32)), (8, .int (0 : Int32)), (9, .int (0 : Int32)), (10, .int (0 : Int32))] rfl ?_
  exact hl16 _ _ _ _ _ _ hJ
