theorem dX7_faultOf_0 : decode cX7_faultOf 0 = .ok (.aload_n 0, 1) := by decide +kernel
theorem dX7_faultOf_1 : decode cX7_faultOf 1 = .ok (.getfield 15, 3) := by decide +kernel
theorem dX7_faultOf_4 : decode cX7_faultOf 4 = .ok (.iload_n 1, 1) := by decide +kernel
theorem dX7_faultOf_5 : decode cX7_faultOf 5 = .ok (.iaload, 1) := by decide +kernel
theorem dX7_faultOf_6 : decode cX7_faultOf 6 = .ok (.ifCond .ge 6, 3) := by decide +kernel
theorem dX7_faultOf_9 : decode cX7_faultOf 9 = .ok (.bipush (-11), 2) := by decide +kernel
theorem dX7_faultOf_11 : decode cX7_faultOf 11 = .ok (.ireturn, 1) := by decide +kernel
theorem dX7_faultOf_12 : decode cX7_faultOf 12 = .ok (.aload_n 0, 1) := by decide +kernel
theorem dX7_faultOf_13 : decode cX7_faultOf 13 = .ok (.getfield 11, 3) := by decide +kernel
theorem dX7_faultOf_16 : decode cX7_faultOf 16 = .ok (.iload_n 1, 1) := by decide +kernel
theorem dX7_faultOf_17 : decode cX7_faultOf 17 = .ok (.iaload, 1) := by decide +kernel
theorem dX7_faultOf_18 : decode cX7_faultOf 18 = .ok (.iload_n 2, 1) := by decide +kernel
theorem dX7_faultOf_19 : decode cX7_faultOf 19 = .ok (.if_icmp .eq 6, 3) := by decide +kernel
theorem dX7_faultOf_22 : decode cX7_faultOf 22 = .ok (.bipush (-13), 2) := by decide +kernel
theorem dX7_faultOf_24 : decode cX7_faultOf 24 = .ok (.ireturn, 1) := by decide +kernel
theorem dX7_faultOf_25 : decode cX7_faultOf 25 = .ok (.iconst 0, 1) := by decide +kernel
theorem dX7_faultOf_26 : decode cX7_faultOf 26 = .ok (.istore 5, 2) := by decide +kernel
theorem dX7_faultOf_28 : decode cX7_faultOf 28 = .ok (.iload 5, 2) := by decide +kernel
theorem dX7_faultOf_30 : decode cX7_faultOf 30 = .ok (.iload 4, 2) := by decide +kernel
theorem dX7_faultOf_32 : decode cX7_faultOf 32 = .ok (.if_icmp .ge 74, 3) := by decide +kernel
theorem dX7_faultOf_35 : decode cX7_faultOf 35 = .ok (.iload_n 3, 1) := by decide +kernel
theorem dX7_faultOf_36 : decode cX7_faultOf 36 = .ok (.i2l, 1) := by decide +kernel
theorem dX7_faultOf_37 : decode cX7_faultOf 37 = .ok (.iload 5, 2) := by decide +kernel
theorem dX7_faultOf_39 : decode cX7_faultOf 39 = .ok (.i2l, 1) := by decide +kernel
theorem dX7_faultOf_40 : decode cX7_faultOf 40 = .ok (.ladd, 1) := by decide +kernel
theorem dX7_faultOf_41 : decode cX7_faultOf 41 = .ok (.lstore 6, 2) := by decide +kernel
theorem dX7_faultOf_43 : decode cX7_faultOf 43 = .ok (.lload 6, 2) := by decide +kernel
theorem dX7_faultOf_45 : decode cX7_faultOf 45 = .ok (.lconst 0, 1) := by decide +kernel
theorem dX7_faultOf_46 : decode cX7_faultOf 46 = .ok (.lcmp, 1) := by decide +kernel
theorem dX7_faultOf_47 : decode cX7_faultOf 47 = .ok (.ifCond .lt 16, 3) := by decide +kernel
theorem dX7_faultOf_50 : decode cX7_faultOf 50 = .ok (.lload 6, 2) := by decide +kernel
theorem dX7_faultOf_52 : decode cX7_faultOf 52 = .ok (.aload_n 0, 1) := by decide +kernel
theorem dX7_faultOf_53 : decode cX7_faultOf 53 = .ok (.getfield 15, 3) := by decide +kernel
theorem dX7_faultOf_56 : decode cX7_faultOf 56 = .ok (.iload_n 1, 1) := by decide +kernel
theorem dX7_faultOf_57 : decode cX7_faultOf 57 = .ok (.iaload, 1) := by decide +kernel
theorem dX7_faultOf_58 : decode cX7_faultOf 58 = .ok (.i2l, 1) := by decide +kernel
theorem dX7_faultOf_59 : decode cX7_faultOf 59 = .ok (.lcmp, 1) := by decide +kernel
theorem dX7_faultOf_60 : decode cX7_faultOf 60 = .ok (.ifCond .lt 6, 3) := by decide +kernel
theorem dX7_faultOf_63 : decode cX7_faultOf 63 = .ok (.bipush (-12), 2) := by decide +kernel
theorem dX7_faultOf_65 : decode cX7_faultOf 65 = .ok (.ireturn, 1) := by decide +kernel
theorem dX7_faultOf_66 : decode cX7_faultOf 66 = .ok (.aload_n 0, 1) := by decide +kernel
theorem dX7_faultOf_67 : decode cX7_faultOf 67 = .ok (.getfield 20, 3) := by decide +kernel
theorem dX7_faultOf_70 : decode cX7_faultOf 70 = .ok (.iload_n 1, 1) := by decide +kernel
theorem dX7_faultOf_71 : decode cX7_faultOf 71 = .ok (.aaload, 1) := by decide +kernel
theorem dX7_faultOf_72 : decode cX7_faultOf 72 = .ok (.lload 6, 2) := by decide +kernel
theorem dX7_faultOf_74 : decode cX7_faultOf 74 = .ok (.l2i, 1) := by decide +kernel
theorem dX7_faultOf_75 : decode cX7_faultOf 75 = .ok (.iaload, 1) := by decide +kernel
theorem dX7_faultOf_76 : decode cX7_faultOf 76 = .ok (.ifCond .lt 18, 3) := by decide +kernel
theorem dX7_faultOf_79 : decode cX7_faultOf 79 = .ok (.aload_n 0, 1) := by decide +kernel
theorem dX7_faultOf_80 : decode cX7_faultOf 80 = .ok (.getfield 20, 3) := by decide +kernel
theorem dX7_faultOf_83 : decode cX7_faultOf 83 = .ok (.iload_n 1, 1) := by decide +kernel
theorem dX7_faultOf_84 : decode cX7_faultOf 84 = .ok (.aaload, 1) := by decide +kernel
theorem dX7_faultOf_85 : decode cX7_faultOf 85 = .ok (.lload 6, 2) := by decide +kernel
theorem dX7_faultOf_87 : decode cX7_faultOf 87 = .ok (.l2i, 1) := by decide +kernel
theorem dX7_faultOf_88 : decode cX7_faultOf 88 = .ok (.iaload, 1) := by decide +kernel
theorem dX7_faultOf_89 : decode cX7_faultOf 89 = .ok (.ldc 27, 2) := by decide +kernel
theorem dX7_faultOf_91 : decode cX7_faultOf 91 = .ok (.if_icmp .le 9, 3) := by decide +kernel
theorem dX7_faultOf_94 : decode cX7_faultOf 94 = .ok (.bipush (-20), 2) := by decide +kernel
theorem dX7_faultOf_96 : decode cX7_faultOf 96 = .ok (.iload 5, 2) := by decide +kernel
theorem dX7_faultOf_98 : decode cX7_faultOf 98 = .ok (.isub, 1) := by decide +kernel
theorem dX7_faultOf_99 : decode cX7_faultOf 99 = .ok (.ireturn, 1) := by decide +kernel
theorem dX7_faultOf_100 : decode cX7_faultOf 100 = .ok (.iinc 5 1, 3) := by decide +kernel
theorem dX7_faultOf_103 : decode cX7_faultOf 103 = .ok (.goto (-75), 3) := by decide +kernel
theorem dX7_faultOf_106 : decode cX7_faultOf 106 = .ok (.iconst 0, 1) := by decide +kernel
theorem dX7_faultOf_107 : decode cX7_faultOf 107 = .ok (.ireturn, 1) := by decide +kernel
set_option maxRecDepth 100000 in
set_option maxHeartbeats 4000000 in
theorem M_X7_faultOf (G : zG) (l : Launch) {a1 : Int32} {a2 : Int32} {a3 : Int32} {a4 : Int32} {σ : zS} {r : Int32} (hJ : J_X7_faultOf a1 a2 a3 a4 σ = some r) : zMI G l yX7_faultOf cX7_faultOf 8 (some .int) (zrm 0 0) [.ref (G.1 + 97), .int a1, .int a2, .int a3, .int a4] 137 (zen G σ) r 137 (zen G σ) := by
  unfold J_X7_faultOf at hJ
  refine zentI (by decide +kernel) (Nat.le_of_ble_eq_true rfl) ?_
  intro p e s m args below meth c C hret
  refine zr_sub [0, 1, 2, 3, 4] [(0, .ref (G.1 + 97)), (1, .int a1), (2, .int a2), (3, .int a3), (4, .int a4)] rfl ?_
  refine zr_aload_n C 0 dX7_faultOf_0 rfl ?_
  refine zg_7_1 C 97 zk_97 zm_7_0 dX7_faultOf_1 ?_
  refine zr_iload_n C 1 dX7_faultOf_4 rfl ?_
  obtain ⟨hg1, hJ⟩ := zg_e hJ
  refine zu_iald C 99 zk_99 hg1 dX7_faultOf_5 ?_
  refine zr_if_ge C 12 dX7_faultOf_6 (by decide) (fun hc2 => ?_) (fun hc2 => ?_)
  · have hJ := zif hc2 hJ
    refine zr_aload_n C 0 dX7_faultOf_12 rfl ?_
    refine zg_7_0 C 97 zk_97 zm_6_23 dX7_faultOf_13 ?_
    refine zr_iload_n C 1 dX7_faultOf_16 rfl ?_
    obtain ⟨hg3, hJ⟩ := zg_e hJ
    refine zu_iald C 98 zk_98 hg3 dX7_faultOf_17 ?_
    refine zr_iload_n C 2 dX7_faultOf_18 rfl ?_
    refine zr_icmp_eq C 25 dX7_faultOf_19 (by decide) (fun hc4 => ?_) (fun hc4 => ?_)
    · have hJ := zif hc4 hJ
      refine zr_iconst C dX7_faultOf_25 (v := (0 : Int32)) (by decide) ?_
      refine zr_istore C [(5, .int (0 : Int32)), (0, .ref (G.1 + 97)), (1, .int a1), (2, .int a2), (3, .int a3), (4, .int a4)] dX7_faultOf_26 (by decide) rfl ?_
      have hl28 : ∀ (n : Nat) (w5_28 : Int32), L_X7_faultOf_28 a1 a3 a4 σ n w5_28 = some r → zU G 8 p l e (zrm 0 0) s m args below meth c (MQ below (va_Qi (fun x (_ : Unit) => x = r) (fun _ t => zok G 137 (zen G σ) t) (zA G)) args s 0 0 (zA G)) σ 28 [(0, .ref (G.1 + 97)), (1, .int a1), (3, .int a3), (4, .int a4), (5, .int w5_28)] [] := by
        intro n
        induction n with
        | zero =>
          intro w5_28 hJ
          rw [L_X7_faultOf_28] at hJ
          cases hJ
        | succ n ih =>
          intro w5_28 hJ
          rw [L_X7_faultOf_28] at hJ
          obtain ⟨r_28, hr_28, hJ⟩ := zlet_e hJ
          have ih28 : ∀ (w5_28 : Int32), r_28 w5_28 = some r → zU G 8 p l e (zrm 0 0) s m args below meth c (MQ below (va_Qi (fun x (_ : Unit) => x = r) (fun _ t => zok G 137 (zen G σ) t) (zA G)) args s 0 0 (zA G)) σ 28 [(0, .ref (G.1 + 97)), (1, .int a1), (3, .int a3), (4, .int a4), (5, .int w5_28)] [] := by
            rw [hr_28]
            exact ih
          refine zr_iload C 4 dX7_faultOf_28 rfl ?_
          refine zr_iload C 3 dX7_faultOf_30 rfl ?_
          refine zr_icmp_ge C 106 dX7_faultOf_32 (by decide) (fun hc5 => ?_) (fun hc5 => ?_)
          · have hJ := zif hc5 hJ
            refine zr_iconst C dX7_faultOf_106 (v := (0 : Int32)) (by decide) ?_
            exact zr_iret C hret (zs_e hJ) rfl rfl dX7_faultOf_107
          · have hJ := zif' hc5 hJ
            refine zr_iload_n C 2 dX7_faultOf_35 rfl ?_
            refine zr_i2l C dX7_faultOf_36 ?_
            refine zr_iload C 4 dX7_faultOf_37 rfl ?_
            refine zr_i2l C dX7_faultOf_39 ?_
            refine zr_ladd C dX7_faultOf_40 ?_
            obtain ⟨v6, hv6, hJ⟩ := zlet_e hJ
            refine zr_topl hv6 ?_
            refine zr_lstore C [(6, .long v6), (0, .ref (G.1 + 97)), (1, .int a1), (3, .int a3), (4, .int a4), (5, .int w5_28)] dX7_faultOf_41 (by decide) rfl ?_
            refine zr_lload C 0 dX7_faultOf_43 rfl ?_
            refine zr_lconst C dX7_faultOf_45 (v := (0 : Int64)) (by decide) ?_
            refine zr_lcmp C dX7_faultOf_46 ?_
            refine zr_if_lt C 63 dX7_faultOf_47 (by decide) (fun hc7 => ?_) (fun hc7 => ?_)
            · have hJ := zif hc7 hJ
              refine zr_bipush C dX7_faultOf_63 (v := (-12 : Int32)) (by decide) ?_
              exact zr_iret C hret (zs_e hJ) rfl rfl dX7_faultOf_65
            · have hJ := zif' hc7 hJ
              refine zr_lload C 0 dX7_faultOf_50 rfl ?_
              refine zr_aload_n C 1 dX7_faultOf_52 rfl ?_
              refine zg_7_1 C 97 zk_97 zm_7_0 dX7_faultOf_53 ?_
              refine zr_iload_n C 2 dX7_faultOf_56 rfl ?_
              obtain ⟨hg8, hJ⟩ := zg_e hJ
              refine zu_iald C 99 zk_99 hg8 dX7_faultOf_57 ?_
              refine zr_i2l C dX7_faultOf_58 ?_
              refine zr_lcmp C dX7_faultOf_59 ?_
              refine zr_if_lt C 66 dX7_faultOf_60 (by decide) (fun hc9 => ?_) (fun hc9 => ?_)
              · have hJ := zif hc9 hJ
                refine zr_aload_n C 1 dX7_faultOf_66 rfl ?_
                refine zg_7_2 C 97 zk_97 zm_7_2 dX7_faultOf_67 ?_
                refine zr_iload_n C 2 dX7_faultOf_70 rfl ?_
                obtain ⟨hg10, hJ⟩ := zg_e hJ
                refine zu_aald C 100 zk_100 hg10 dX7_faultOf_71 ?_
                refine zr_lload C 0 dX7_faultOf_72 rfl ?_
                refine zr_l2i C dX7_faultOf_74 ?_
                obtain ⟨hg11, hJ⟩ := zg_e hJ
                refine zu_iald C (100 + 1 + a1.toNatClampNeg) (zk_rowS (zi_lt hg10)) hg11 dX7_faultOf_75 ?_
                refine zr_if_lt C 94 dX7_faultOf_76 (by decide) (fun hc12 => ?_) (fun hc12 => ?_)
                · have hJ := zif hc12 hJ
                  refine zr_bipush C dX7_faultOf_94 (v := (-20 : Int32)) (by decide) ?_
                  refine zr_iload C 5 dX7_faultOf_96 rfl ?_
                  refine zr_isub C dX7_faultOf_98 ?_
                  exact zr_iret C hret (zs_e hJ) rfl rfl dX7_faultOf_99
                · have hJ := zif' hc12 hJ
                  refine zr_aload_n C 1 dX7_faultOf_79 rfl ?_
                  refine zg_7_2 C 97 zk_97 zm_7_2 dX7_faultOf_80 ?_
                  refine zr_iload_n C 2 dX7_faultOf_83 rfl ?_
                  obtain ⟨hg13, hJ⟩ := zg_e hJ
                  refine zu_aald C 100 zk_100 hg13 dX7_faultOf_84 ?_
                  refine zr_lload C 0 dX7_faultOf_85 rfl ?_
                  refine zr_l2i C dX7_faultOf_87 ?_
                  obtain ⟨hg14, hJ⟩ := zg_e hJ
                  refine zu_iald C (100 + 1 + a1.toNatClampNeg) (zk_rowS (zi_lt hg13)) hg14 dX7_faultOf_88 ?_
                  refine zr_ldc C dX7_faultOf_89 zm_48_9 ?_
                  refine zr_icmp_le C 100 dX7_faultOf_91 (by decide) (fun hc15 => ?_) (fun hc15 => ?_)
                  · have hJ := zif hc15 hJ
                    obtain ⟨v16, hv16, hJ⟩ := zlet_e hJ
                    refine zr_iinc C v16 5 [(5, .int v16), (6, .long v6), (0, .ref (G.1 + 97)), (1, .int a1), (3, .int a3), (4, .int a4)] dX7_faultOf_100 rfl (hv16.trans (zinc (by decide))) (by decide) rfl ?_
                    refine zr_goto C 28 dX7_faultOf_103 (by decide) ?_
                    refine zr_sub [2, 3, 4, 5, 0] [(0, .ref (G.1 + 97)), (1, .int a1), (3, .int a3), (4, .int a4), (5, .int v16)] rfl ?_
                    exact ih28 _ hJ
                  · have hJ := zif' hc15 hJ
                    refine zr_bipush C dX7_faultOf_94 (v := (-20 : Int32)) (by decide) ?_
                    refine zr_iload C 5 dX7_faultOf_96 rfl ?_
                    refine zr_isub C dX7_faultOf_98 ?_
                    exact zr_iret C hret (zs_e hJ) rfl rfl dX7_faultOf_99
              · have hJ := zif' hc9 hJ
                refine zr_bipush C dX7_faultOf_63 (v := (-12 : Int32)) (by decide) ?_
                exact zr_iret C hret (zs_e hJ) rfl rfl dX7_faultOf_65
      refine zr_sub [1, 2, 4, 5, 0] [(0, .ref (G.1 + 97)), (1, .int a1), (3, .int a3), (4, .int a4), (5, .int (0 : Int32))] rfl ?_
      exact hl28 _ _ hJ
    · have hJ := zif' hc4 hJ
      refine zr_bipush C dX7_faultOf_22 (v := (-13 : Int32)) (by decide) ?_
      exact zr_iret C hret (zs_e hJ) rfl rfl dX7_faultOf_24
  · have hJ := zif' hc2 hJ
    refine zr_bipush C dX7_faultOf_9 (v := (-11 : Int32)) (by decide) ?_
    exact zr_iret C hret (zs_e hJ) rfl rfl dX7_faultOf_11
theorem dX7_hasLane_0 : decode cX7_hasLane 0 = .ok (.iload_n 1, 1) := by decide +kernel
theorem dX7_hasLane_1 : decode cX7_hasLane 1 = .ok (.ifCond .lt 12, 3) := by decide +kernel
theorem dX7_hasLane_4 : decode cX7_hasLane 4 = .ok (.iload_n 1, 1) := by decide +kernel
theorem dX7_hasLane_5 : decode cX7_hasLane 5 = .ok (.iconst 2, 1) := by decide +kernel
theorem dX7_hasLane_6 : decode cX7_hasLane 6 = .ok (.if_icmp .gt 7, 3) := by decide +kernel
theorem dX7_hasLane_9 : decode cX7_hasLane 9 = .ok (.iconst 1, 1) := by decide +kernel
theorem dX7_hasLane_10 : decode cX7_hasLane 10 = .ok (.goto 4, 3) := by decide +kernel
theorem dX7_hasLane_13 : decode cX7_hasLane 13 = .ok (.iconst 0, 1) := by decide +kernel
theorem dX7_hasLane_14 : decode cX7_hasLane 14 = .ok (.ireturn, 1) := by decide +kernel
set_option maxRecDepth 100000 in
set_option maxHeartbeats 4000000 in
theorem M_X7_hasLane (G : zG) (l : Launch) {a1 : Int32} {σ : zS} {r : Int32} (hJ : J_X7_hasLane a1 σ = some r) : zMI G l yX7_hasLane cX7_hasLane 2 (some .boolean) (zrm 0 0) [.ref (G.1 + 97), .int a1] 137 (zen G σ) r 137 (zen G σ) := by
  unfold J_X7_hasLane at hJ
  refine zentI (by decide +kernel) (Nat.le_of_ble_eq_true rfl) ?_
  intro p e s m args below meth c C hret
  refine zr_sub [0, 1] [(0, .ref (G.1 + 97)), (1, .int a1)] rfl ?_
  refine zr_iload_n C 1 dX7_hasLane_0 rfl ?_
  refine zr_if_lt C 13 dX7_hasLane_1 (by decide) (fun hc1 => ?_) (fun hc1 => ?_)
  · have hJ := zif hc1 hJ
    refine zr_iconst C dX7_hasLane_13 (v := (0 : Int32)) (by decide) ?_
    exact zr_zret C hret (zs_e hJ) rfl rfl rfl dX7_hasLane_14
  · have hJ := zif' hc1 hJ
    refine zr_iload_n C 1 dX7_hasLane_4 rfl ?_
    refine zr_iconst C dX7_hasLane_5 (v := (2 : Int32)) (by decide) ?_
    refine zr_icmp_gt C 13 dX7_hasLane_6 (by decide) (fun hc2 => ?_) (fun hc2 => ?_)
    · have hJ := zif hc2 hJ
      refine zr_iconst C dX7_hasLane_13 (v := (0 : Int32)) (by decide) ?_
      exact zr_zret C hret (zs_e hJ) rfl rfl rfl dX7_hasLane_14
    · have hJ := zif' hc2 hJ
      refine zr_iconst C dX7_hasLane_9 (v := (1 : Int32)) (by decide) ?_
      refine zr_goto C 14 dX7_hasLane_10 (by decide) ?_
      exact zr_zret C hret (zs_e hJ) rfl rfl rfl dX7_hasLane_14
theorem dX10_said_0 : decode cX10_said 0 = .ok (.aload_n 0, 1) := by decide +kernel
theorem dX10_said_1 : decode cX10_said 1 = .ok (.getfield 80, 3) := by decide +kernel
theorem dX10_said_4 : decode cX10_said 4 = .ok (.iload_n 1, 1) := by decide +kernel
theorem dX10_said_5 : decode cX10_said 5 = .ok (.invokevirtual 348, 3) := by decide +kernel
theorem dX10_said_8 : decode cX10_said 8 = .ok (.ifCond .eq 33, 3) := by decide +kernel
theorem dX10_said_11 : decode cX10_said 11 = .ok (.aload_n 0, 1) := by decide +kernel
theorem dX10_said_12 : decode cX10_said 12 = .ok (.getfield 80, 3) := by decide +kernel
theorem dX10_said_15 : decode cX10_said 15 = .ok (.iload_n 2, 1) := by decide +kernel
theorem dX10_said_16 : decode cX10_said 16 = .ok (.invokevirtual 349, 3) := by decide +kernel
theorem dX10_said_19 : decode cX10_said 19 = .ok (.ifCond .eq 22, 3) := by decide +kernel
theorem dX10_said_22 : decode cX10_said 22 = .ok (.iload 4, 2) := by decide +kernel
theorem dX10_said_24 : decode cX10_said 24 = .ok (.invokestatic 120, 3) := by decide +kernel
theorem dX10_said_27 : decode cX10_said 27 = .ok (.ifCond .eq 14, 3) := by decide +kernel
theorem dX10_said_30 : decode cX10_said 30 = .ok (.iload 5, 2) := by decide +kernel
theorem dX10_said_32 : decode cX10_said 32 = .ok (.ifCond .lt 9, 3) := by decide +kernel
theorem dX10_said_35 : decode cX10_said 35 = .ok (.iload 5, 2) := by decide +kernel
theorem dX10_said_37 : decode cX10_said 37 = .ok (.iconst 3, 1) := by decide +kernel
theorem dX10_said_38 : decode cX10_said 38 = .ok (.if_icmp .le 5, 3) := by decide +kernel
theorem dX10_said_41 : decode cX10_said 41 = .ok (.iconst (-1), 1) := by decide +kernel
theorem dX10_said_42 : decode cX10_said 42 = .ok (.ireturn, 1) := by decide +kernel
theorem dX10_said_43 : decode cX10_said 43 = .ok (.aload_n 0, 1) := by decide +kernel
theorem dX10_said_44 : decode cX10_said 44 = .ok (.getfield 80, 3) := by decide +kernel
theorem dX10_said_47 : decode cX10_said 47 = .ok (.iload_n 1, 1) := by decide +kernel
theorem dX10_said_48 : decode cX10_said 48 = .ok (.iload_n 2, 1) := by decide +kernel
theorem dX10_said_49 : decode cX10_said 49 = .ok (.iload_n 3, 1) := by decide +kernel
theorem dX10_said_50 : decode cX10_said 50 = .ok (.aload_n 0, 1) := by decide +kernel
theorem dX10_said_51 : decode cX10_said 51 = .ok (.getfield 19, 3) := by decide +kernel
theorem dX10_said_54 : decode cX10_said 54 = .ok (.getfield 113, 3) := by decide +kernel
theorem dX10_said_57 : decode cX10_said 57 = .ok (.invokevirtual 359, 3) := by decide +kernel
theorem dX10_said_60 : decode cX10_said 60 = .ok (.istore 6, 2) := by decide +kernel
theorem dX10_said_62 : decode cX10_said 62 = .ok (.iload 6, 2) := by decide +kernel
theorem dX10_said_64 : decode cX10_said 64 = .ok (.ifCond .eq 8, 3) := by decide +kernel
theorem dX10_said_67 : decode cX10_said 67 = .ok (.iload 6, 2) := by decide +kernel
theorem dX10_said_69 : decode cX10_said 69 = .ok (.goto 20, 3) := by decide +kernel
theorem dX10_said_72 : decode cX10_said 72 = .ok (.aload_n 0, 1) := by decide +kernel
theorem dX10_said_73 : decode cX10_said 73 = .ok (.getfield 80, 3) := by decide +kernel
theorem dX10_said_76 : decode cX10_said 76 = .ok (.iload_n 1, 1) := by decide +kernel
theorem dX10_said_77 : decode cX10_said 77 = .ok (.iload_n 3, 1) := by decide +kernel
theorem dX10_said_78 : decode cX10_said 78 = .ok (.aload_n 0, 1) := by decide +kernel
theorem dX10_said_79 : decode cX10_said 79 = .ok (.getfield 19, 3) := by decide +kernel
theorem dX10_said_82 : decode cX10_said 82 = .ok (.iload 4, 2) := by decide +kernel
theorem dX10_said_84 : decode cX10_said 84 = .ok (.iload 5, 2) := by decide +kernel
theorem dX10_said_86 : decode cX10_said 86 = .ok (.invokevirtual 362, 3) := by decide +kernel
theorem dX10_said_89 : decode cX10_said 89 = .ok (.ireturn, 1) := by decide +kernel
set_option maxRecDepth 100000 in
set_option maxHeartbeats 4000000 in
theorem M_X10_said (G : zG) (l : Launch) {a1 : Int32} {a2 : Int32} {a3 : Int32} {a4 : Int32} {a5 : Int32} {σ : zS} {r : Int32} (hJ : J_X10_said a1 a2 a3 a4 a5 σ = some r) : zMI G l yX10_said cX10_said 7 (some .int) (zrm 2 53) [.ref (G.1 + 0), .int a1, .int a2, .int a3, .int a4, .int a5] 137 (zen G σ) r 137 (zen G σ) := by
  unfold J_X10_said at hJ
  refine zentI (by decide +kernel) (Nat.le_of_ble_eq_true rfl) ?_
  intro p e s m args below meth c C hret
  refine zr_sub [0, 1, 2, 3, 4, 5] [(0, .ref (G.1 + 0)), (1, .int a1), (2, .int a2), (3, .int a3), (4, .int a4), (5, .int a5)] rfl ?_
  refine zr_aload_n C 0 dX10_said_0 rfl ?_
  refine zg_10_10 C 0 zk_0 zm_3_5 dX10_said_1 ?_
  refine zr_iload_n C 1 dX10_said_4 rfl ?_
  obtain ⟨r1, hr1, hJ⟩ := zb_e hJ
  refine zr_callVI C 97 (zk_lt zk_97 (by decide)) (zen_obj zk_97) (rfl : zcl[7]? = some (RX7, TX7, 3)) (M_X7_has G l hr1) zin_X7_has zm_46_15 rfl rfl (Nat.le_of_ble_eq_true rfl) ⟨Nat.le_of_ble_eq_true rfl, Nat.le_of_ble_eq_true rfl⟩ ⟨Nat.le_of_ble_eq_true rfl, Nat.le_of_ble_eq_true rfl⟩ dX10_said_5 ?_
  refine zr_if_eq C 41 dX10_said_8 (by decide) (fun hc2 => ?_) (fun hc2 => ?_)
  · have hJ := zif hc2 hJ
    refine zr_iconst C dX10_said_41 (v := (-1 : Int32)) (by decide) ?_
    exact zr_iret C hret (zs_e hJ) rfl rfl dX10_said_42
  · have hJ := zif' hc2 hJ
    refine zr_aload_n C 0 dX10_said_11 rfl ?_
    refine zg_10_10 C 0 zk_0 zm_3_5 dX10_said_12 ?_
    refine zr_iload_n C 2 dX10_said_15 rfl ?_
    obtain ⟨r3, hr3, hJ⟩ := zb_e hJ
    refine zr_callVI C 97 (zk_lt zk_97 (by decide)) (zen_obj zk_97) (rfl : zcl[7]? = some (RX7, TX7, 3)) (M_X7_hasLane G l hr3) zin_X7_hasLane zm_46_19 rfl rfl (Nat.le_of_ble_eq_true rfl) ⟨Nat.le_of_ble_eq_true rfl, Nat.le_of_ble_eq_true rfl⟩ ⟨Nat.le_of_ble_eq_true rfl, Nat.le_of_ble_eq_true rfl⟩ dX10_said_16 ?_
    refine zr_if_eq C 41 dX10_said_19 (by decide) (fun hc4 => ?_) (fun hc4 => ?_)
    · have hJ := zif hc4 hJ
      refine zr_iconst C dX10_said_41 (v := (-1 : Int32)) (by decide) ?_
      exact zr_iret C hret (zs_e hJ) rfl rfl dX10_said_42
    · have hJ := zif' hc4 hJ
      refine zr_iload C 4 dX10_said_22 rfl ?_
      obtain ⟨r5, hr5, hJ⟩ := zb_e hJ
      refine zr_callSI C (M_X10_isEvent G l hr5) zin_X10_isEvent zm_14_23 rfl rfl (Nat.le_of_ble_eq_true rfl) ⟨Nat.le_of_ble_eq_true rfl, Nat.le_of_ble_eq_true rfl⟩ ⟨Nat.le_of_ble_eq_true rfl, Nat.le_of_ble_eq_true rfl⟩ dX10_said_24 ?_
      refine zr_if_eq C 41 dX10_said_27 (by decide) (fun hc6 => ?_) (fun hc6 => ?_)
      · have hJ := zif hc6 hJ
        refine zr_iconst C dX10_said_41 (v := (-1 : Int32)) (by decide) ?_
        exact zr_iret C hret (zs_e hJ) rfl rfl dX10_said_42
      · have hJ := zif' hc6 hJ
        refine zr_iload C 5 dX10_said_30 rfl ?_
        refine zr_if_lt C 41 dX10_said_32 (by decide) (fun hc7 => ?_) (fun hc7 => ?_)
        · have hJ := zif hc7 hJ
          refine zr_iconst C dX10_said_41 (v := (-1 : Int32)) (by decide) ?_
          exact zr_iret C hret (zs_e hJ) rfl rfl dX10_said_42
        · have hJ := zif' hc7 hJ
          refine zr_iload C 5 dX10_said_35 rfl ?_
          refine zr_iconst C dX10_said_37 (v := (3 : Int32)) (by decide) ?_
          refine zr_icmp_le C 43 dX10_said_38 (by decide) (fun hc8 => ?_) (fun hc8 => ?_)
          · have hJ := zif hc8 hJ
            refine zr_aload_n C 0 dX10_said_43 rfl ?_
            refine zg_10_10 C 0 zk_0 zm_3_5 dX10_said_44 ?_
            refine zr_iload_n C 1 dX10_said_47 rfl ?_
            refine zr_iload_n C 2 dX10_said_48 rfl ?_
            refine zr_iload_n C 3 dX10_said_49 rfl ?_
            refine zr_aload_n C 0 dX10_said_50 rfl ?_
            obtain ⟨p9, hp9, hJ⟩ := zlet_e hJ
            obtain ⟨hp10, hJ⟩ := zg_e hJ
            refine zg_10_1 C 0 zk_0 zm_1_20 dX10_said_51 ?_
            refine zr_topr hp9 ?_
            refine zg_3_0 C p9 (zkP_0 hp10) zm_10_8 dX10_said_54 ?_
            obtain ⟨r11, hr11, hJ⟩ := zb_e hJ
            refine zr_callVI C 97 (zk_lt zk_97 (by decide)) (zen_obj zk_97) (rfl : zcl[7]? = some (RX7, TX7, 3)) (M_X7_faultOf G l hr11) zin_X7_faultOf zm_48_5 rfl rfl (Nat.le_of_ble_eq_true rfl) ⟨Nat.le_of_ble_eq_true rfl, Nat.le_of_ble_eq_true rfl⟩ ⟨Nat.le_of_ble_eq_true rfl, Nat.le_of_ble_eq_true rfl⟩ dX10_said_57 ?_
            refine zr_istore C [(6, .int r11), (0, .ref (G.1 + 0)), (1, .int a1), (2, .int a2), (3, .int a3), (4, .int a4), (5, .int a5)] dX10_said_60 (by decide) rfl ?_
            refine zr_iload C 0 dX10_said_62 rfl ?_
            refine zr_if_eq C 72 dX10_said_64 (by decide) (fun hc12 => ?_) (fun hc12 => ?_)
            · have hJ := zif hc12 hJ
              refine zr_aload_n C 1 dX10_said_72 rfl ?_
              refine zg_10_10 C 0 zk_0 zm_3_5 dX10_said_73 ?_
              refine zr_iload_n C 2 dX10_said_76 rfl ?_
              refine zr_iload_n C 4 dX10_said_77 rfl ?_
              refine zr_aload_n C 1 dX10_said_78 rfl ?_
              obtain ⟨p13, hp13, hJ⟩ := zlet_e hJ
              obtain ⟨hp14, hJ⟩ := zg_e hJ
              refine zg_10_1 C 0 zk_0 zm_1_20 dX10_said_79 ?_
              refine zr_topr hp13 ?_
              refine zr_iload C 5 dX10_said_82 rfl ?_
              refine zr_iload C 6 dX10_said_84 rfl ?_
              obtain ⟨r15, hr15, hJ⟩ := zb_e hJ
              refine zr_callVI C 97 (zk_lt zk_97 (by decide)) (zen_obj zk_97) (rfl : zcl[7]? = some (RX7, TX7, 3)) (M_X7_compare G l hp14 hr15) zin_X7_compare zm_48_10 rfl rfl (Nat.le_of_ble_eq_true rfl) ⟨Nat.le_of_ble_eq_true rfl, Nat.le_of_ble_eq_true rfl⟩ ⟨Nat.le_of_ble_eq_true rfl, Nat.le_of_ble_eq_true rfl⟩ dX10_said_86 ?_
              exact zr_iret C hret (zs_e hJ) rfl rfl dX10_said_89
            · have hJ := zif' hc12 hJ
              refine zr_iload C 0 dX10_said_67 rfl ?_
              refine zr_goto C 89 dX10_said_69 (by decide) ?_
              exact zr_iret C hret (zs_e hJ) rfl rfl dX10_said_89
          · have hJ := zif' hc8 hJ
            refine zr_iconst C dX10_said_41 (v := (-1 : Int32)) (by decide) ?_
            exact zr_iret C hret (zs_e hJ) rfl rfl dX10_said_42
theorem dX6_lineShownMost_0 : decode cX6_lineShownMost 0 = .ok (.bipush (-4), 2) := by decide +kernel
theorem dX6_lineShownMost_2 : decode cX6_lineShownMost 2 = .ok (.istore_n 1, 1) := by decide +kernel
theorem dX6_lineShownMost_3 : decode cX6_lineShownMost 3 = .ok (.iconst 0, 1) := by decide +kernel
theorem dX6_lineShownMost_4 : decode cX6_lineShownMost 4 = .ok (.istore_n 2, 1) := by decide +kernel
theorem dX6_lineShownMost_5 : decode cX6_lineShownMost 5 = .ok (.iconst 0, 1) := by decide +kernel
theorem dX6_lineShownMost_6 : decode cX6_lineShownMost 6 = .ok (.istore_n 3, 1) := by decide +kernel
theorem dX6_lineShownMost_7 : decode cX6_lineShownMost 7 = .ok (.iload_n 3, 1) := by decide +kernel
theorem dX6_lineShownMost_8 : decode cX6_lineShownMost 8 = .ok (.bipush 16, 2) := by decide +kernel
theorem dX6_lineShownMost_10 : decode cX6_lineShownMost 10 = .ok (.if_icmp .ge 28, 3) := by decide +kernel
theorem dX6_lineShownMost_13 : decode cX6_lineShownMost 13 = .ok (.aload_n 0, 1) := by decide +kernel
theorem dX6_lineShownMost_14 : decode cX6_lineShownMost 14 = .ok (.getfield 9, 3) := by decide +kernel
theorem dX6_lineShownMost_17 : decode cX6_lineShownMost 17 = .ok (.iload_n 3, 1) := by decide +kernel
theorem dX6_lineShownMost_18 : decode cX6_lineShownMost 18 = .ok (.iaload, 1) := by decide +kernel
theorem dX6_lineShownMost_19 : decode cX6_lineShownMost 19 = .ok (.iload_n 2, 1) := by decide +kernel
theorem dX6_lineShownMost_20 : decode cX6_lineShownMost 20 = .ok (.if_icmp .le 12, 3) := by decide +kernel
theorem dX6_lineShownMost_23 : decode cX6_lineShownMost 23 = .ok (.iload_n 3, 1) := by decide +kernel
theorem dX6_lineShownMost_24 : decode cX6_lineShownMost 24 = .ok (.istore_n 1, 1) := by decide +kernel
theorem dX6_lineShownMost_25 : decode cX6_lineShownMost 25 = .ok (.aload_n 0, 1) := by decide +kernel
theorem dX6_lineShownMost_26 : decode cX6_lineShownMost 26 = .ok (.getfield 9, 3) := by decide +kernel
theorem dX6_lineShownMost_29 : decode cX6_lineShownMost 29 = .ok (.iload_n 3, 1) := by decide +kernel
theorem dX6_lineShownMost_30 : decode cX6_lineShownMost 30 = .ok (.iaload, 1) := by decide +kernel
theorem dX6_lineShownMost_31 : decode cX6_lineShownMost 31 = .ok (.istore_n 2, 1) := by decide +kernel
theorem dX6_lineShownMost_32 : decode cX6_lineShownMost 32 = .ok (.iinc 3 1, 3) := by decide +kernel
theorem dX6_lineShownMost_35 : decode cX6_lineShownMost 35 = .ok (.goto (-28), 3) := by decide +kernel
theorem dX6_lineShownMost_38 : decode cX6_lineShownMost 38 = .ok (.iload_n 1, 1) := by decide +kernel
theorem dX6_lineShownMost_39 : decode cX6_lineShownMost 39 = .ok (.ireturn, 1) := by decide +kernel
set_option maxRecDepth 100000 in
set_option maxHeartbeats 4000000 in
theorem M_X6_lineShownMost (G : zG) (l : Launch) {σ : zS} {r : Int32} (hJ : J_X6_lineShownMost σ = some r) : zMI G l yX6_lineShownMost cX6_lineShownMost 4 (some .int) (zrm 0 0) [.ref (G.1 + 89)] 137 (zen G σ) r 137 (zen G σ) := by
  unfold J_X6_lineShownMost at hJ
  refine zentI (by decide +kernel) (Nat.le_of_ble_eq_true rfl) ?_
  intro p e s m args below meth c C hret
  refine zr_sub [0] [(0, .ref (G.1 + 89))] rfl ?_
  refine zr_bipush C dX6_lineShownMost_0 (v := (-4 : Int32)) (by decide) ?_
  refine zr_istore_n C [(1, .int (-4 : Int32)), (0, .ref (G.1 + 89))] dX6_lineShownMost_2 (by decide) rfl ?_
  refine zr_iconst C dX6_lineShownMost_3 (v := (0 : Int32)) (by decide) ?_
  refine zr_istore_n C [(2, .int (0 : Int32)), (1, .int (-4 : Int32)), (0, .ref (G.1 + 89))] dX6_lineShownMost_4 (by decide) rfl ?_
  refine zr_iconst C dX6_lineShownMost_5 (v := (0 : Int32)) (by decide) ?_
  refine zr_istore_n C [(3, .int (0 : Int32)), (2, .int (0 : Int32)), (1, .int (-4 : Int32)), (0, .ref (G.1 + 89))] dX6_lineShownMost_6 (by decide) rfl ?_
  have hl7 : ∀ (n : Nat) (w1_7 : Int32) (w2_7 : Int32) (w3_7 : Int32), L_X6_lineShownMost_7 σ n w1_7 w2_7 w3_7 = some r → zU G 4 p l e (zrm 0 0) s m args below meth c (MQ below (va_Qi (fun x (_ : Unit) => x = r) (fun _ t => zok G 137 (zen G σ) t) (zA G)) args s 0 0 (zA G)) σ 7 [(0, .ref (G.1 + 89)), (1, .int w1_7), (2, .int w2_7), (3, .int w3_7)] [] := by
    intro n
    induction n with
    | zero =>
      intro w1_7 w2_7 w3_7 hJ
      rw [L_X6_lineShownMost_7] at hJ
      cases hJ
    | succ n ih =>
      intro w1_7 w2_7 w3_7 hJ
      rw [L_X6_lineShownMost_7] at hJ
      obtain ⟨r_7, hr_7, hJ⟩ := zlet_e hJ
      have ih7 : ∀ (w1_7 : Int32) (w2_7 : Int32) (w3_7 : Int32), r_7 w1_7 w2_7 w3_7 = some r → zU G 4 p l e (zrm 0 0) s m args below meth c (MQ below (va_Qi (fun x (_ : Unit) => x = r) (fun _ t => zok G 137 (zen G σ) t) (zA G)) args s 0 0 (zA G)) σ 7 [(0, .ref (G.1 + 89)), (1, .int w1_7), (2, .int w2_7), (3, .int w3_7)] [] := by
        rw [hr_7]
        exact ih
      refine zr_iload_n C 3 dX6_lineShownMost_7 rfl ?_
      refine zr_bipush C dX6_lineShownMost_8 (v := (16 : Int32)) (by decide) ?_
      refine zr_icmp_ge C 38 dX6_lineShownMost_10 (by decide) (fun hc1 => ?_) (fun hc1 => ?_)
      · have hJ := zif hc1 hJ
        refine zr_iload_n C 1 dX6_lineShownMost_38 rfl ?_
        exact zr_iret C hret (zs_e hJ) rfl rfl dX6_lineShownMost_39
      · have hJ := zif' hc1 hJ
        refine zr_aload_n C 0 dX6_lineShownMost_13 rfl ?_
        refine zg_6_0 C 89 zk_89 zm_6_1 dX6_lineShownMost_14 ?_
        refine zr_iload_n C 3 dX6_lineShownMost_17 rfl ?_
        obtain ⟨hg2, hJ⟩ := zg_e hJ
        refine zu_iald C 90 zk_90 hg2 dX6_lineShownMost_18 ?_
        refine zr_iload_n C 2 dX6_lineShownMost_19 rfl ?_
        refine zr_icmp_le C 32 dX6_lineShownMost_20 (by decide) (fun hc3 => ?_) (fun hc3 => ?_)
        · have hJ := zif hc3 hJ
          obtain ⟨v4, hv4, hJ⟩ := zlet_e hJ
          refine zr_iinc C v4 3 [(3, .int v4), (0, .ref (G.1 + 89)), (1, .int w1_7), (2, .int w2_7)] dX6_lineShownMost_32 rfl (hv4.trans (zinc (by decide))) (by decide) rfl ?_
          refine zr_goto C 7 dX6_lineShownMost_35 (by decide) ?_
          refine zr_sub [1, 2, 3, 0] [(0, .ref (G.1 + 89)), (1, .int w1_7), (2, .int w2_7), (3, .int v4)] rfl ?_
          exact ih7 _ _ _ hJ
        · have hJ := zif' hc3 hJ
          refine zr_iload_n C 3 dX6_lineShownMost_23 rfl ?_
          refine zr_istore_n C [(1, .int w3_7), (0, .ref (G.1 + 89)), (2, .int w2_7), (3, .int w3_7)] dX6_lineShownMost_24 (by decide) rfl ?_
          refine zr_aload_n C 1 dX6_lineShownMost_25 rfl ?_
          refine zg_6_0 C 89 zk_89 zm_6_1 dX6_lineShownMost_26 ?_
          refine zr_iload_n C 3 dX6_lineShownMost_29 rfl ?_
          obtain ⟨hg5, hJ⟩ := zg_e hJ
          refine zu_iald C 90 zk_90 hg5 dX6_lineShownMost_30 ?_
          obtain ⟨v6, hv6, hJ⟩ := zlet_e hJ
          refine zr_topi hv6 ?_
          refine zr_istore_n C [(2, .int v6), (1, .int w3_7), (0, .ref (G.1 + 89)), (3, .int w3_7)] dX6_lineShownMost_31 (by decide) rfl ?_
          obtain ⟨v7, hv7, hJ⟩ := zlet_e hJ
          refine zr_iinc C v7 3 [(3, .int v7), (2, .int v6), (1, .int w3_7), (0, .ref (G.1 + 89))] dX6_lineShownMost_32 rfl (hv7.trans (zinc (by decide))) (by decide) rfl ?_
          refine zr_goto C 7 dX6_lineShownMost_35 (by decide) ?_
          refine zr_sub [3, 2, 1, 0] [(0, .ref (G.1 + 89)), (1, .int w3_7), (2, .int v6), (3, .int v7)] rfl ?_
          exact ih7 _ _ _ hJ
  refine zr_sub [3, 2, 1, 0] [(0, .ref (G.1 + 89)), (1, .int (-4 : Int32)), (2, .int (0 : Int32)), (3, .int (0 : Int32))] rfl ?_
  exact hl7 _ _ _ _ hJ
theorem dX10_samples_0 : decode cX10_samples 0 = .ok (.iload_n 1, 1) := by decide +kernel
theorem dX10_samples_1 : decode cX10_samples 1 = .ok (.iload_n 2, 1) := by decide +kernel
theorem dX10_samples_2 : decode cX10_samples 2 = .ok (.iload_n 3, 1) := by decide +kernel
theorem dX10_samples_3 : decode cX10_samples 3 = .ok (.iload 4, 2) := by decide +kernel
theorem dX10_samples_5 : decode cX10_samples 5 = .ok (.invokestatic 279, 3) := by decide +kernel
theorem dX10_samples_8 : decode cX10_samples 8 = .ok (.ifCond .eq 14, 3) := by decide +kernel
theorem dX10_samples_11 : decode cX10_samples 11 = .ok (.iload 5, 2) := by decide +kernel
theorem dX10_samples_13 : decode cX10_samples 13 = .ok (.ifCond .lt 9, 3) := by decide +kernel
theorem dX10_samples_16 : decode cX10_samples 16 = .ok (.iload 5, 2) := by decide +kernel
theorem dX10_samples_18 : decode cX10_samples 18 = .ok (.iconst 5, 1) := by decide +kernel
theorem dX10_samples_19 : decode cX10_samples 19 = .ok (.if_icmp .le 5, 3) := by decide +kernel
theorem dX10_samples_22 : decode cX10_samples 22 = .ok (.iconst (-1), 1) := by decide +kernel
theorem dX10_samples_23 : decode cX10_samples 23 = .ok (.ireturn, 1) := by decide +kernel
theorem dX10_samples_24 : decode cX10_samples 24 = .ok (.aload_n 0, 1) := by decide +kernel
theorem dX10_samples_25 : decode cX10_samples 25 = .ok (.getfield 59, 3) := by decide +kernel
theorem dX10_samples_28 : decode cX10_samples 28 = .ok (.aload_n 0, 1) := by decide +kernel
theorem dX10_samples_29 : decode cX10_samples 29 = .ok (.getfield 19, 3) := by decide +kernel
theorem dX10_samples_32 : decode cX10_samples 32 = .ok (.iload_n 1, 1) := by decide +kernel
theorem dX10_samples_33 : decode cX10_samples 33 = .ok (.iload_n 2, 1) := by decide +kernel
theorem dX10_samples_34 : decode cX10_samples 34 = .ok (.iload_n 3, 1) := by decide +kernel
theorem dX10_samples_35 : decode cX10_samples 35 = .ok (.iload 4, 2) := by decide +kernel
theorem dX10_samples_37 : decode cX10_samples 37 = .ok (.invokevirtual 283, 3) := by decide +kernel
theorem dX10_samples_40 : decode cX10_samples 40 = .ok (.iload 5, 2) := by decide +kernel
theorem dX10_samples_42 : decode cX10_samples 42 = .ok (.tableswitch 104 0 4 #[34, 50, 58, 66, 85], 34) := by decide +kernel
theorem dX10_samples_76 : decode cX10_samples 76 = .ok (.aload_n 0, 1) := by decide +kernel
theorem dX10_samples_77 : decode cX10_samples 77 = .ok (.getfield 59, 3) := by decide +kernel
theorem dX10_samples_80 : decode cX10_samples 80 = .ok (.getfield 287, 3) := by decide +kernel
theorem dX10_samples_83 : decode cX10_samples 83 = .ok (.aload_n 0, 1) := by decide +kernel
theorem dX10_samples_84 : decode cX10_samples 84 = .ok (.getfield 59, 3) := by decide +kernel
theorem dX10_samples_87 : decode cX10_samples 87 = .ok (.getfield 290, 3) := by decide +kernel
theorem dX10_samples_90 : decode cX10_samples 90 = .ok (.iadd, 1) := by decide +kernel
theorem dX10_samples_91 : decode cX10_samples 91 = .ok (.ireturn, 1) := by decide +kernel
theorem dX10_samples_92 : decode cX10_samples 92 = .ok (.aload_n 0, 1) := by decide +kernel
theorem dX10_samples_93 : decode cX10_samples 93 = .ok (.getfield 59, 3) := by decide +kernel
theorem dX10_samples_96 : decode cX10_samples 96 = .ok (.getfield 287, 3) := by decide +kernel
theorem dX10_samples_99 : decode cX10_samples 99 = .ok (.ireturn, 1) := by decide +kernel
theorem dX10_samples_100 : decode cX10_samples 100 = .ok (.aload_n 0, 1) := by decide +kernel
theorem dX10_samples_101 : decode cX10_samples 101 = .ok (.getfield 59, 3) := by decide +kernel
theorem dX10_samples_104 : decode cX10_samples 104 = .ok (.invokevirtual 293, 3) := by decide +kernel
theorem dX10_samples_107 : decode cX10_samples 107 = .ok (.ireturn, 1) := by decide +kernel
theorem dX10_samples_108 : decode cX10_samples 108 = .ok (.aload_n 0, 1) := by decide +kernel
theorem dX10_samples_109 : decode cX10_samples 109 = .ok (.getfield 19, 3) := by decide +kernel
theorem dX10_samples_112 : decode cX10_samples 112 = .ok (.iload_n 1, 1) := by decide +kernel
theorem dX10_samples_113 : decode cX10_samples 113 = .ok (.invokevirtual 296, 3) := by decide +kernel
theorem dX10_samples_116 : decode cX10_samples 116 = .ok (.aload_n 0, 1) := by decide +kernel
theorem dX10_samples_117 : decode cX10_samples 117 = .ok (.getfield 59, 3) := by decide +kernel
theorem dX10_samples_120 : decode cX10_samples 120 = .ok (.invokevirtual 293, 3) := by decide +kernel
theorem dX10_samples_123 : decode cX10_samples 123 = .ok (.iconst (-1), 1) := by decide +kernel
theorem dX10_samples_124 : decode cX10_samples 124 = .ok (.ixor, 1) := by decide +kernel
theorem dX10_samples_125 : decode cX10_samples 125 = .ok (.iand, 1) := by decide +kernel
theorem dX10_samples_126 : decode cX10_samples 126 = .ok (.ireturn, 1) := by decide +kernel
theorem dX10_samples_127 : decode cX10_samples 127 = .ok (.aload_n 0, 1) := by decide +kernel
theorem dX10_samples_128 : decode cX10_samples 128 = .ok (.getfield 59, 3) := by decide +kernel
theorem dX10_samples_131 : decode cX10_samples 131 = .ok (.invokevirtual 293, 3) := by decide +kernel
theorem dX10_samples_134 : decode cX10_samples 134 = .ok (.aload_n 0, 1) := by decide +kernel
theorem dX10_samples_135 : decode cX10_samples 135 = .ok (.getfield 19, 3) := by decide +kernel
theorem dX10_samples_138 : decode cX10_samples 138 = .ok (.iload_n 1, 1) := by decide +kernel
theorem dX10_samples_139 : decode cX10_samples 139 = .ok (.invokevirtual 296, 3) := by decide +kernel
theorem dX10_samples_142 : decode cX10_samples 142 = .ok (.iconst (-1), 1) := by decide +kernel
theorem dX10_samples_143 : decode cX10_samples 143 = .ok (.ixor, 1) := by decide +kernel
theorem dX10_samples_144 : decode cX10_samples 144 = .ok (.iand, 1) := by decide +kernel
theorem dX10_samples_145 : decode cX10_samples 145 = .ok (.ireturn, 1) := by decide +kernel
theorem dX10_samples_146 : decode cX10_samples 146 = .ok (.aload_n 0, 1) := by decide +kernel
theorem dX10_samples_147 : decode cX10_samples 147 = .ok (.getfield 59, 3) := by decide +kernel
theorem dX10_samples_150 : decode cX10_samples 150 = .ok (.invokevirtual 299, 3) := by decide +kernel
theorem dX10_samples_153 : decode cX10_samples 153 = .ok (.ireturn, 1) := by decide +kernel
set_option maxRecDepth 100000 in
set_option maxHeartbeats 4000000 in
theorem M_X10_samples (G : zG) (l : Launch) {a1 : Int32} {a2 : Int32} {a3 : Int32} {a4 : Int32} {a5 : Int32} {σ : zS} {r : Int32} {σ' : zS} (hJ : J_X10_samples a1 a2 a3 a4 a5 σ = some (r, σ')) : zMI G l yX10_samples cX10_samples 6 (some .int) (zrm 2 50) [.ref (G.1 + 0), .int a1, .int a2, .int a3, .int a4, .int a5] 137 (zen G σ) r 137 (zen G σ') := by
  unfold J_X10_samples at hJ
  refine zentI (by decide +kernel) (Nat.le_of_ble_eq_true rfl) ?_
  intro p e s m args below meth c C hret
  refine zr_sub [0, 1, 2, 3, 4, 5] [(0, .ref (G.1 + 0)), (1, .int a1), (2, .int a2), (3, .int a3), (4, .int a4), (5, .int a5)] rfl ?_
  refine zr_iload_n C 1 dX10_samples_0 rfl ?_
  refine zr_iload_n C 2 dX10_samples_1 rfl ?_
  refine zr_iload_n C 3 dX10_samples_2 rfl ?_
  refine zr_iload C 4 dX10_samples_3 rfl ?_
  obtain ⟨r1, hr1, hJ⟩ := zb_e hJ
  refine zr_callSI C (M_X10_areSamples G l hr1) zin_X10_areSamples zm_37_13 rfl rfl (Nat.le_of_ble_eq_true rfl) ⟨Nat.le_of_ble_eq_true rfl, Nat.le_of_ble_eq_true rfl⟩ ⟨Nat.le_of_ble_eq_true rfl, Nat.le_of_ble_eq_true rfl⟩ dX10_samples_5 ?_
  refine zr_if_eq C 22 dX10_samples_8 (by decide) (fun hc2 => ?_) (fun hc2 => ?_)
  · have hJ := zif hc2 hJ
    refine zr_iconst C dX10_samples_22 (v := (-1 : Int32)) (by decide) ?_
    exact zr_iret C hret (Prod.mk.inj (zs_e hJ)).1 rfl (congrArg (zen G) (Prod.mk.inj (zs_e hJ)).2) dX10_samples_23
  · have hJ := zif' hc2 hJ
    refine zr_iload C 5 dX10_samples_11 rfl ?_
    refine zr_if_lt C 22 dX10_samples_13 (by decide) (fun hc3 => ?_) (fun hc3 => ?_)
    · have hJ := zif hc3 hJ
      refine zr_iconst C dX10_samples_22 (v := (-1 : Int32)) (by decide) ?_
      exact zr_iret C hret (Prod.mk.inj (zs_e hJ)).1 rfl (congrArg (zen G) (Prod.mk.inj (zs_e hJ)).2) dX10_samples_23
    · have hJ := zif' hc3 hJ
      refine zr_iload C 5 dX10_samples_16 rfl ?_
      refine zr_iconst C dX10_samples_18 (v := (5 : Int32)) (by decide) ?_
      refine zr_icmp_le C 24 dX10_samples_19 (by decide) (fun hc4 => ?_) (fun hc4 => ?_)
      · have hJ := zif hc4 hJ
        refine zr_aload_n C 0 dX10_samples_24 rfl ?_
        refine zg_10_7 C 0 zk_0 zm_2_17 dX10_samples_25 ?_
        refine zr_aload_n C 0 dX10_samples_28 rfl ?_
        obtain ⟨p5, hp5, hJ⟩ := zlet_e hJ
        obtain ⟨hp6, hJ⟩ := zg_e hJ
        refine zg_10_1 C 0 zk_0 zm_1_20 dX10_samples_29 ?_
        refine zr_topr hp5 ?_
        refine zr_iload_n C 1 dX10_samples_32 rfl ?_
        refine zr_iload_n C 2 dX10_samples_33 rfl ?_
        refine zr_iload_n C 3 dX10_samples_34 rfl ?_
        refine zr_iload C 4 dX10_samples_35 rfl ?_
        obtain ⟨σ8, hr7, hJ⟩ := zb_e hJ
        refine zr_callVV C 89 (zk_lt zk_89 (by decide)) (zen_obj zk_89) (rfl : zcl[6]? = some (RX6, TX6, 3)) (M_X6_take G l hp6 hr7) zin_X6_take zm_37_16 rfl rfl (Nat.le_of_ble_eq_true rfl) ⟨Nat.le_of_ble_eq_true rfl, Nat.le_of_ble_eq_true rfl⟩ ⟨Nat.le_of_ble_eq_true rfl, Nat.le_of_ble_eq_true rfl⟩ dX10_samples_37 ?_
        refine zr_iload C 5 dX10_samples_40 rfl ?_
        by_cases hs9 : a5 = (0 : Int32)
        · have hJ := zif hs9 hJ
          refine zr_tin C 76 dX10_samples_42 (by rw [hs9]; decide) (by rw [hs9]; decide) (by rw [hs9]; rfl) (by decide) ?_
          refine zr_aload_n C 0 dX10_samples_76 rfl ?_
          refine zg_10_7 C 0 zk_0 zm_2_17 dX10_samples_77 ?_
          refine zg_6_2 C 89 zk_89 zm_38_22 dX10_samples_80 ?_
          refine zr_aload_n C 0 dX10_samples_83 rfl ?_
          refine zg_10_7 C 0 zk_0 zm_2_17 dX10_samples_84 ?_
          refine zg_6_1 C 89 zk_89 zm_38_23 dX10_samples_87 ?_
          refine zr_iadd C dX10_samples_90 ?_
          exact zr_iret C hret (Prod.mk.inj (zs_e hJ)).1 rfl (congrArg (zen G) (Prod.mk.inj (zs_e hJ)).2) dX10_samples_91
        have hJ := zif' hs9 hJ
        by_cases hs10 : a5 = (1 : Int32)
        · have hJ := zif hs10 hJ
          refine zr_tin C 92 dX10_samples_42 (by rw [hs10]; decide) (by rw [hs10]; decide) (by rw [hs10]; rfl) (by decide) ?_
          refine zr_aload_n C 0 dX10_samples_92 rfl ?_
          refine zg_10_7 C 0 zk_0 zm_2_17 dX10_samples_93 ?_
          refine zg_6_2 C 89 zk_89 zm_38_22 dX10_samples_96 ?_
          exact zr_iret C hret (Prod.mk.inj (zs_e hJ)).1 rfl (congrArg (zen G) (Prod.mk.inj (zs_e hJ)).2) dX10_samples_99
        have hJ := zif' hs10 hJ
        by_cases hs11 : a5 = (2 : Int32)
        · have hJ := zif hs11 hJ
          refine zr_tin C 100 dX10_samples_42 (by rw [hs11]; decide) (by rw [hs11]; decide) (by rw [hs11]; rfl) (by decide) ?_
          refine zr_aload_n C 0 dX10_samples_100 rfl ?_
          refine zg_10_7 C 0 zk_0 zm_2_17 dX10_samples_101 ?_
          obtain ⟨r12, hr12, hJ⟩ := zb_e hJ
          refine zr_callVI C 89 (zk_lt zk_89 (by decide)) (zen_obj zk_89) (rfl : zcl[6]? = some (RX6, TX6, 3)) (M_X6_linesShown G l hr12) zin_X6_linesShown zm_39_0 rfl rfl (Nat.le_of_ble_eq_true rfl) ⟨Nat.le_of_ble_eq_true rfl, Nat.le_of_ble_eq_true rfl⟩ ⟨Nat.le_of_ble_eq_true rfl, Nat.le_of_ble_eq_true rfl⟩ dX10_samples_104 ?_
          exact zr_iret C hret (Prod.mk.inj (zs_e hJ)).1 rfl (congrArg (zen G) (Prod.mk.inj (zs_e hJ)).2) dX10_samples_107
        have hJ := zif' hs11 hJ
        by_cases hs13 : a5 = (3 : Int32)
        · have hJ := zif hs13 hJ
          refine zr_tin C 108 dX10_samples_42 (by rw [hs13]; decide) (by rw [hs13]; decide) (by rw [hs13]; rfl) (by decide) ?_
          refine zr_aload_n C 0 dX10_samples_108 rfl ?_
          obtain ⟨p14, hp14, hJ⟩ := zlet_e hJ
          obtain ⟨hp15, hJ⟩ := zg_e hJ
          refine zg_10_1 C 0 zk_0 zm_1_20 dX10_samples_109 ?_
          refine zr_topr hp14 ?_
          refine zr_iload_n C 1 dX10_samples_112 rfl ?_
          obtain ⟨r16, hr16, hJ⟩ := zb_e hJ
          refine zr_callVI C p14 (zk_lt (zkP_0 hp15) (by decide)) (zen_obj (zkP_0 hp15)) (rfl : zcl[3]? = some (RX3, TX3, 19)) (M_X3_linesThatMake G l hp15 hr16) zin_X3_linesThatMake zm_39_4 rfl rfl (Nat.le_of_ble_eq_true rfl) ⟨Nat.le_of_ble_eq_true rfl, Nat.le_of_ble_eq_true rfl⟩ ⟨Nat.le_of_ble_eq_true rfl, Nat.le_of_ble_eq_true rfl⟩ dX10_samples_113 ?_
          refine zr_aload_n C 0 dX10_samples_116 rfl ?_
          refine zg_10_7 C 0 zk_0 zm_2_17 dX10_samples_117 ?_
          obtain ⟨r17, hr17, hJ⟩ := zb_e hJ
          refine zr_callVI C 89 (zk_lt zk_89 (by decide)) (zen_obj zk_89) (rfl : zcl[6]? = some (RX6, TX6, 3)) (M_X6_linesShown G l hr17) zin_X6_linesShown zm_39_0 rfl rfl (Nat.le_of_ble_eq_true rfl) ⟨Nat.le_of_ble_eq_true rfl, Nat.le_of_ble_eq_true rfl⟩ ⟨Nat.le_of_ble_eq_true rfl, Nat.le_of_ble_eq_true rfl⟩ dX10_samples_120 ?_
          refine zr_iconst C dX10_samples_123 (v := (-1 : Int32)) (by decide) ?_
          refine zr_ixor C dX10_samples_124 ?_
          refine zr_iand C dX10_samples_125 ?_
          exact zr_iret C hret (Prod.mk.inj (zs_e hJ)).1 rfl (congrArg (zen G) (Prod.mk.inj (zs_e hJ)).2) dX10_samples_126
        have hJ := zif' hs13 hJ
        by_cases hs18 : a5 = (4 : Int32)
        · have hJ := zif hs18 hJ
          refine zr_tin C 127 dX10_samples_42 (by rw [hs18]; decide) (by rw [hs18]; decide) (by rw [hs18]; rfl) (by decide) ?_
          refine zr_aload_n C 0 dX10_samples_127 rfl ?_
          refine zg_10_7 C 0 zk_0 zm_2_17 dX10_samples_128 ?_
          obtain ⟨r19, hr19, hJ⟩ := zb_e hJ
          refine zr_callVI C 89 (zk_lt zk_89 (by decide)) (zen_obj zk_89) (rfl : zcl[6]? = some (RX6, TX6, 3)) (M_X6_linesShown G l hr19) zin_X6_linesShown zm_39_0 rfl rfl (Nat.le_of_ble_eq_true rfl) ⟨Nat.le_of_ble_eq_true rfl, Nat.le_of_ble_eq_true rfl⟩ ⟨Nat.le_of_ble_eq_true rfl, Nat.le_of_ble_eq_true rfl⟩ dX10_samples_131 ?_
          refine zr_aload_n C 0 dX10_samples_134 rfl ?_
          obtain ⟨p20, hp20, hJ⟩ := zlet_e hJ
          obtain ⟨hp21, hJ⟩ := zg_e hJ
          refine zg_10_1 C 0 zk_0 zm_1_20 dX10_samples_135 ?_
          refine zr_topr hp20 ?_
          refine zr_iload_n C 1 dX10_samples_138 rfl ?_
          obtain ⟨r22, hr22, hJ⟩ := zb_e hJ
          refine zr_callVI C p20 (zk_lt (zkP_0 hp21) (by decide)) (zen_obj (zkP_0 hp21)) (rfl : zcl[3]? = some (RX3, TX3, 19)) (M_X3_linesThatMake G l hp21 hr22) zin_X3_linesThatMake zm_39_4 rfl rfl (Nat.le_of_ble_eq_true rfl) ⟨Nat.le_of_ble_eq_true rfl, Nat.le_of_ble_eq_true rfl⟩ ⟨Nat.le_of_ble_eq_true rfl, Nat.le_of_ble_eq_true rfl⟩ dX10_samples_139 ?_
          refine zr_iconst C dX10_samples_142 (v := (-1 : Int32)) (by decide) ?_
          refine zr_ixor C dX10_samples_143 ?_
          refine zr_iand C dX10_samples_144 ?_
          exact zr_iret C hret (Prod.mk.inj (zs_e hJ)).1 rfl (congrArg (zen G) (Prod.mk.inj (zs_e hJ)).2) dX10_samples_145
        have hJ := zif' hs18 hJ
        refine zr_tout C 146 dX10_samples_42 (by have ghs9 := lv_neT hs9 (show ((0 : Int32)).toInt = 0 by decide); have ghs10 := lv_neT hs10 (show ((1 : Int32)).toInt = 1 by decide); have ghs11 := lv_neT hs11 (show ((2 : Int32)).toInt = 2 by decide); have ghs13 := lv_neT hs13 (show ((3 : Int32)).toInt = 3 by decide); have ghs18 := lv_neT hs18 (show ((4 : Int32)).toInt = 4 by decide); omega) (by decide) ?_
        refine zr_aload_n C 0 dX10_samples_146 rfl ?_
        refine zg_10_7 C 0 zk_0 zm_2_17 dX10_samples_147 ?_
        obtain ⟨r23, hr23, hJ⟩ := zb_e hJ
        refine zr_callVI C 89 (zk_lt zk_89 (by decide)) (zen_obj zk_89) (rfl : zcl[6]? = some (RX6, TX6, 3)) (M_X6_lineShownMost G l hr23) zin_X6_lineShownMost zm_39_8 rfl rfl (Nat.le_of_ble_eq_true rfl) ⟨Nat.le_of_ble_eq_true rfl, Nat.le_of_ble_eq_true rfl⟩ ⟨Nat.le_of_ble_eq_true rfl, Nat.le_of_ble_eq_true rfl⟩ dX10_samples_150 ?_
        exact zr_iret C hret (Prod.mk.inj (zs_e hJ)).1 rfl (congrArg (zen G) (Prod.mk.inj (zs_e hJ)).2) dX10_samples_153
      · have hJ := zif' hc4 hJ
        refine zr_iconst C dX10_samples_22 (v := (-1 : Int32)) (by decide) ?_
        exact zr_iret C hret (Prod.mk.inj (zs_e hJ)).1 rfl (congrArg (zen G) (Prod.mk.inj (zs_e hJ)).2) dX10_samples_23
theorem dX10_scaled_0 : decode cX10_scaled 0 = .ok (.iload_n 3, 1) := by decide +kernel
theorem dX10_scaled_1 : decode cX10_scaled 1 = .ok (.iload_n 1, 1) := by decide +kernel
theorem dX10_scaled_2 : decode cX10_scaled 2 = .ok (.invokestatic 228, 3) := by decide +kernel
theorem dX10_scaled_5 : decode cX10_scaled 5 = .ok (.ifCond .eq 21, 3) := by decide +kernel
theorem dX10_scaled_8 : decode cX10_scaled 8 = .ok (.iload_n 2, 1) := by decide +kernel
theorem dX10_scaled_9 : decode cX10_scaled 9 = .ok (.invokestatic 240, 3) := by decide +kernel
theorem dX10_scaled_12 : decode cX10_scaled 12 = .ok (.ifCond .eq 14, 3) := by decide +kernel
theorem dX10_scaled_15 : decode cX10_scaled 15 = .ok (.iload 4, 2) := by decide +kernel
theorem dX10_scaled_17 : decode cX10_scaled 17 = .ok (.ifCond .lt 9, 3) := by decide +kernel
theorem dX10_scaled_20 : decode cX10_scaled 20 = .ok (.iload 4, 2) := by decide +kernel
theorem dX10_scaled_22 : decode cX10_scaled 22 = .ok (.iconst 3, 1) := by decide +kernel
theorem dX10_scaled_23 : decode cX10_scaled 23 = .ok (.if_icmp .le 7, 3) := by decide +kernel
theorem dX10_scaled_26 : decode cX10_scaled 26 = .ok (.ldc2_w 254, 3) := by decide +kernel
theorem dX10_scaled_29 : decode cX10_scaled 29 = .ok (.lreturn, 1) := by decide +kernel
theorem dX10_scaled_30 : decode cX10_scaled 30 = .ok (.aload_n 0, 1) := by decide +kernel
theorem dX10_scaled_31 : decode cX10_scaled 31 = .ok (.getfield 45, 3) := by decide +kernel
theorem dX10_scaled_34 : decode cX10_scaled 34 = .ok (.iload_n 1, 1) := by decide +kernel
theorem dX10_scaled_35 : decode cX10_scaled 35 = .ok (.invokevirtual 234, 3) := by decide +kernel
theorem dX10_scaled_38 : decode cX10_scaled 38 = .ok (.istore 5, 2) := by decide +kernel
theorem dX10_scaled_40 : decode cX10_scaled 40 = .ok (.iload 5, 2) := by decide +kernel
theorem dX10_scaled_42 : decode cX10_scaled 42 = .ok (.iconst 1, 1) := by decide +kernel
theorem dX10_scaled_43 : decode cX10_scaled 43 = .ok (.if_icmp .ge 7, 3) := by decide +kernel
theorem dX10_scaled_46 : decode cX10_scaled 46 = .ok (.ldc2_w 256, 3) := by decide +kernel
theorem dX10_scaled_49 : decode cX10_scaled 49 = .ok (.lreturn, 1) := by decide +kernel
theorem dX10_scaled_50 : decode cX10_scaled 50 = .ok (.aload_n 0, 1) := by decide +kernel
theorem dX10_scaled_51 : decode cX10_scaled 51 = .ok (.getfield 52, 3) := by decide +kernel
theorem dX10_scaled_54 : decode cX10_scaled 54 = .ok (.aload_n 0, 1) := by decide +kernel
theorem dX10_scaled_55 : decode cX10_scaled 55 = .ok (.getfield 19, 3) := by decide +kernel
theorem dX10_scaled_58 : decode cX10_scaled 58 = .ok (.iload_n 2, 1) := by decide +kernel
theorem dX10_scaled_59 : decode cX10_scaled 59 = .ok (.iload 5, 2) := by decide +kernel
theorem dX10_scaled_61 : decode cX10_scaled 61 = .ok (.aload_n 0, 1) := by decide +kernel
theorem dX10_scaled_62 : decode cX10_scaled 62 = .ok (.getfield 45, 3) := by decide +kernel
theorem dX10_scaled_65 : decode cX10_scaled 65 = .ok (.iload_n 3, 1) := by decide +kernel
theorem dX10_scaled_66 : decode cX10_scaled 66 = .ok (.iload 5, 2) := by decide +kernel
theorem dX10_scaled_68 : decode cX10_scaled 68 = .ok (.invokevirtual 243, 3) := by decide +kernel
theorem dX10_scaled_71 : decode cX10_scaled 71 = .ok (.iload_n 3, 1) := by decide +kernel
theorem dX10_scaled_72 : decode cX10_scaled 72 = .ok (.invokevirtual 246, 3) := by decide +kernel
theorem dX10_scaled_75 : decode cX10_scaled 75 = .ok (.aload_n 0, 1) := by decide +kernel
theorem dX10_scaled_76 : decode cX10_scaled 76 = .ok (.getfield 52, 3) := by decide +kernel
theorem dX10_scaled_79 : decode cX10_scaled 79 = .ok (.getfield 252, 3) := by decide +kernel
theorem dX10_scaled_82 : decode cX10_scaled 82 = .ok (.iconst 1, 1) := by decide +kernel
theorem dX10_scaled_83 : decode cX10_scaled 83 = .ok (.if_icmp .ge 7, 3) := by decide +kernel
theorem dX10_scaled_86 : decode cX10_scaled 86 = .ok (.ldc2_w 256, 3) := by decide +kernel
theorem dX10_scaled_89 : decode cX10_scaled 89 = .ok (.lreturn, 1) := by decide +kernel
theorem dX10_scaled_90 : decode cX10_scaled 90 = .ok (.iload 4, 2) := by decide +kernel
theorem dX10_scaled_92 : decode cX10_scaled 92 = .ok (.iconst 2, 1) := by decide +kernel
theorem dX10_scaled_93 : decode cX10_scaled 93 = .ok (.if_icmp .ge 17, 3) := by decide +kernel
theorem dX10_scaled_96 : decode cX10_scaled 96 = .ok (.aload_n 0, 1) := by decide +kernel
theorem dX10_scaled_97 : decode cX10_scaled 97 = .ok (.getfield 52, 3) := by decide +kernel
theorem dX10_scaled_100 : decode cX10_scaled 100 = .ok (.aload_n 0, 1) := by decide +kernel
theorem dX10_scaled_101 : decode cX10_scaled 101 = .ok (.getfield 19, 3) := by decide +kernel
theorem dX10_scaled_104 : decode cX10_scaled 104 = .ok (.invokevirtual 258, 3) := by decide +kernel
theorem dX10_scaled_107 : decode cX10_scaled 107 = .ok (.goto 15, 3) := by decide +kernel
theorem dX10_scaled_110 : decode cX10_scaled 110 = .ok (.aload_n 0, 1) := by decide +kernel
theorem dX10_scaled_111 : decode cX10_scaled 111 = .ok (.getfield 52, 3) := by decide +kernel
theorem dX10_scaled_114 : decode cX10_scaled 114 = .ok (.aload_n 0, 1) := by decide +kernel
theorem dX10_scaled_115 : decode cX10_scaled 115 = .ok (.getfield 19, 3) := by decide +kernel
theorem dX10_scaled_118 : decode cX10_scaled 118 = .ok (.iload_n 3, 1) := by decide +kernel
theorem dX10_scaled_119 : decode cX10_scaled 119 = .ok (.invokevirtual 262, 3) := by decide +kernel
theorem dX10_scaled_122 : decode cX10_scaled 122 = .ok (.lstore 6, 2) := by decide +kernel
theorem dX10_scaled_124 : decode cX10_scaled 124 = .ok (.lload 6, 2) := by decide +kernel
theorem dX10_scaled_126 : decode cX10_scaled 126 = .ok (.aload_n 0, 1) := by decide +kernel
theorem dX10_scaled_127 : decode cX10_scaled 127 = .ok (.getfield 52, 3) := by decide +kernel
theorem dX10_scaled_130 : decode cX10_scaled 130 = .ok (.getfield 252, 3) := by decide +kernel
theorem dX10_scaled_133 : decode cX10_scaled 133 = .ok (.i2l, 1) := by decide +kernel
theorem dX10_scaled_134 : decode cX10_scaled 134 = .ok (.iload 4, 2) := by decide +kernel
theorem dX10_scaled_136 : decode cX10_scaled 136 = .ok (.iconst 2, 1) := by decide +kernel
theorem dX10_scaled_137 : decode cX10_scaled 137 = .ok (.irem, 1) := by decide +kernel
theorem dX10_scaled_138 : decode cX10_scaled 138 = .ok (.ifCond .ne 7, 3) := by decide +kernel
theorem dX10_scaled_141 : decode cX10_scaled 141 = .ok (.iconst 1, 1) := by decide +kernel
theorem dX10_scaled_142 : decode cX10_scaled 142 = .ok (.goto 4, 3) := by decide +kernel
theorem dX10_scaled_145 : decode cX10_scaled 145 = .ok (.iconst 0, 1) := by decide +kernel
theorem dX10_scaled_146 : decode cX10_scaled 146 = .ok (.invokestatic 155, 3) := by decide +kernel
theorem dX10_scaled_149 : decode cX10_scaled 149 = .ok (.lreturn, 1) := by decide +kernel
set_option maxRecDepth 100000 in
set_option maxHeartbeats 4000000 in
theorem M_X10_scaled (G : zG) (l : Launch) {a1 : Int32} {a2 : Int32} {a3 : Int32} {a4 : Int32} {σ : zS} {r : Int64} {σ' : zS} (hJ : J_X10_scaled a1 a2 a3 a4 σ = some (r, σ')) : zML G l yX10_scaled cX10_scaled 8 (some .long) (zrm 17 396) [.ref (G.1 + 0), .int a1, .int a2, .int a3, .int a4] 137 (zen G σ) r 137 (zen G σ') := by
  unfold J_X10_scaled at hJ
  refine zentL (by decide +kernel) (Nat.le_of_ble_eq_true rfl) ?_
  intro p e s m args below meth c C hret
  refine zr_sub [0, 1, 2, 3, 4] [(0, .ref (G.1 + 0)), (1, .int a1), (2, .int a2), (3, .int a3), (4, .int a4)] rfl ?_
  refine zr_iload_n C 3 dX10_scaled_0 rfl ?_
  refine zr_iload_n C 1 dX10_scaled_1 rfl ?_
  obtain ⟨r1, hr1, hJ⟩ := zb_e hJ
  refine zr_callSI C (M_X10_isOneOf G l hr1) zin_X10_isOneOf zm_32_4 rfl rfl (Nat.le_of_ble_eq_true rfl) ⟨Nat.le_of_ble_eq_true rfl, Nat.le_of_ble_eq_true rfl⟩ ⟨Nat.le_of_ble_eq_true rfl, Nat.le_of_ble_eq_true rfl⟩ dX10_scaled_2 ?_
  refine zr_if_eq C 26 dX10_scaled_5 (by decide) (fun hc2 => ?_) (fun hc2 => ?_)
  · have hJ := zif hc2 hJ
    refine zr_ldc2 C dX10_scaled_26 zm_35_21 ?_
    exact zr_lret C hret (Prod.mk.inj (zs_e hJ)).1 rfl (congrArg (zen G) (Prod.mk.inj (zs_e hJ)).2) dX10_scaled_29
  · have hJ := zif' hc2 hJ
    refine zr_iload_n C 2 dX10_scaled_8 rfl ?_
    obtain ⟨r3, hr3, hJ⟩ := zb_e hJ
    refine zr_callSI C (M_X10_isSlice G l hr3) zin_X10_isSlice zm_34_4 rfl rfl (Nat.le_of_ble_eq_true rfl) ⟨Nat.le_of_ble_eq_true rfl, Nat.le_of_ble_eq_true rfl⟩ ⟨Nat.le_of_ble_eq_true rfl, Nat.le_of_ble_eq_true rfl⟩ dX10_scaled_9 ?_
    refine zr_if_eq C 26 dX10_scaled_12 (by decide) (fun hc4 => ?_) (fun hc4 => ?_)
    · have hJ := zif hc4 hJ
      refine zr_ldc2 C dX10_scaled_26 zm_35_21 ?_
      exact zr_lret C hret (Prod.mk.inj (zs_e hJ)).1 rfl (congrArg (zen G) (Prod.mk.inj (zs_e hJ)).2) dX10_scaled_29
    · have hJ := zif' hc4 hJ
      refine zr_iload C 4 dX10_scaled_15 rfl ?_
      refine zr_if_lt C 26 dX10_scaled_17 (by decide) (fun hc5 => ?_) (fun hc5 => ?_)
      · have hJ := zif hc5 hJ
        refine zr_ldc2 C dX10_scaled_26 zm_35_21 ?_
        exact zr_lret C hret (Prod.mk.inj (zs_e hJ)).1 rfl (congrArg (zen G) (Prod.mk.inj (zs_e hJ)).2) dX10_scaled_29
      · have hJ := zif' hc5 hJ
        refine zr_iload C 4 dX10_scaled_20 rfl ?_
        refine zr_iconst C dX10_scaled_22 (v := (3 : Int32)) (by decide) ?_
        refine zr_icmp_le C 30 dX10_scaled_23 (by decide) (fun hc6 => ?_) (fun hc6 => ?_)
        · have hJ := zif hc6 hJ
          refine zr_aload_n C 0 dX10_scaled_30 rfl ?_
          refine zg_10_5 C 0 zk_0 zm_2_9 dX10_scaled_31 ?_
          refine zr_iload_n C 1 dX10_scaled_34 rfl ?_
          obtain ⟨r7, σ8, hr7, hJ⟩ := zb2_e hJ
          refine zr_callVI C 82 (zk_lt zk_82 (by decide)) (zen_obj zk_82) (rfl : zcl[0]? = some (RX0, TX0, 7)) (M_X0_divide G l hr7) zin_X0_divide zm_32_18 rfl rfl (Nat.le_of_ble_eq_true rfl) ⟨Nat.le_of_ble_eq_true rfl, Nat.le_of_ble_eq_true rfl⟩ ⟨Nat.le_of_ble_eq_true rfl, Nat.le_of_ble_eq_true rfl⟩ dX10_scaled_35 ?_
          refine zr_istore C [(5, .int r7), (0, .ref (G.1 + 0)), (1, .int a1), (2, .int a2), (3, .int a3), (4, .int a4)] dX10_scaled_38 (by decide) rfl ?_
          refine zr_iload C 0 dX10_scaled_40 rfl ?_
          refine zr_iconst C dX10_scaled_42 (v := (1 : Int32)) (by decide) ?_
          refine zr_icmp_ge C 50 dX10_scaled_43 (by decide) (fun hc9 => ?_) (fun hc9 => ?_)
          · have hJ := zif hc9 hJ
            refine zr_aload_n C 1 dX10_scaled_50 rfl ?_
            refine zg_10_6 C 0 zk_0 zm_2_13 dX10_scaled_51 ?_
            refine zr_aload_n C 1 dX10_scaled_54 rfl ?_
            obtain ⟨p10, hp10, hJ⟩ := zlet_e hJ
            obtain ⟨hp11, hJ⟩ := zg_e hJ
            refine zg_10_1 C 0 zk_0 zm_1_20 dX10_scaled_55 ?_
            refine zr_topr hp10 ?_
            refine zr_iload_n C 3 dX10_scaled_58 rfl ?_
            refine zr_iload C 0 dX10_scaled_59 rfl ?_
            refine zr_aload_n C 1 dX10_scaled_61 rfl ?_
            refine zg_10_5 C 0 zk_0 zm_2_9 dX10_scaled_62 ?_
            refine zr_iload_n C 4 dX10_scaled_65 rfl ?_
            refine zr_iload C 0 dX10_scaled_66 rfl ?_
            obtain ⟨r12, hr12, hJ⟩ := zb_e hJ
            refine zr_callVI C 82 (zk_lt zk_82 (by decide)) (zen_obj zk_82) (rfl : zcl[0]? = some (RX0, TX0, 7)) (M_X0_roundOf G l hr12) zin_X0_roundOf zm_34_7 rfl rfl (Nat.le_of_ble_eq_true rfl) ⟨Nat.le_of_ble_eq_true rfl, Nat.le_of_ble_eq_true rfl⟩ ⟨Nat.le_of_ble_eq_true rfl, Nat.le_of_ble_eq_true rfl⟩ dX10_scaled_68 ?_
            refine zr_iload_n C 4 dX10_scaled_71 rfl ?_
            obtain ⟨σ14, hr13, hJ⟩ := zb_e hJ
            refine zr_callVV C 88 (zk_lt zk_88 (by decide)) (zen_obj zk_88) (rfl : zcl[9]? = some (RX9, TX9, 2)) (M_X9_take G l hp11 hr13) zin_X9_take zm_34_11 rfl rfl (Nat.le_of_ble_eq_true rfl) ⟨Nat.le_of_ble_eq_true rfl, Nat.le_of_ble_eq_true rfl⟩ ⟨Nat.le_of_ble_eq_true rfl, Nat.le_of_ble_eq_true rfl⟩ dX10_scaled_72 ?_
            refine zr_aload_n C 1 dX10_scaled_75 rfl ?_
            refine zg_10_6 C 0 zk_0 zm_2_13 dX10_scaled_76 ?_
            refine zg_9_1 C 88 zk_88 zm_34_3 dX10_scaled_79 ?_
            refine zr_iconst C dX10_scaled_82 (v := (1 : Int32)) (by decide) ?_
            refine zr_icmp_ge C 90 dX10_scaled_83 (by decide) (fun hc15 => ?_) (fun hc15 => ?_)
            · have hJ := zif hc15 hJ
              refine zr_iload C 5 dX10_scaled_90 rfl ?_
              refine zr_iconst C dX10_scaled_92 (v := (2 : Int32)) (by decide) ?_
              obtain ⟨k122, hk122, hJ⟩ := zlet_e hJ
              have hj122 : ∀ (x0_122 : Int64), k122 x0_122 = some (r, σ') → zU G 8 p l e (zrm 17 396) s m args below meth c (MQ below (va_Ql (fun x (_ : Unit) => x = r) (fun _ t => zok G 137 (zen G σ') t) (zA G)) args s 0 0 (zA G)) σ14 122 [(0, .ref (G.1 + 0)), (4, .int a4)] [.long x0_122] := by
                intro x0_122 hJ
                rw [hk122] at hJ
                unfold D_X10_scaled_122 at hJ
                refine zr_lstore C [(6, .long x0_122), (0, .ref (G.1 + 0)), (4, .int a4)] dX10_scaled_122 (by decide) rfl ?_
                refine zr_lload C 0 dX10_scaled_124 rfl ?_
                refine zr_aload_n C 1 dX10_scaled_126 rfl ?_
                refine zg_10_6 C 0 zk_0 zm_2_13 dX10_scaled_127 ?_
                refine zg_9_1 C 88 zk_88 zm_34_3 dX10_scaled_130 ?_
                refine zr_i2l C dX10_scaled_133 ?_
                refine zr_iload C 2 dX10_scaled_134 rfl ?_
                refine zr_iconst C dX10_scaled_136 (v := (2 : Int32)) (by decide) ?_
                refine zr_irem C dX10_scaled_137 (by decide) ?_
                obtain ⟨v16, hv16, hJ⟩ := zlet_e hJ
                obtain ⟨v17, hv17, hJ⟩ := zlet_e hJ
                have hf19 : zU G 8 p l e (zrm 17 396) s m args below meth c (MQ below (va_Ql (fun x (_ : Unit) => x = r) (fun _ t => zok G 137 (zen G σ') t) (zA G)) args s 0 0 (zA G)) σ14 146 [] [.int v16, .long v17, .long x0_122] := by
                  obtain ⟨r18, hr18, hJ⟩ := zb_e hJ
                  refine zr_callSL C (M_X10_inLowestTerms G l hr18) zin_X10_inLowestTerms zm_23_10 rfl rfl (Nat.le_of_ble_eq_true rfl) ⟨Nat.le_of_ble_eq_true rfl, Nat.le_of_ble_eq_true rfl⟩ ⟨Nat.le_of_ble_eq_true rfl, Nat.le_of_ble_eq_true rfl⟩ dX10_scaled_146 ?_
                  exact zr_lret C hret (Prod.mk.inj (zs_e hJ)).1 rfl (congrArg (zen G) (Prod.mk.inj (zs_e hJ)).2) dX10_scaled_149
                refine zr_if_ne C 145 dX10_scaled_138 (by decide) (fun hc20 => ?_) (fun hc20 => ?_)
                · have hv16 := hv16.trans (if_neg hc20)
                  refine zr_iconst C dX10_scaled_145 (v := (0 : Int32)) (by decide) ?_
                  refine zr_sub [] [] rfl ?_
                  rw [hv16, hv17] at hf19
                  exact hf19
                · have hv16 := hv16.trans (if_pos hc20)
                  refine zr_iconst C dX10_scaled_141 (v := (1 : Int32)) (by decide) ?_
                  refine zr_goto C 146 dX10_scaled_142 (by decide) ?_
                  refine zr_sub [] [] rfl ?_
                  rw [hv16, hv17] at hf19
                  exact hf19
              refine zr_icmp_ge C 110 dX10_scaled_93 (by decide) (fun hc21 => ?_) (fun hc21 => ?_)
              · have hJ := zif hc21 hJ
                refine zr_aload_n C 1 dX10_scaled_110 rfl ?_
                refine zg_10_6 C 0 zk_0 zm_2_13 dX10_scaled_111 ?_
                refine zr_aload_n C 1 dX10_scaled_114 rfl ?_
                obtain ⟨p22, hp22, hJ⟩ := zlet_e hJ
                obtain ⟨hp23, hJ⟩ := zg_e hJ
                refine zg_10_1 C 0 zk_0 zm_1_20 dX10_scaled_115 ?_
                refine zr_topr hp22 ?_
                refine zr_iload_n C 4 dX10_scaled_118 rfl ?_
                obtain ⟨r24, hr24, hJ⟩ := zb_e hJ
                refine zr_callVL C 88 (zk_lt zk_88 (by decide)) (zen_obj zk_88) (rfl : zcl[9]? = some (RX9, TX9, 2)) (M_X9_off G l hp23 hr24) zin_X9_off zm_36_4 rfl rfl (Nat.le_of_ble_eq_true rfl) ⟨Nat.le_of_ble_eq_true rfl, Nat.le_of_ble_eq_true rfl⟩ ⟨Nat.le_of_ble_eq_true rfl, Nat.le_of_ble_eq_true rfl⟩ dX10_scaled_119 ?_
                refine zr_sub [1, 5] [(0, .ref (G.1 + 0)), (4, .int a4)] rfl ?_
                exact hj122 _ hJ
              · have hJ := zif' hc21 hJ
                refine zr_aload_n C 1 dX10_scaled_96 rfl ?_
                refine zg_10_6 C 0 zk_0 zm_2_13 dX10_scaled_97 ?_
                refine zr_aload_n C 1 dX10_scaled_100 rfl ?_
                obtain ⟨p25, hp25, hJ⟩ := zlet_e hJ
                obtain ⟨hp26, hJ⟩ := zg_e hJ
                refine zg_10_1 C 0 zk_0 zm_1_20 dX10_scaled_101 ?_
                refine zr_topr hp25 ?_
                obtain ⟨r27, hr27, hJ⟩ := zb_e hJ
                refine zr_callVL C 88 (zk_lt zk_88 (by decide)) (zen_obj zk_88) (rfl : zcl[9]? = some (RX9, TX9, 2)) (M_X9_scaledUp G l hp26 hr27) zin_X9_scaledUp zm_35_23 rfl rfl (Nat.le_of_ble_eq_true rfl) ⟨Nat.le_of_ble_eq_true rfl, Nat.le_of_ble_eq_true rfl⟩ ⟨Nat.le_of_ble_eq_true rfl, Nat.le_of_ble_eq_true rfl⟩ dX10_scaled_104 ?_
                refine zr_goto C 122 dX10_scaled_107 (by decide) ?_
                refine zr_sub [1, 5] [(0, .ref (G.1 + 0)), (4, .int a4)] rfl ?_
                exact hj122 _ hJ
            · have hJ := zif' hc15 hJ
              refine zr_ldc2 C dX10_scaled_86 zm_35_22 ?_
              exact zr_lret C hret (Prod.mk.inj (zs_e hJ)).1 rfl (congrArg (zen G) (Prod.mk.inj (zs_e hJ)).2) dX10_scaled_89
          · have hJ := zif' hc9 hJ
            refine zr_ldc2 C dX10_scaled_46 zm_35_22 ?_
            exact zr_lret C hret (Prod.mk.inj (zs_e hJ)).1 rfl (congrArg (zen G) (Prod.mk.inj (zs_e hJ)).2) dX10_scaled_49
        · have hJ := zif' hc6 hJ
          refine zr_ldc2 C dX10_scaled_26 zm_35_21 ?_
          exact zr_lret C hret (Prod.mk.inj (zs_e hJ)).1 rfl (congrArg (zen G) (Prod.mk.inj (zs_e hJ)).2) dX10_scaled_29
theorem dX2_loses_0 : decode cX2_loses 0 = .ok (.iconst 0, 1) := by decide +kernel
theorem dX2_loses_1 : decode cX2_loses 1 = .ok (.istore 5, 2) := by decide +kernel
theorem dX2_loses_3 : decode cX2_loses 3 = .ok (.iconst 0, 1) := by decide +kernel
theorem dX2_loses_4 : decode cX2_loses 4 = .ok (.istore 6, 2) := by decide +kernel
theorem dX2_loses_6 : decode cX2_loses 6 = .ok (.iconst 0, 1) := by decide +kernel
theorem dX2_loses_7 : decode cX2_loses 7 = .ok (.istore 7, 2) := by decide +kernel
theorem dX2_loses_9 : decode cX2_loses 9 = .ok (.iconst 0, 1) := by decide +kernel
theorem dX2_loses_10 : decode cX2_loses 10 = .ok (.istore 8, 2) := by decide +kernel
theorem dX2_loses_12 : decode cX2_loses 12 = .ok (.iload 8, 2) := by decide +kernel
theorem dX2_loses_14 : decode cX2_loses 14 = .ok (.aload_n 1, 1) := by decide +kernel
theorem dX2_loses_15 : decode cX2_loses 15 = .ok (.getfield 24, 3) := by decide +kernel
theorem dX2_loses_18 : decode cX2_loses 18 = .ok (.if_icmp .ge 81, 3) := by decide +kernel
theorem dX2_loses_21 : decode cX2_loses 21 = .ok (.aload_n 1, 1) := by decide +kernel
theorem dX2_loses_22 : decode cX2_loses 22 = .ok (.iload 8, 2) := by decide +kernel
theorem dX2_loses_24 : decode cX2_loses 24 = .ok (.iload_n 3, 1) := by decide +kernel
theorem dX2_loses_25 : decode cX2_loses 25 = .ok (.invokevirtual 29, 3) := by decide +kernel
theorem dX2_loses_28 : decode cX2_loses 28 = .ok (.istore 9, 2) := by decide +kernel
theorem dX2_loses_30 : decode cX2_loses 30 = .ok (.iload 9, 2) := by decide +kernel
theorem dX2_loses_32 : decode cX2_loses 32 = .ok (.iload 5, 2) := by decide +kernel
theorem dX2_loses_34 : decode cX2_loses 34 = .ok (.if_icmp .eq 10, 3) := by decide +kernel
theorem dX2_loses_37 : decode cX2_loses 37 = .ok (.iload 9, 2) := by decide +kernel
theorem dX2_loses_39 : decode cX2_loses 39 = .ok (.istore 5, 2) := by decide +kernel
theorem dX2_loses_41 : decode cX2_loses 41 = .ok (.iconst 0, 1) := by decide +kernel
theorem dX2_loses_42 : decode cX2_loses 42 = .ok (.istore 6, 2) := by decide +kernel
theorem dX2_loses_44 : decode cX2_loses 44 = .ok (.iload 6, 2) := by decide +kernel
theorem dX2_loses_46 : decode cX2_loses 46 = .ok (.ifCond .ne 7, 3) := by decide +kernel
theorem dX2_loses_49 : decode cX2_loses 49 = .ok (.iload 8, 2) := by decide +kernel
theorem dX2_loses_51 : decode cX2_loses 51 = .ok (.istore 7, 2) := by decide +kernel
theorem dX2_loses_53 : decode cX2_loses 53 = .ok (.iload 6, 2) := by decide +kernel
theorem dX2_loses_55 : decode cX2_loses 55 = .ok (.aload_n 1, 1) := by decide +kernel
theorem dX2_loses_56 : decode cX2_loses 56 = .ok (.getfield 33, 3) := by decide +kernel
theorem dX2_loses_59 : decode cX2_loses 59 = .ok (.aload_n 1, 1) := by decide +kernel
theorem dX2_loses_60 : decode cX2_loses 60 = .ok (.getfield 37, 3) := by decide +kernel
theorem dX2_loses_63 : decode cX2_loses 63 = .ok (.iload 8, 2) := by decide +kernel
theorem dX2_loses_65 : decode cX2_loses 65 = .ok (.baload, 1) := by decide +kernel
theorem dX2_loses_66 : decode cX2_loses 66 = .ok (.aaload, 1) := by decide +kernel
theorem dX2_loses_67 : decode cX2_loses 67 = .ok (.iload_n 2, 1) := by decide +kernel
theorem dX2_loses_68 : decode cX2_loses 68 = .ok (.iaload, 1) := by decide +kernel
theorem dX2_loses_69 : decode cX2_loses 69 = .ok (.iadd, 1) := by decide +kernel
theorem dX2_loses_70 : decode cX2_loses 70 = .ok (.istore 6, 2) := by decide +kernel
theorem dX2_loses_72 : decode cX2_loses 72 = .ok (.iload 6, 2) := by decide +kernel
theorem dX2_loses_74 : decode cX2_loses 74 = .ok (.iload 4, 2) := by decide +kernel
theorem dX2_loses_76 : decode cX2_loses 76 = .ok (.if_icmp .le 17, 3) := by decide +kernel
theorem dX2_loses_79 : decode cX2_loses 79 = .ok (.aload_n 0, 1) := by decide +kernel
theorem dX2_loses_80 : decode cX2_loses 80 = .ok (.iload 7, 2) := by decide +kernel
theorem dX2_loses_82 : decode cX2_loses 82 = .ok (.putfield 18, 3) := by decide +kernel
theorem dX2_loses_85 : decode cX2_loses 85 = .ok (.aload_n 0, 1) := by decide +kernel
theorem dX2_loses_86 : decode cX2_loses 86 = .ok (.iload 8, 2) := by decide +kernel
theorem dX2_loses_88 : decode cX2_loses 88 = .ok (.putfield 21, 3) := by decide +kernel
theorem dX2_loses_91 : decode cX2_loses 91 = .ok (.iconst 1, 1) := by decide +kernel
theorem dX2_loses_92 : decode cX2_loses 92 = .ok (.ireturn, 1) := by decide +kernel
theorem dX2_loses_93 : decode cX2_loses 93 = .ok (.iinc 8 1, 3) := by decide +kernel
theorem dX2_loses_96 : decode cX2_loses 96 = .ok (.goto (-84), 3) := by decide +kernel
theorem dX2_loses_99 : decode cX2_loses 99 = .ok (.iconst 0, 1) := by decide +kernel
theorem dX2_loses_100 : decode cX2_loses 100 = .ok (.ireturn, 1) := by decide +kernel
set_option maxRecDepth 100000 in
set_option maxHeartbeats 4000000 in
theorem M_X2_loses (G : zG) (l : Launch) {p1 : Nat} (hp1 : zP p1 = true) {a2 : Int32} {a3 : Int32} {a4 : Int32} {σ : zS} {r : Int32} {σ' : zS} (hJ : J_X2_loses p1 a2 a3 a4 σ = some (r, σ')) : zMI G l yX2_loses cX2_loses 10 (some .boolean) (zrm 1 22) [.ref (G.1 + 91), .ref (G.1 + p1), .int a2, .int a3, .int a4] 137 (zen G σ) r 137 (zen G σ') := by
  unfold J_X2_loses at hJ
  refine zentI (by decide +kernel) (Nat.le_of_ble_eq_true rfl) ?_
  intro p e s m args below meth c C hret
  refine zr_sub [0, 1, 2, 3, 4] [(0, .ref (G.1 + 91)), (1, .ref (G.1 + p1)), (2, .int a2), (3, .int a3), (4, .int a4)] rfl ?_
  refine zr_iconst C dX2_loses_0 (v := (0 : Int32)) (by decide) ?_
  refine zr_istore C [(5, .int (0 : Int32)), (0, .ref (G.1 + 91)), (1, .ref (G.1 + p1)), (2, .int a2), (3, .int a3), (4, .int a4)] dX2_loses_1 (by decide) rfl ?_
  refine zr_iconst C dX2_loses_3 (v := (0 : Int32)) (by decide) ?_
  refine zr_istore C [(6, .int (0 : Int32)), (5, .int (0 : Int32)), (0, .ref (G.1 + 91)), (1, .ref (G.1 + p1)), (2, .int a2), (3, .int a3), (4, .int a4)] dX2_loses_4 (by decide) rfl ?_
  refine zr_iconst C dX2_loses_6 (v := (0 : Int32)) (by decide) ?_
  refine zr_istore C [(7, .int (0 : Int32)), (6, .int (0 : Int32)), (5, .int (0 : Int32)), (0, .ref (G.1 + 91)), (1, .ref (G.1 + p1)), (2, .int a2), (3, .int a3), (4, .int a4)] dX2_loses_7 (by decide) rfl ?_
  refine zr_iconst C dX2_loses_9 (v := (0 : Int32)) (by decide) ?_
  refine zr_istore C [(8, .int (0 : Int32)), (7, .int (0 : Int32)), (6, .int (0 : Int32)), (5, .int (0 : Int32)), (0, .ref (G.1 + 91)), (1, .ref (G.1 + p1)), (2, .int a2), (3, .int a3), (4, .int a4)] dX2_loses_10 (by decide) rfl ?_
  obtain ⟨k79, hk79, hJ⟩ := zlet_e hJ
  have hj79 : ∀ (w7_79 : Int32) (w8_79 : Int32), k79 w7_79 w8_79 = some (r, σ') → zU G 10 p l e (zrm 1 22) s m args below meth c (MQ below (va_Qi (fun x (_ : Unit) => x = r) (fun _ t => zok G 137 (zen G σ') t) (zA G)) args s 0 0 (zA G)) σ 79 [(0, .ref (G.1 + 91)), (7, .int w7_79), (8, .int w8_79)] [] := by
    intro w7_79 w8_79 hJ
    rw [hk79] at hJ
    unfold D_X2_loses_79 at hJ
    refine zr_aload_n C 0 dX2_loses_79 rfl ?_
    refine zr_iload C 1 dX2_loses_80 rfl ?_
    obtain ⟨σ1, hσ1, hJ⟩ := zlet_e hJ
    refine zp_2_2 C 91 zk_91 zm_6_9 hσ1 dX2_loses_82 ?_
    refine zr_aload_n C 0 dX2_loses_85 rfl ?_
    refine zr_iload C 2 dX2_loses_86 rfl ?_
    obtain ⟨σ2, hσ2, hJ⟩ := zlet_e hJ
    refine zp_2_3 C 91 zk_91 zm_6_10 hσ2 dX2_loses_88 ?_
    refine zr_iconst C dX2_loses_91 (v := (1 : Int32)) (by decide) ?_
    exact zr_zret C hret (Prod.mk.inj (zs_e hJ)).1 rfl rfl (congrArg (zen G) (Prod.mk.inj (zs_e hJ)).2) dX2_loses_92
  have hl12 : ∀ (n : Nat) (w5_12 : Int32) (w6_12 : Int32) (w7_12 : Int32) (w8_12 : Int32), L_X2_loses_12 p1 a2 a3 a4 σ k79 n w5_12 w6_12 w7_12 w8_12 = some (r, σ') → zU G 10 p l e (zrm 1 22) s m args below meth c (MQ below (va_Qi (fun x (_ : Unit) => x = r) (fun _ t => zok G 137 (zen G σ') t) (zA G)) args s 0 0 (zA G)) σ 12 [(0, .ref (G.1 + 91)), (1, .ref (G.1 + p1)), (2, .int a2), (3, .int a3), (4, .int a4), (5, .int w5_12), (6, .int w6_12), (7, .int w7_12), (8, .int w8_12)] [] := by
    intro n
    induction n with
    | zero =>
      intro w5_12 w6_12 w7_12 w8_12 hJ
      rw [L_X2_loses_12] at hJ
      cases hJ
    | succ n ih =>
      intro w5_12 w6_12 w7_12 w8_12 hJ
      rw [L_X2_loses_12] at hJ
      obtain ⟨r_12, hr_12, hJ⟩ := zlet_e hJ
      have ih12 : ∀ (w5_12 : Int32) (w6_12 : Int32) (w7_12 : Int32) (w8_12 : Int32), r_12 w5_12 w6_12 w7_12 w8_12 = some (r, σ') → zU G 10 p l e (zrm 1 22) s m args below meth c (MQ below (va_Qi (fun x (_ : Unit) => x = r) (fun _ t => zok G 137 (zen G σ') t) (zA G)) args s 0 0 (zA G)) σ 12 [(0, .ref (G.1 + 91)), (1, .ref (G.1 + p1)), (2, .int a2), (3, .int a3), (4, .int a4), (5, .int w5_12), (6, .int w6_12), (7, .int w7_12), (8, .int w8_12)] [] := by
        rw [hr_12]
        exact ih
      refine zr_iload C 8 dX2_loses_12 rfl ?_
      refine zr_aload_n C 1 dX2_loses_14 rfl ?_
      refine zg_3_15 C p1 (zkP_0 hp1) zm_42_15 dX2_loses_15 ?_
      refine zr_icmp_ge C 99 dX2_loses_18 (by decide) (fun hc3 => ?_) (fun hc3 => ?_)
      · have hJ := zif hc3 hJ
        refine zr_iconst C dX2_loses_99 (v := (0 : Int32)) (by decide) ?_
        exact zr_zret C hret (Prod.mk.inj (zs_e hJ)).1 rfl rfl (congrArg (zen G) (Prod.mk.inj (zs_e hJ)).2) dX2_loses_100
      · have hJ := zif' hc3 hJ
        refine zr_aload_n C 1 dX2_loses_21 rfl ?_
        refine zr_iload C 8 dX2_loses_22 rfl ?_
        refine zr_iload_n C 3 dX2_loses_24 rfl ?_
        obtain ⟨r4, hr4, hJ⟩ := zb_e hJ
        refine zr_callVI C p1 (zk_lt (zkP_0 hp1) (by decide)) (zen_obj (zkP_0 hp1)) (rfl : zcl[3]? = some (RX3, TX3, 19)) (M_X3_sliceOf G l hp1 hr4) zin_X3_sliceOf zm_42_18 rfl rfl (Nat.le_of_ble_eq_true rfl) ⟨Nat.le_of_ble_eq_true rfl, Nat.le_of_ble_eq_true rfl⟩ ⟨Nat.le_of_ble_eq_true rfl, Nat.le_of_ble_eq_true rfl⟩ dX2_loses_25 ?_
        refine zr_istore C [(9, .int r4), (0, .ref (G.1 + 91)), (1, .ref (G.1 + p1)), (2, .int a2), (3, .int a3), (4, .int a4), (5, .int w5_12), (6, .int w6_12), (7, .int w7_12), (8, .int w8_12)] dX2_loses_28 (by decide) rfl ?_
        refine zr_iload C 0 dX2_loses_30 rfl ?_
        refine zr_iload C 6 dX2_loses_32 rfl ?_
        obtain ⟨v5, hv5, hJ⟩ := zlet_e hJ
        obtain ⟨v6, hv6, hJ⟩ := zlet_e hJ
        have hf16 : zU G 10 p l e (zrm 1 22) s m args below meth c (MQ below (va_Qi (fun x (_ : Unit) => x = r) (fun _ t => zok G 137 (zen G σ') t) (zA G)) args s 0 0 (zA G)) σ 44 [(0, .ref (G.1 + 91)), (1, .ref (G.1 + p1)), (2, .int a2), (3, .int a3), (4, .int a4), (5, .int v5), (6, .int v6), (7, .int w7_12), (8, .int w8_12)] [] := by
          refine zr_iload C 6 dX2_loses_44 rfl ?_
          obtain ⟨v7, hv7, hJ⟩ := zlet_e hJ
          have hf14 : zU G 10 p l e (zrm 1 22) s m args below meth c (MQ below (va_Qi (fun x (_ : Unit) => x = r) (fun _ t => zok G 137 (zen G σ') t) (zA G)) args s 0 0 (zA G)) σ 53 [(0, .ref (G.1 + 91)), (1, .ref (G.1 + p1)), (2, .int a2), (3, .int a3), (4, .int a4), (5, .int v5), (6, .int v6), (7, .int v7), (8, .int w8_12)] [] := by
            refine zr_iload C 6 dX2_loses_53 rfl ?_
            refine zr_aload_n C 1 dX2_loses_55 rfl ?_
            refine zg_3_4 C p1 (zkP_0 hp1) zm_42_16 dX2_loses_56 ?_
            refine zr_aload_n C 1 dX2_loses_59 rfl ?_
            refine zg_3_17 C p1 (zkP_0 hp1) zm_42_17 dX2_loses_60 ?_
            refine zr_iload C 8 dX2_loses_63 rfl ?_
            obtain ⟨hg8, hJ⟩ := zg_e hJ
            refine zu_bald C (p1 + 28) (zkP_28 hp1) hg8 dX2_loses_65 ?_
            obtain ⟨hg9, hJ⟩ := zg_e hJ
            refine zu_aald C (p1 + 4) (zkP_4 hp1) hg9 dX2_loses_66 ?_
            refine zr_iload_n C 2 dX2_loses_67 rfl ?_
            obtain ⟨hg10, hJ⟩ := zg_e hJ
            refine zu_iald C ((p1 + 4) + 1 + (σ.1 (p1 + 28) w8_12.toNatClampNeg).toNatClampNeg) (zk_rowP hp1 (zi_lt hg9)) hg10 dX2_loses_68 ?_
            refine zr_iadd C dX2_loses_69 ?_
            obtain ⟨v11, hv11, hJ⟩ := zlet_e hJ
            refine zr_topi hv11 ?_
            refine zr_istore C [(6, .int v11), (0, .ref (G.1 + 91)), (1, .ref (G.1 + p1)), (2, .int a2), (3, .int a3), (4, .int a4), (5, .int v5), (7, .int v7), (8, .int w8_12)] dX2_loses_70 (by decide) rfl ?_
            refine zr_iload C 0 dX2_loses_72 rfl ?_
            refine zr_iload C 5 dX2_loses_74 rfl ?_
            refine zr_icmp_le C 93 dX2_loses_76 (by decide) (fun hc12 => ?_) (fun hc12 => ?_)
            · have hJ := zif hc12 hJ
              obtain ⟨v13, hv13, hJ⟩ := zlet_e hJ
              refine zr_iinc C v13 8 [(8, .int v13), (6, .int v11), (0, .ref (G.1 + 91)), (1, .ref (G.1 + p1)), (2, .int a2), (3, .int a3), (4, .int a4), (5, .int v5), (7, .int v7)] dX2_loses_93 rfl (hv13.trans (zinc (by decide))) (by decide) rfl ?_
              refine zr_goto C 12 dX2_loses_96 (by decide) ?_
              refine zr_sub [2, 3, 4, 5, 6, 7, 1, 8, 0] [(0, .ref (G.1 + 91)), (1, .ref (G.1 + p1)), (2, .int a2), (3, .int a3), (4, .int a4), (5, .int v5), (6, .int v11), (7, .int v7), (8, .int v13)] rfl ?_
              exact ih12 _ _ _ _ hJ
            · have hJ := zif' hc12 hJ
              refine zr_sub [1, 7, 8] [(0, .ref (G.1 + 91)), (7, .int v7), (8, .int w8_12)] rfl ?_
              exact hj79 _ _ hJ
          refine zr_if_ne C 53 dX2_loses_46 (by decide) (fun hc15 => ?_) (fun hc15 => ?_)
          · have hv7 := hv7.trans (if_neg hc15)
            rw [hv7] at hf14
            exact hf14
          · have hv7 := hv7.trans (if_pos hc15)
            refine zr_iload C 8 dX2_loses_49 rfl ?_
            refine zr_istore C [(7, .int w8_12), (0, .ref (G.1 + 91)), (1, .ref (G.1 + p1)), (2, .int a2), (3, .int a3), (4, .int a4), (5, .int v5), (6, .int v6), (8, .int w8_12)] dX2_loses_51 (by decide) rfl ?_
            refine zr_sub [1, 2, 3, 4, 5, 6, 7, 0, 8] [(0, .ref (G.1 + 91)), (1, .ref (G.1 + p1)), (2, .int a2), (3, .int a3), (4, .int a4), (5, .int v5), (6, .int v6), (7, .int w8_12), (8, .int w8_12)] rfl ?_
            rw [hv7] at hf14
            exact hf14
        refine zr_icmp_eq C 44 dX2_loses_34 (by decide) (fun hc17 => ?_) (fun hc17 => ?_)
        · have hv5 := hv5.trans (if_pos hc17)
          have hv6 := hv6.trans (if_pos hc17)
          refine zr_sub [1, 2, 3, 4, 5, 6, 7, 8, 9] [(0, .ref (G.1 + 91)), (1, .ref (G.1 + p1)), (2, .int a2), (3, .int a3), (4, .int a4), (5, .int w5_12), (6, .int w6_12), (7, .int w7_12), (8, .int w8_12)] rfl ?_
          rw [hv5, hv6] at hf16
          exact hf16
        · have hv5 := hv5.trans (if_neg hc17)
          have hv6 := hv6.trans (if_neg hc17)
          refine zr_iload C 0 dX2_loses_37 rfl ?_
          refine zr_istore C [(5, .int r4), (9, .int r4), (0, .ref (G.1 + 91)), (1, .ref (G.1 + p1)), (2, .int a2), (3, .int a3), (4, .int a4), (6, .int w6_12), (7, .int w7_12), (8, .int w8_12)] dX2_loses_39 (by decide) rfl ?_
          refine zr_iconst C dX2_loses_41 (v := (0 : Int32)) (by decide) ?_
          refine zr_istore C [(6, .int (0 : Int32)), (5, .int r4), (9, .int r4), (0, .ref (G.1 + 91)), (1, .ref (G.1 + p1)), (2, .int a2), (3, .int a3), (4, .int a4), (7, .int w7_12), (8, .int w8_12)] dX2_loses_42 (by decide) rfl ?_
          refine zr_sub [3, 4, 5, 6, 7, 1, 0, 8, 9] [(0, .ref (G.1 + 91)), (1, .ref (G.1 + p1)), (2, .int a2), (3, .int a3), (4, .int a4), (5, .int r4), (6, .int (0 : Int32)), (7, .int w7_12), (8, .int w8_12)] rfl ?_
          rw [hv5, hv6] at hf16
          exact hf16
  refine zr_sub [4, 5, 6, 7, 8, 3, 2, 1, 0] [(0, .ref (G.1 + 91)), (1, .ref (G.1 + p1)), (2, .int a2), (3, .int a3), (4, .int a4), (5, .int (0 : Int32)), (6, .int (0 : Int32)), (7, .int (0 : Int32)), (8, .int (0 : Int32))] rfl ?_
  exact hl12 _ _ _ _ _ hJ
theorem dX2_longestWithoutLoss_0 : decode cX2_longestWithoutLoss 0 = .ok (.iconst 0, 1) := by decide +kernel
theorem dX2_longestWithoutLoss_1 : decode cX2_longestWithoutLoss 1 = .ok (.istore 4, 2) := by decide +kernel
theorem dX2_longestWithoutLoss_3 : decode cX2_longestWithoutLoss 3 = .ok (.sipush 999, 3) := by decide +kernel
theorem dX2_longestWithoutLoss_6 : decode cX2_longestWithoutLoss 6 = .ok (.istore 5, 2) := by decide +kernel
theorem dX2_longestWithoutLoss_8 : decode cX2_longestWithoutLoss 8 = .ok (.iload 5, 2) := by decide +kernel
theorem dX2_longestWithoutLoss_10 : decode cX2_longestWithoutLoss 10 = .ok (.iconst 1, 1) := by decide +kernel
theorem dX2_longestWithoutLoss_11 : decode cX2_longestWithoutLoss 11 = .ok (.if_icmp .lt 67, 3) := by decide +kernel
theorem dX2_longestWithoutLoss_14 : decode cX2_longestWithoutLoss 14 = .ok (.iload 4, 2) := by decide +kernel
theorem dX2_longestWithoutLoss_16 : decode cX2_longestWithoutLoss 16 = .ok (.ifCond .eq 30, 3) := by decide +kernel
theorem dX2_longestWithoutLoss_19 : decode cX2_longestWithoutLoss 19 = .ok (.aload_n 1, 1) := by decide +kernel
theorem dX2_longestWithoutLoss_20 : decode cX2_longestWithoutLoss 20 = .ok (.aload_n 0, 1) := by decide +kernel
theorem dX2_longestWithoutLoss_21 : decode cX2_longestWithoutLoss 21 = .ok (.getfield 18, 3) := by decide +kernel
theorem dX2_longestWithoutLoss_24 : decode cX2_longestWithoutLoss 24 = .ok (.iload 5, 2) := by decide +kernel
theorem dX2_longestWithoutLoss_26 : decode cX2_longestWithoutLoss 26 = .ok (.invokevirtual 29, 3) := by decide +kernel
theorem dX2_longestWithoutLoss_29 : decode cX2_longestWithoutLoss 29 = .ok (.aload_n 1, 1) := by decide +kernel
theorem dX2_longestWithoutLoss_30 : decode cX2_longestWithoutLoss 30 = .ok (.aload_n 0, 1) := by decide +kernel
theorem dX2_longestWithoutLoss_31 : decode cX2_longestWithoutLoss 31 = .ok (.getfield 21, 3) := by decide +kernel
theorem dX2_longestWithoutLoss_34 : decode cX2_longestWithoutLoss 34 = .ok (.iload 5, 2) := by decide +kernel
theorem dX2_longestWithoutLoss_36 : decode cX2_longestWithoutLoss 36 = .ok (.invokevirtual 29, 3) := by decide +kernel
theorem dX2_longestWithoutLoss_39 : decode cX2_longestWithoutLoss 39 = .ok (.if_icmp .ne 7, 3) := by decide +kernel
theorem dX2_longestWithoutLoss_42 : decode cX2_longestWithoutLoss 42 = .ok (.iconst 1, 1) := by decide +kernel
theorem dX2_longestWithoutLoss_43 : decode cX2_longestWithoutLoss 43 = .ok (.goto 4, 3) := by decide +kernel
theorem dX2_longestWithoutLoss_46 : decode cX2_longestWithoutLoss 46 = .ok (.iconst 0, 1) := by decide +kernel
theorem dX2_longestWithoutLoss_47 : decode cX2_longestWithoutLoss 47 = .ok (.istore 6, 2) := by decide +kernel
theorem dX2_longestWithoutLoss_49 : decode cX2_longestWithoutLoss 49 = .ok (.iload 6, 2) := by decide +kernel
theorem dX2_longestWithoutLoss_51 : decode cX2_longestWithoutLoss 51 = .ok (.ifCond .ne 18, 3) := by decide +kernel
theorem dX2_longestWithoutLoss_54 : decode cX2_longestWithoutLoss 54 = .ok (.aload_n 0, 1) := by decide +kernel
theorem dX2_longestWithoutLoss_55 : decode cX2_longestWithoutLoss 55 = .ok (.aload_n 1, 1) := by decide +kernel
theorem dX2_longestWithoutLoss_56 : decode cX2_longestWithoutLoss 56 = .ok (.iload_n 2, 1) := by decide +kernel
theorem dX2_longestWithoutLoss_57 : decode cX2_longestWithoutLoss 57 = .ok (.iload 5, 2) := by decide +kernel
theorem dX2_longestWithoutLoss_59 : decode cX2_longestWithoutLoss 59 = .ok (.iload_n 3, 1) := by decide +kernel
theorem dX2_longestWithoutLoss_60 : decode cX2_longestWithoutLoss 60 = .ok (.invokevirtual 41, 3) := by decide +kernel
theorem dX2_longestWithoutLoss_63 : decode cX2_longestWithoutLoss 63 = .ok (.ifCond .ne 6, 3) := by decide +kernel
theorem dX2_longestWithoutLoss_66 : decode cX2_longestWithoutLoss 66 = .ok (.iload 5, 2) := by decide +kernel
theorem dX2_longestWithoutLoss_68 : decode cX2_longestWithoutLoss 68 = .ok (.ireturn, 1) := by decide +kernel
theorem dX2_longestWithoutLoss_69 : decode cX2_longestWithoutLoss 69 = .ok (.iconst 1, 1) := by decide +kernel
theorem dX2_longestWithoutLoss_70 : decode cX2_longestWithoutLoss 70 = .ok (.istore 4, 2) := by decide +kernel
theorem dX2_longestWithoutLoss_72 : decode cX2_longestWithoutLoss 72 = .ok (.iinc 5 (-1), 3) := by decide +kernel
theorem dX2_longestWithoutLoss_75 : decode cX2_longestWithoutLoss 75 = .ok (.goto (-67), 3) := by decide +kernel
theorem dX2_longestWithoutLoss_78 : decode cX2_longestWithoutLoss 78 = .ok (.bipush (-4), 2) := by decide +kernel
theorem dX2_longestWithoutLoss_80 : decode cX2_longestWithoutLoss 80 = .ok (.ireturn, 1) := by decide +kernel
set_option maxRecDepth 100000 in
set_option maxHeartbeats 4000000 in
theorem M_X2_longestWithoutLoss (G : zG) (l : Launch) {p1 : Nat} (hp1 : zP p1 = true) {a2 : Int32} {a3 : Int32} {σ : zS} {r : Int32} {σ' : zS} (hJ : J_X2_longestWithoutLoss p1 a2 a3 σ = some (r, σ')) : zMI G l yX2_longestWithoutLoss cX2_longestWithoutLoss 7 (some .int) (zrm 2 51) [.ref (G.1 + 91), .ref (G.1 + p1), .int a2, .int a3] 137 (zen G σ) r 137 (zen G σ') := by
  unfold J_X2_longestWithoutLoss at hJ
  refine zentI (by decide +kernel) (Nat.le_of_ble_eq_true rfl) ?_
  intro p e s m args below meth c C hret
  refine zr_sub [0, 1, 2, 3] [(0, .ref (G.1 + 91)), (1, .ref (G.1 + p1)), (2, .int a2), (3, .int a3)] rfl ?_
  refine zr_iconst C dX2_longestWithoutLoss_0 (v := (0 : Int32)) (by decide) ?_
  refine zr_istore C [(4, .int (0 : Int32)), (0, .ref (G.1 + 91)), (1, .ref (G.1 + p1)), (2, .int a2), (3, .int a3)] dX2_longestWithoutLoss_1 (by decide) rfl ?_
  refine zr_sipush C dX2_longestWithoutLoss_3 (v := (999 : Int32)) (by decide) ?_
  refine zr_istore C [(5, .int (999 : Int32)), (4, .int (0 : Int32)), (0, .ref (G.1 + 91)), (1, .ref (G.1 + p1)), (2, .int a2), (3, .int a3)] dX2_longestWithoutLoss_6 (by decide) rfl ?_
  have hl8 : ∀ (n : Nat) (w4_8 : Int32) (w5_8 : Int32) (σ_8 : zS), L_X2_longestWithoutLoss_8 p1 a2 a3 n w4_8 w5_8 σ_8 = some (r, σ') → zU G 7 p l e (zrm 2 51) s m args below meth c (MQ below (va_Qi (fun x (_ : Unit) => x = r) (fun _ t => zok G 137 (zen G σ') t) (zA G)) args s 0 0 (zA G)) σ_8 8 [(0, .ref (G.1 + 91)), (1, .ref (G.1 + p1)), (2, .int a2), (3, .int a3), (4, .int w4_8), (5, .int w5_8)] [] := by
    intro n
    induction n with
    | zero =>
      intro w4_8 w5_8 σ_8 hJ
      rw [L_X2_longestWithoutLoss_8] at hJ
      cases hJ
    | succ n ih =>
      intro w4_8 w5_8 σ_8 hJ
      rw [L_X2_longestWithoutLoss_8] at hJ
      obtain ⟨r_8, hr_8, hJ⟩ := zlet_e hJ
      have ih8 : ∀ (w4_8 : Int32) (w5_8 : Int32) (σ_8 : zS), r_8 w4_8 w5_8 σ_8 = some (r, σ') → zU G 7 p l e (zrm 2 51) s m args below meth c (MQ below (va_Qi (fun x (_ : Unit) => x = r) (fun _ t => zok G 137 (zen G σ') t) (zA G)) args s 0 0 (zA G)) σ_8 8 [(0, .ref (G.1 + 91)), (1, .ref (G.1 + p1)), (2, .int a2), (3, .int a3), (4, .int w4_8), (5, .int w5_8)] [] := by
        rw [hr_8]
        exact ih
      refine zr_iload C 5 dX2_longestWithoutLoss_8 rfl ?_
      refine zr_iconst C dX2_longestWithoutLoss_10 (v := (1 : Int32)) (by decide) ?_
      refine zr_icmp_lt C 78 dX2_longestWithoutLoss_11 (by decide) (fun hc1 => ?_) (fun hc1 => ?_)
      · have hJ := zif hc1 hJ
        refine zr_bipush C dX2_longestWithoutLoss_78 (v := (-4 : Int32)) (by decide) ?_
        exact zr_iret C hret (Prod.mk.inj (zs_e hJ)).1 rfl (congrArg (zen G) (Prod.mk.inj (zs_e hJ)).2) dX2_longestWithoutLoss_80
      · have hJ := zif' hc1 hJ
        refine zr_iload C 4 dX2_longestWithoutLoss_14 rfl ?_
        obtain ⟨k47, hk47, hJ⟩ := zlet_e hJ
        have hj47 : ∀ (x0_47 : Int32), k47 x0_47 = some (r, σ') → zU G 7 p l e (zrm 2 51) s m args below meth c (MQ below (va_Qi (fun x (_ : Unit) => x = r) (fun _ t => zok G 137 (zen G σ') t) (zA G)) args s 0 0 (zA G)) σ_8 47 [(0, .ref (G.1 + 91)), (1, .ref (G.1 + p1)), (2, .int a2), (3, .int a3), (5, .int w5_8)] [.int x0_47] := by
          intro x0_47 hJ
          rw [hk47] at hJ
          unfold D_X2_longestWithoutLoss_47 at hJ
          refine zr_istore C [(6, .int x0_47), (0, .ref (G.1 + 91)), (1, .ref (G.1 + p1)), (2, .int a2), (3, .int a3), (5, .int w5_8)] dX2_longestWithoutLoss_47 (by decide) rfl ?_
          refine zr_iload C 0 dX2_longestWithoutLoss_49 rfl ?_
          refine zr_if_ne C 69 dX2_longestWithoutLoss_51 (by decide) (fun hc2 => ?_) (fun hc2 => ?_)
          · have hJ := zif' hc2 hJ
            refine zr_iconst C dX2_longestWithoutLoss_69 (v := (1 : Int32)) (by decide) ?_
            refine zr_istore C [(4, .int (1 : Int32)), (6, .int x0_47), (0, .ref (G.1 + 91)), (1, .ref (G.1 + p1)), (2, .int a2), (3, .int a3), (5, .int w5_8)] dX2_longestWithoutLoss_70 (by decide) rfl ?_
            obtain ⟨v3, hv3, hJ⟩ := zlet_e hJ
            refine zr_iinc C v3 6 [(5, .int v3), (4, .int (1 : Int32)), (6, .int x0_47), (0, .ref (G.1 + 91)), (1, .ref (G.1 + p1)), (2, .int a2), (3, .int a3)] dX2_longestWithoutLoss_72 rfl (hv3.trans (zinc (by decide))) (by decide) rfl ?_
            refine zr_goto C 8 dX2_longestWithoutLoss_75 (by decide) ?_
            refine zr_sub [3, 4, 5, 6, 1, 0] [(0, .ref (G.1 + 91)), (1, .ref (G.1 + p1)), (2, .int a2), (3, .int a3), (4, .int (1 : Int32)), (5, .int v3)] rfl ?_
            exact ih8 _ _ _ hJ
          · have hJ := zif hc2 hJ
            refine zr_aload_n C 1 dX2_longestWithoutLoss_54 rfl ?_
            refine zr_aload_n C 2 dX2_longestWithoutLoss_55 rfl ?_
            refine zr_iload_n C 3 dX2_longestWithoutLoss_56 rfl ?_
            refine zr_iload C 5 dX2_longestWithoutLoss_57 rfl ?_
            refine zr_iload_n C 4 dX2_longestWithoutLoss_59 rfl ?_
            obtain ⟨r4, σ5, hr4, hJ⟩ := zb2_e hJ
            refine zr_callVI C 91 (zk_lt zk_91 (by decide)) (zen_obj zk_91) (rfl : zcl[2]? = some (RX2, TX2, 4)) (M_X2_loses G l hp1 hr4) zin_X2_loses zm_43_12 rfl rfl (Nat.le_of_ble_eq_true rfl) ⟨Nat.le_of_ble_eq_true rfl, Nat.le_of_ble_eq_true rfl⟩ ⟨Nat.le_of_ble_eq_true rfl, Nat.le_of_ble_eq_true rfl⟩ dX2_longestWithoutLoss_60 ?_
            refine zr_if_ne C 69 dX2_longestWithoutLoss_63 (by decide) (fun hc6 => ?_) (fun hc6 => ?_)
            · have hJ := zif' hc6 hJ
              refine zr_iconst C dX2_longestWithoutLoss_69 (v := (1 : Int32)) (by decide) ?_
              refine zr_istore C [(4, .int (1 : Int32)), (6, .int x0_47), (0, .ref (G.1 + 91)), (1, .ref (G.1 + p1)), (2, .int a2), (3, .int a3), (5, .int w5_8)] dX2_longestWithoutLoss_70 (by decide) rfl ?_
              obtain ⟨v7, hv7, hJ⟩ := zlet_e hJ
              refine zr_iinc C v7 6 [(5, .int v7), (4, .int (1 : Int32)), (6, .int x0_47), (0, .ref (G.1 + 91)), (1, .ref (G.1 + p1)), (2, .int a2), (3, .int a3)] dX2_longestWithoutLoss_72 rfl (hv7.trans (zinc (by decide))) (by decide) rfl ?_
              refine zr_goto C 8 dX2_longestWithoutLoss_75 (by decide) ?_
              refine zr_sub [3, 4, 5, 6, 1, 0] [(0, .ref (G.1 + 91)), (1, .ref (G.1 + p1)), (2, .int a2), (3, .int a3), (4, .int (1 : Int32)), (5, .int v7)] rfl ?_
              exact ih8 _ _ _ hJ
            · have hJ := zif hc6 hJ
              refine zr_iload C 5 dX2_longestWithoutLoss_66 rfl ?_
              exact zr_iret C hret (Prod.mk.inj (zs_e hJ)).1 rfl (congrArg (zen G) (Prod.mk.inj (zs_e hJ)).2) dX2_longestWithoutLoss_68
        refine zr_if_eq C 46 dX2_longestWithoutLoss_16 (by decide) (fun hc8 => ?_) (fun hc8 => ?_)
        · have hJ := zif hc8 hJ
          refine zr_iconst C dX2_longestWithoutLoss_46 (v := (0 : Int32)) (by decide) ?_
          refine zr_sub [0, 1, 2, 3, 5] [(0, .ref (G.1 + 91)), (1, .ref (G.1 + p1)), (2, .int a2), (3, .int a3), (5, .int w5_8)] rfl ?_
          exact hj47 _ hJ
        · have hJ := zif' hc8 hJ
          refine zr_aload_n C 1 dX2_longestWithoutLoss_19 rfl ?_
          refine zr_aload_n C 0 dX2_longestWithoutLoss_20 rfl ?_
          refine zg_2_2 C 91 zk_91 zm_6_9 dX2_longestWithoutLoss_21 ?_
          refine zr_iload C 5 dX2_longestWithoutLoss_24 rfl ?_
          obtain ⟨r9, hr9, hJ⟩ := zb_e hJ
          refine zr_callVI C p1 (zk_lt (zkP_0 hp1) (by decide)) (zen_obj (zkP_0 hp1)) (rfl : zcl[3]? = some (RX3, TX3, 19)) (M_X3_sliceOf G l hp1 hr9) zin_X3_sliceOf zm_42_18 rfl rfl (Nat.le_of_ble_eq_true rfl) ⟨Nat.le_of_ble_eq_true rfl, Nat.le_of_ble_eq_true rfl⟩ ⟨Nat.le_of_ble_eq_true rfl, Nat.le_of_ble_eq_true rfl⟩ dX2_longestWithoutLoss_26 ?_
          refine zr_aload_n C 1 dX2_longestWithoutLoss_29 rfl ?_
          refine zr_aload_n C 0 dX2_longestWithoutLoss_30 rfl ?_
          refine zg_2_3 C 91 zk_91 zm_6_10 dX2_longestWithoutLoss_31 ?_
          refine zr_iload C 5 dX2_longestWithoutLoss_34 rfl ?_
          obtain ⟨r10, hr10, hJ⟩ := zb_e hJ
          refine zr_callVI C p1 (zk_lt (zkP_0 hp1) (by decide)) (zen_obj (zkP_0 hp1)) (rfl : zcl[3]? = some (RX3, TX3, 19)) (M_X3_sliceOf G l hp1 hr10) zin_X3_sliceOf zm_42_18 rfl rfl (Nat.le_of_ble_eq_true rfl) ⟨Nat.le_of_ble_eq_true rfl, Nat.le_of_ble_eq_true rfl⟩ ⟨Nat.le_of_ble_eq_true rfl, Nat.le_of_ble_eq_true rfl⟩ dX2_longestWithoutLoss_36 ?_
          refine zr_icmp_ne C 46 dX2_longestWithoutLoss_39 (by decide) (fun hc11 => ?_) (fun hc11 => ?_)
          · have hJ := zif' hc11 hJ
            refine zr_iconst C dX2_longestWithoutLoss_46 (v := (0 : Int32)) (by decide) ?_
            refine zr_sub [0, 1, 2, 3, 5] [(0, .ref (G.1 + 91)), (1, .ref (G.1 + p1)), (2, .int a2), (3, .int a3), (5, .int w5_8)] rfl ?_
            exact hj47 _ hJ
          · have hJ := zif hc11 hJ
            refine zr_iconst C dX2_longestWithoutLoss_42 (v := (1 : Int32)) (by decide) ?_
            refine zr_goto C 47 dX2_longestWithoutLoss_43 (by decide) ?_
            refine zr_sub [0, 1, 2, 3, 5] [(0, .ref (G.1 + 91)), (1, .ref (G.1 + p1)), (2, .int a2), (3, .int a3), (5, .int w5_8)] rfl ?_
            exact hj47 _ hJ
  refine zr_sub [2, 3, 4, 5, 1, 0] [(0, .ref (G.1 + 91)), (1, .ref (G.1 + p1)), (2, .int a2), (3, .int a3), (4, .int (0 : Int32)), (5, .int (999 : Int32))] rfl ?_
  exact hl8 _ _ _ _ hJ
theorem dX10_seldom_0 : decode cX10_seldom 0 = .ok (.aload_n 0, 1) := by decide +kernel
theorem dX10_seldom_1 : decode cX10_seldom 1 = .ok (.getfield 45, 3) := by decide +kernel
theorem dX10_seldom_4 : decode cX10_seldom 4 = .ok (.iload_n 1, 1) := by decide +kernel
theorem dX10_seldom_5 : decode cX10_seldom 5 = .ok (.iload_n 2, 1) := by decide +kernel
theorem dX10_seldom_6 : decode cX10_seldom 6 = .ok (.invokevirtual 313, 3) := by decide +kernel
theorem dX10_seldom_9 : decode cX10_seldom 9 = .ok (.ifCond .ne 5, 3) := by decide +kernel
theorem dX10_seldom_12 : decode cX10_seldom 12 = .ok (.iconst (-1), 1) := by decide +kernel
theorem dX10_seldom_13 : decode cX10_seldom 13 = .ok (.ireturn, 1) := by decide +kernel
theorem dX10_seldom_14 : decode cX10_seldom 14 = .ok (.aload_n 0, 1) := by decide +kernel
theorem dX10_seldom_15 : decode cX10_seldom 15 = .ok (.getfield 66, 3) := by decide +kernel
theorem dX10_seldom_18 : decode cX10_seldom 18 = .ok (.aload_n 0, 1) := by decide +kernel
theorem dX10_seldom_19 : decode cX10_seldom 19 = .ok (.getfield 19, 3) := by decide +kernel
theorem dX10_seldom_22 : decode cX10_seldom 22 = .ok (.iload_n 2, 1) := by decide +kernel
theorem dX10_seldom_23 : decode cX10_seldom 23 = .ok (.aload_n 0, 1) := by decide +kernel
theorem dX10_seldom_24 : decode cX10_seldom 24 = .ok (.getfield 45, 3) := by decide +kernel
theorem dX10_seldom_27 : decode cX10_seldom 27 = .ok (.iload_n 1, 1) := by decide +kernel
theorem dX10_seldom_28 : decode cX10_seldom 28 = .ok (.invokevirtual 316, 3) := by decide +kernel
theorem dX10_seldom_31 : decode cX10_seldom 31 = .ok (.invokevirtual 328, 3) := by decide +kernel
theorem dX10_seldom_34 : decode cX10_seldom 34 = .ok (.ireturn, 1) := by decide +kernel
set_option maxRecDepth 100000 in
set_option maxHeartbeats 4000000 in
theorem M_X10_seldom (G : zG) (l : Launch) {a1 : Int32} {a2 : Int32} {σ : zS} {r : Int32} {σ' : zS} (hJ : J_X10_seldom a1 a2 σ = some (r, σ')) : zMI G l yX10_seldom cX10_seldom 3 (some .int) (zrm 3 77) [.ref (G.1 + 0), .int a1, .int a2] 137 (zen G σ) r 137 (zen G σ') := by
  unfold J_X10_seldom at hJ
  refine zentI (by decide +kernel) (Nat.le_of_ble_eq_true rfl) ?_
  intro p e s m args below meth c C hret
  refine zr_sub [0, 1, 2] [(0, .ref (G.1 + 0)), (1, .int a1), (2, .int a2)] rfl ?_
  refine zr_aload_n C 0 dX10_seldom_0 rfl ?_
  refine zg_10_5 C 0 zk_0 zm_2_9 dX10_seldom_1 ?_
  refine zr_iload_n C 1 dX10_seldom_4 rfl ?_
  refine zr_iload_n C 2 dX10_seldom_5 rfl ?_
  obtain ⟨r1, hr1, hJ⟩ := zb_e hJ
  refine zr_callVI C 82 (zk_lt zk_82 (by decide)) (zen_obj zk_82) (rfl : zcl[0]? = some (RX0, TX0, 7)) (M_X0_counts G l hr1) zin_X0_counts zm_41_12 rfl rfl (Nat.le_of_ble_eq_true rfl) ⟨Nat.le_of_ble_eq_true rfl, Nat.le_of_ble_eq_true rfl⟩ ⟨Nat.le_of_ble_eq_true rfl, Nat.le_of_ble_eq_true rfl⟩ dX10_seldom_6 ?_
  refine zr_if_ne C 14 dX10_seldom_9 (by decide) (fun hc2 => ?_) (fun hc2 => ?_)
  · have hJ := zif' hc2 hJ
    refine zr_aload_n C 0 dX10_seldom_14 rfl ?_
    refine zg_10_8 C 0 zk_0 zm_2_21 dX10_seldom_15 ?_
    refine zr_aload_n C 0 dX10_seldom_18 rfl ?_
    obtain ⟨p3, hp3, hJ⟩ := zlet_e hJ
    obtain ⟨hp4, hJ⟩ := zg_e hJ
    refine zg_10_1 C 0 zk_0 zm_1_20 dX10_seldom_19 ?_
    refine zr_topr hp3 ?_
    refine zr_iload_n C 2 dX10_seldom_22 rfl ?_
    refine zr_aload_n C 0 dX10_seldom_23 rfl ?_
    refine zg_10_5 C 0 zk_0 zm_2_9 dX10_seldom_24 ?_
    refine zr_iload_n C 1 dX10_seldom_27 rfl ?_
    obtain ⟨r5, hr5, hJ⟩ := zb_e hJ
    refine zr_callVI C 82 (zk_lt zk_82 (by decide)) (zen_obj zk_82) (rfl : zcl[0]? = some (RX0, TX0, 7)) (M_X0_greatest G l hr5) zin_X0_greatest zm_41_17 rfl rfl (Nat.le_of_ble_eq_true rfl) ⟨Nat.le_of_ble_eq_true rfl, Nat.le_of_ble_eq_true rfl⟩ ⟨Nat.le_of_ble_eq_true rfl, Nat.le_of_ble_eq_true rfl⟩ dX10_seldom_28 ?_
    obtain ⟨r6, σ7, hr6, hJ⟩ := zb2_e hJ
    refine zr_callVI C 91 (zk_lt zk_91 (by decide)) (zen_obj zk_91) (rfl : zcl[2]? = some (RX2, TX2, 4)) (M_X2_longestWithoutLoss G l hp4 hr6) zin_X2_longestWithoutLoss zm_43_8 rfl rfl (Nat.le_of_ble_eq_true rfl) ⟨Nat.le_of_ble_eq_true rfl, Nat.le_of_ble_eq_true rfl⟩ ⟨Nat.le_of_ble_eq_true rfl, Nat.le_of_ble_eq_true rfl⟩ dX10_seldom_31 ?_
    exact zr_iret C hret (Prod.mk.inj (zs_e hJ)).1 rfl (congrArg (zen G) (Prod.mk.inj (zs_e hJ)).2) dX10_seldom_34
  · have hJ := zif hc2 hJ
    refine zr_iconst C dX10_seldom_12 (v := (-1 : Int32)) (by decide) ?_
    exact zr_iret C hret (Prod.mk.inj (zs_e hJ)).1 rfl (congrArg (zen G) (Prod.mk.inj (zs_e hJ)).2) dX10_seldom_13
theorem dX7_renew_0 : decode cX7_renew 0 = .ok (.aload_n 0, 1) := by decide +kernel
theorem dX7_renew_1 : decode cX7_renew 1 = .ok (.getfield 11, 3) := by decide +kernel
theorem dX7_renew_4 : decode cX7_renew 4 = .ok (.iload_n 1, 1) := by decide +kernel
theorem dX7_renew_5 : decode cX7_renew 5 = .ok (.iload_n 2, 1) := by decide +kernel
theorem dX7_renew_6 : decode cX7_renew 6 = .ok (.iastore, 1) := by decide +kernel
theorem dX7_renew_7 : decode cX7_renew 7 = .ok (.aload_n 0, 1) := by decide +kernel
theorem dX7_renew_8 : decode cX7_renew 8 = .ok (.getfield 15, 3) := by decide +kernel
theorem dX7_renew_11 : decode cX7_renew 11 = .ok (.iload_n 1, 1) := by decide +kernel
theorem dX7_renew_12 : decode cX7_renew 12 = .ok (.iload_n 3, 1) := by decide +kernel
theorem dX7_renew_13 : decode cX7_renew 13 = .ok (.iastore, 1) := by decide +kernel
theorem dX7_renew_14 : decode cX7_renew 14 = .ok (.iconst 0, 1) := by decide +kernel
theorem dX7_renew_15 : decode cX7_renew 15 = .ok (.istore 4, 2) := by decide +kernel
theorem dX7_renew_17 : decode cX7_renew 17 = .ok (.iload 4, 2) := by decide +kernel
theorem dX7_renew_19 : decode cX7_renew 19 = .ok (.bipush 40, 2) := by decide +kernel
theorem dX7_renew_21 : decode cX7_renew 21 = .ok (.if_icmp .ge 19, 3) := by decide +kernel
theorem dX7_renew_24 : decode cX7_renew 24 = .ok (.aload_n 0, 1) := by decide +kernel
theorem dX7_renew_25 : decode cX7_renew 25 = .ok (.getfield 20, 3) := by decide +kernel
theorem dX7_renew_28 : decode cX7_renew 28 = .ok (.iload_n 1, 1) := by decide +kernel
theorem dX7_renew_29 : decode cX7_renew 29 = .ok (.aaload, 1) := by decide +kernel
theorem dX7_renew_30 : decode cX7_renew 30 = .ok (.iload 4, 2) := by decide +kernel
theorem dX7_renew_32 : decode cX7_renew 32 = .ok (.iconst 0, 1) := by decide +kernel
theorem dX7_renew_33 : decode cX7_renew 33 = .ok (.iastore, 1) := by decide +kernel
theorem dX7_renew_34 : decode cX7_renew 34 = .ok (.iinc 4 1, 3) := by decide +kernel
theorem dX7_renew_37 : decode cX7_renew 37 = .ok (.goto (-20), 3) := by decide +kernel
theorem dX7_renew_40 : decode cX7_renew 40 = .ok (.return_, 1) := by decide +kernel
set_option maxRecDepth 100000 in
set_option maxHeartbeats 4000000 in
theorem M_X7_renew (G : zG) (l : Launch) {a1 : Int32} {a2 : Int32} {a3 : Int32} {σ : zS} {σ' : zS} (hJ : J_X7_renew a1 a2 a3 σ = some σ') : zMV G l yX7_renew cX7_renew 5 none (zrm 0 0) [.ref (G.1 + 97), .int a1, .int a2, .int a3] 137 (zen G σ) 137 (zen G σ') := by
  unfold J_X7_renew at hJ
  refine zentV (by decide +kernel) (Nat.le_of_ble_eq_true rfl) ?_
  intro p e s m args below meth c C hret
  refine zr_sub [0, 1, 2, 3] [(0, .ref (G.1 + 97)), (1, .int a1), (2, .int a2), (3, .int a3)] rfl ?_
  refine zr_aload_n C 0 dX7_renew_0 rfl ?_
  refine zg_7_0 C 97 zk_97 zm_6_23 dX7_renew_1 ?_
  refine zr_iload_n C 1 dX7_renew_4 rfl ?_
  refine zr_iload_n C 2 dX7_renew_5 rfl ?_
  obtain ⟨hg1, hJ⟩ := zg_e hJ
  obtain ⟨σ2, hσ2, hJ⟩ := zlet_e hJ
  refine zv_iast C 98 zk_98 hg1 hσ2 dX7_renew_6 ?_
  refine zr_aload_n C 0 dX7_renew_7 rfl ?_
  refine zg_7_1 C 97 zk_97 zm_7_0 dX7_renew_8 ?_
  refine zr_iload_n C 1 dX7_renew_11 rfl ?_
  refine zr_iload_n C 3 dX7_renew_12 rfl ?_
  obtain ⟨hg3, hJ⟩ := zg_e hJ
  obtain ⟨σ4, hσ4, hJ⟩ := zlet_e hJ
  refine zv_iast C 99 zk_99 hg3 hσ4 dX7_renew_13 ?_
  refine zr_iconst C dX7_renew_14 (v := (0 : Int32)) (by decide) ?_
  refine zr_istore C [(4, .int (0 : Int32)), (0, .ref (G.1 + 97)), (1, .int a1), (2, .int a2), (3, .int a3)] dX7_renew_15 (by decide) rfl ?_
  have hl17 : ∀ (n : Nat) (w4_17 : Int32) (σ_17 : zS), L_X7_renew_17 a1 n w4_17 σ_17 = some σ' → zU G 5 p l e (zrm 0 0) s m args below meth c (MQ below (va_Qv (fun (_ : Unit) => True) (fun _ t => zok G 137 (zen G σ') t) (zA G)) args s 0 0 (zA G)) σ_17 17 [(0, .ref (G.1 + 97)), (1, .int a1), (4, .int w4_17)] [] := by
    intro n
    induction n with
    | zero =>
      intro w4_17 σ_17 hJ
      rw [L_X7_renew_17] at hJ
      cases hJ
    | succ n ih =>
      intro w4_17 σ_17 hJ
      rw [L_X7_renew_17] at hJ
      obtain ⟨r_17, hr_17, hJ⟩ := zlet_e hJ
      have ih17 : ∀ (w4_17 : Int32) (σ_17 : zS), r_17 w4_17 σ_17 = some σ' → zU G 5 p l e (zrm 0 0) s m args below meth c (MQ below (va_Qv (fun (_ : Unit) => True) (fun _ t => zok G 137 (zen G σ') t) (zA G)) args s 0 0 (zA G)) σ_17 17 [(0, .ref (G.1 + 97)), (1, .int a1), (4, .int w4_17)] [] := by
        rw [hr_17]
        exact ih
      refine zr_iload C 2 dX7_renew_17 rfl ?_
      refine zr_bipush C dX7_renew_19 (v := (40 : Int32)) (by decide) ?_
      refine zr_icmp_ge C 40 dX7_renew_21 (by decide) (fun hc5 => ?_) (fun hc5 => ?_)
      · have hJ := zif hc5 hJ
        exact zr_vret C hret rfl (congrArg (zen G) (zs_e hJ)) dX7_renew_40
      · have hJ := zif' hc5 hJ
        refine zr_aload_n C 0 dX7_renew_24 rfl ?_
        refine zg_7_2 C 97 zk_97 zm_7_2 dX7_renew_25 ?_
        refine zr_iload_n C 1 dX7_renew_28 rfl ?_
        obtain ⟨hg6, hJ⟩ := zg_e hJ
        refine zu_aald C 100 zk_100 hg6 dX7_renew_29 ?_
        refine zr_iload C 2 dX7_renew_30 rfl ?_
        refine zr_iconst C dX7_renew_32 (v := (0 : Int32)) (by decide) ?_
        obtain ⟨hg7, hJ⟩ := zg_e hJ
        obtain ⟨σ8, hσ8, hJ⟩ := zlet_e hJ
        refine zv_iast C (100 + 1 + a1.toNatClampNeg) (zk_rowS (zi_lt hg6)) hg7 hσ8 dX7_renew_33 ?_
        obtain ⟨v9, hv9, hJ⟩ := zlet_e hJ
        refine zr_iinc C v9 2 [(4, .int v9), (0, .ref (G.1 + 97)), (1, .int a1)] dX7_renew_34 rfl (hv9.trans (zinc (by decide))) (by decide) rfl ?_
        refine zr_goto C 17 dX7_renew_37 (by decide) ?_
        refine zr_sub [1, 2, 0] [(0, .ref (G.1 + 97)), (1, .int a1), (4, .int v9)] rfl ?_
        exact ih17 _ _ hJ
  refine zr_sub [1, 2, 0] [(0, .ref (G.1 + 97)), (1, .int a1), (4, .int (0 : Int32))] rfl ?_
  exact hl17 _ _ _ hJ
theorem dX10_sheet_0 : decode cX10_sheet 0 = .ok (.aload_n 0, 1) := by decide +kernel
theorem dX10_sheet_1 : decode cX10_sheet 1 = .ok (.getfield 80, 3) := by decide +kernel
theorem dX10_sheet_4 : decode cX10_sheet 4 = .ok (.iload_n 1, 1) := by decide +kernel
theorem dX10_sheet_5 : decode cX10_sheet 5 = .ok (.invokevirtual 348, 3) := by decide +kernel
theorem dX10_sheet_8 : decode cX10_sheet 8 = .ok (.ifCond .eq 20, 3) := by decide +kernel
theorem dX10_sheet_11 : decode cX10_sheet 11 = .ok (.aload_n 0, 1) := by decide +kernel
theorem dX10_sheet_12 : decode cX10_sheet 12 = .ok (.getfield 80, 3) := by decide +kernel
theorem dX10_sheet_15 : decode cX10_sheet 15 = .ok (.iload_n 2, 1) := by decide +kernel
theorem dX10_sheet_16 : decode cX10_sheet 16 = .ok (.invokevirtual 349, 3) := by decide +kernel
theorem dX10_sheet_19 : decode cX10_sheet 19 = .ok (.ifCond .eq 9, 3) := by decide +kernel
theorem dX10_sheet_22 : decode cX10_sheet 22 = .ok (.iload_n 3, 1) := by decide +kernel
theorem dX10_sheet_23 : decode cX10_sheet 23 = .ok (.bipush 40, 2) := by decide +kernel
theorem dX10_sheet_25 : decode cX10_sheet 25 = .ok (.if_icmp .le 5, 3) := by decide +kernel
theorem dX10_sheet_28 : decode cX10_sheet 28 = .ok (.iconst (-1), 1) := by decide +kernel
theorem dX10_sheet_29 : decode cX10_sheet 29 = .ok (.ireturn, 1) := by decide +kernel
theorem dX10_sheet_30 : decode cX10_sheet 30 = .ok (.iload_n 3, 1) := by decide +kernel
theorem dX10_sheet_31 : decode cX10_sheet 31 = .ok (.ifCond .ge 6, 3) := by decide +kernel
theorem dX10_sheet_34 : decode cX10_sheet 34 = .ok (.bipush (-14), 2) := by decide +kernel
theorem dX10_sheet_36 : decode cX10_sheet 36 = .ok (.ireturn, 1) := by decide +kernel
theorem dX10_sheet_37 : decode cX10_sheet 37 = .ok (.aload_n 0, 1) := by decide +kernel
theorem dX10_sheet_38 : decode cX10_sheet 38 = .ok (.getfield 80, 3) := by decide +kernel
theorem dX10_sheet_41 : decode cX10_sheet 41 = .ok (.iload_n 1, 1) := by decide +kernel
theorem dX10_sheet_42 : decode cX10_sheet 42 = .ok (.iload_n 2, 1) := by decide +kernel
theorem dX10_sheet_43 : decode cX10_sheet 43 = .ok (.iload_n 3, 1) := by decide +kernel
theorem dX10_sheet_44 : decode cX10_sheet 44 = .ok (.invokevirtual 352, 3) := by decide +kernel
theorem dX10_sheet_47 : decode cX10_sheet 47 = .ok (.iconst 1, 1) := by decide +kernel
theorem dX10_sheet_48 : decode cX10_sheet 48 = .ok (.ireturn, 1) := by decide +kernel
set_option maxRecDepth 100000 in
set_option maxHeartbeats 4000000 in
theorem M_X10_sheet (G : zG) (l : Launch) {a1 : Int32} {a2 : Int32} {a3 : Int32} {σ : zS} {r : Int32} {σ' : zS} (hJ : J_X10_sheet a1 a2 a3 σ = some (r, σ')) : zMI G l yX10_sheet cX10_sheet 4 (some .int) (zrm 1 24) [.ref (G.1 + 0), .int a1, .int a2, .int a3] 137 (zen G σ) r 137 (zen G σ') := by
  unfold J_X10_sheet at hJ
  refine zentI (by decide +kernel) (Nat.le_of_ble_eq_true rfl) ?_
  intro p e s m args below meth c C hret
  refine zr_sub [0, 1, 2, 3] [(0, .ref (G.1 + 0)), (1, .int a1), (2, .int a2), (3, .int a3)] rfl ?_
  refine zr_aload_n C 0 dX10_sheet_0 rfl ?_
  refine zg_10_10 C 0 zk_0 zm_3_5 dX10_sheet_1 ?_
  refine zr_iload_n C 1 dX10_sheet_4 rfl ?_
  obtain ⟨r1, hr1, hJ⟩ := zb_e hJ
  refine zr_callVI C 97 (zk_lt zk_97 (by decide)) (zen_obj zk_97) (rfl : zcl[7]? = some (RX7, TX7, 3)) (M_X7_has G l hr1) zin_X7_has zm_46_15 rfl rfl (Nat.le_of_ble_eq_true rfl) ⟨Nat.le_of_ble_eq_true rfl, Nat.le_of_ble_eq_true rfl⟩ ⟨Nat.le_of_ble_eq_true rfl, Nat.le_of_ble_eq_true rfl⟩ dX10_sheet_5 ?_
  refine zr_if_eq C 28 dX10_sheet_8 (by decide) (fun hc2 => ?_) (fun hc2 => ?_)
  · have hJ := zif hc2 hJ
    refine zr_iconst C dX10_sheet_28 (v := (-1 : Int32)) (by decide) ?_
    exact zr_iret C hret (Prod.mk.inj (zs_e hJ)).1 rfl (congrArg (zen G) (Prod.mk.inj (zs_e hJ)).2) dX10_sheet_29
  · have hJ := zif' hc2 hJ
    refine zr_aload_n C 0 dX10_sheet_11 rfl ?_
    refine zg_10_10 C 0 zk_0 zm_3_5 dX10_sheet_12 ?_
    refine zr_iload_n C 2 dX10_sheet_15 rfl ?_
    obtain ⟨r3, hr3, hJ⟩ := zb_e hJ
    refine zr_callVI C 97 (zk_lt zk_97 (by decide)) (zen_obj zk_97) (rfl : zcl[7]? = some (RX7, TX7, 3)) (M_X7_hasLane G l hr3) zin_X7_hasLane zm_46_19 rfl rfl (Nat.le_of_ble_eq_true rfl) ⟨Nat.le_of_ble_eq_true rfl, Nat.le_of_ble_eq_true rfl⟩ ⟨Nat.le_of_ble_eq_true rfl, Nat.le_of_ble_eq_true rfl⟩ dX10_sheet_16 ?_
    refine zr_if_eq C 28 dX10_sheet_19 (by decide) (fun hc4 => ?_) (fun hc4 => ?_)
    · have hJ := zif hc4 hJ
      refine zr_iconst C dX10_sheet_28 (v := (-1 : Int32)) (by decide) ?_
      exact zr_iret C hret (Prod.mk.inj (zs_e hJ)).1 rfl (congrArg (zen G) (Prod.mk.inj (zs_e hJ)).2) dX10_sheet_29
    · have hJ := zif' hc4 hJ
      refine zr_iload_n C 3 dX10_sheet_22 rfl ?_
      refine zr_bipush C dX10_sheet_23 (v := (40 : Int32)) (by decide) ?_
      refine zr_icmp_le C 30 dX10_sheet_25 (by decide) (fun hc5 => ?_) (fun hc5 => ?_)
      · have hJ := zif hc5 hJ
        refine zr_iload_n C 3 dX10_sheet_30 rfl ?_
        refine zr_if_ge C 37 dX10_sheet_31 (by decide) (fun hc6 => ?_) (fun hc6 => ?_)
        · have hJ := zif hc6 hJ
          refine zr_aload_n C 0 dX10_sheet_37 rfl ?_
          refine zg_10_10 C 0 zk_0 zm_3_5 dX10_sheet_38 ?_
          refine zr_iload_n C 1 dX10_sheet_41 rfl ?_
          refine zr_iload_n C 2 dX10_sheet_42 rfl ?_
          refine zr_iload_n C 3 dX10_sheet_43 rfl ?_
          obtain ⟨σ8, hr7, hJ⟩ := zb_e hJ
          refine zr_callVV C 97 (zk_lt zk_97 (by decide)) (zen_obj zk_97) (rfl : zcl[7]? = some (RX7, TX7, 3)) (M_X7_renew G l hr7) zin_X7_renew zm_46_23 rfl rfl (Nat.le_of_ble_eq_true rfl) ⟨Nat.le_of_ble_eq_true rfl, Nat.le_of_ble_eq_true rfl⟩ ⟨Nat.le_of_ble_eq_true rfl, Nat.le_of_ble_eq_true rfl⟩ dX10_sheet_44 ?_
          refine zr_iconst C dX10_sheet_47 (v := (1 : Int32)) (by decide) ?_
          exact zr_iret C hret (Prod.mk.inj (zs_e hJ)).1 rfl (congrArg (zen G) (Prod.mk.inj (zs_e hJ)).2) dX10_sheet_48
        · have hJ := zif' hc6 hJ
          refine zr_bipush C dX10_sheet_34 (v := (-14 : Int32)) (by decide) ?_
          exact zr_iret C hret (Prod.mk.inj (zs_e hJ)).1 rfl (congrArg (zen G) (Prod.mk.inj (zs_e hJ)).2) dX10_sheet_36
      · have hJ := zif' hc5 hJ
        refine zr_iconst C dX10_sheet_28 (v := (-1 : Int32)) (by decide) ?_
        exact zr_iret C hret (Prod.mk.inj (zs_e hJ)).1 rfl (congrArg (zen G) (Prod.mk.inj (zs_e hJ)).2) dX10_sheet_29
theorem dX10_shows_0 : decode cX10_shows 0 = .ok (.iload_n 1, 1) := by decide +kernel
theorem dX10_shows_1 : decode cX10_shows 1 = .ok (.iload_n 2, 1) := by decide +kernel
theorem dX10_shows_2 : decode cX10_shows 2 = .ok (.iload_n 3, 1) := by decide +kernel
theorem dX10_shows_3 : decode cX10_shows 3 = .ok (.iload 4, 2) := by decide +kernel
theorem dX10_shows_5 : decode cX10_shows 5 = .ok (.invokestatic 279, 3) := by decide +kernel
theorem dX10_shows_8 : decode cX10_shows 8 = .ok (.ifCond .eq 15, 3) := by decide +kernel
theorem dX10_shows_11 : decode cX10_shows 11 = .ok (.aload_n 0, 1) := by decide +kernel
theorem dX10_shows_12 : decode cX10_shows 12 = .ok (.getfield 19, 3) := by decide +kernel
theorem dX10_shows_15 : decode cX10_shows 15 = .ok (.iload 5, 2) := by decide +kernel
theorem dX10_shows_17 : decode cX10_shows 17 = .ok (.invokevirtual 116, 3) := by decide +kernel
theorem dX10_shows_20 : decode cX10_shows 20 = .ok (.ifCond .ne 5, 3) := by decide +kernel
theorem dX10_shows_23 : decode cX10_shows 23 = .ok (.iconst (-1), 1) := by decide +kernel
theorem dX10_shows_24 : decode cX10_shows 24 = .ok (.ireturn, 1) := by decide +kernel
theorem dX10_shows_25 : decode cX10_shows 25 = .ok (.aload_n 0, 1) := by decide +kernel
theorem dX10_shows_26 : decode cX10_shows 26 = .ok (.getfield 59, 3) := by decide +kernel
theorem dX10_shows_29 : decode cX10_shows 29 = .ok (.aload_n 0, 1) := by decide +kernel
theorem dX10_shows_30 : decode cX10_shows 30 = .ok (.getfield 19, 3) := by decide +kernel
theorem dX10_shows_33 : decode cX10_shows 33 = .ok (.iload_n 1, 1) := by decide +kernel
theorem dX10_shows_34 : decode cX10_shows 34 = .ok (.iload_n 2, 1) := by decide +kernel
theorem dX10_shows_35 : decode cX10_shows 35 = .ok (.iload_n 3, 1) := by decide +kernel
theorem dX10_shows_36 : decode cX10_shows 36 = .ok (.iload 4, 2) := by decide +kernel
theorem dX10_shows_38 : decode cX10_shows 38 = .ok (.invokevirtual 283, 3) := by decide +kernel
theorem dX10_shows_41 : decode cX10_shows 41 = .ok (.aload_n 0, 1) := by decide +kernel
theorem dX10_shows_42 : decode cX10_shows 42 = .ok (.getfield 59, 3) := by decide +kernel
theorem dX10_shows_45 : decode cX10_shows 45 = .ok (.getfield 284, 3) := by decide +kernel
theorem dX10_shows_48 : decode cX10_shows 48 = .ok (.iload 5, 2) := by decide +kernel
theorem dX10_shows_50 : decode cX10_shows 50 = .ok (.iaload, 1) := by decide +kernel
theorem dX10_shows_51 : decode cX10_shows 51 = .ok (.ireturn, 1) := by decide +kernel
set_option maxRecDepth 100000 in
set_option maxHeartbeats 4000000 in
theorem M_X10_shows (G : zG) (l : Launch) {a1 : Int32} {a2 : Int32} {a3 : Int32} {a4 : Int32} {a5 : Int32} {σ : zS} {r : Int32} {σ' : zS} (hJ : J_X10_shows a1 a2 a3 a4 a5 σ = some (r, σ')) : zMI G l yX10_shows cX10_shows 6 (some .int) (zrm 2 50) [.ref (G.1 + 0), .int a1, .int a2, .int a3, .int a4, .int a5] 137 (zen G σ) r 137 (zen G σ') := by
  unfold J_X10_shows at hJ
  refine zentI (by decide +kernel) (Nat.le_of_ble_eq_true rfl) ?_
  intro p e s m args below meth c C hret
  refine zr_sub [0, 1, 2, 3, 4, 5] [(0, .ref (G.1 + 0)), (1, .int a1), (2, .int a2), (3, .int a3), (4, .int a4), (5, .int a5)] rfl ?_
  refine zr_iload_n C 1 dX10_shows_0 rfl ?_
  refine zr_iload_n C 2 dX10_shows_1 rfl ?_
  refine zr_iload_n C 3 dX10_shows_2 rfl ?_
  refine zr_iload C 4 dX10_shows_3 rfl ?_
  obtain ⟨r1, hr1, hJ⟩ := zb_e hJ
  refine zr_callSI C (M_X10_areSamples G l hr1) zin_X10_areSamples zm_37_13 rfl rfl (Nat.le_of_ble_eq_true rfl) ⟨Nat.le_of_ble_eq_true rfl, Nat.le_of_ble_eq_true rfl⟩ ⟨Nat.le_of_ble_eq_true rfl, Nat.le_of_ble_eq_true rfl⟩ dX10_shows_5 ?_
  refine zr_if_eq C 23 dX10_shows_8 (by decide) (fun hc2 => ?_) (fun hc2 => ?_)
  · have hJ := zif hc2 hJ
    refine zr_iconst C dX10_shows_23 (v := (-1 : Int32)) (by decide) ?_
    exact zr_iret C hret (Prod.mk.inj (zs_e hJ)).1 rfl (congrArg (zen G) (Prod.mk.inj (zs_e hJ)).2) dX10_shows_24
  · have hJ := zif' hc2 hJ
    refine zr_aload_n C 0 dX10_shows_11 rfl ?_
    obtain ⟨p3, hp3, hJ⟩ := zlet_e hJ
    obtain ⟨hp4, hJ⟩ := zg_e hJ
    refine zg_10_1 C 0 zk_0 zm_1_20 dX10_shows_12 ?_
    refine zr_topr hp3 ?_
    refine zr_iload C 5 dX10_shows_15 rfl ?_
    obtain ⟨r5, hr5, hJ⟩ := zb_e hJ
    refine zr_callVI C p3 (zk_lt (zkP_0 hp4) (by decide)) (zen_obj (zkP_0 hp4)) (rfl : zcl[3]? = some (RX3, TX3, 19)) (M_X3_hasLine G l hp4 hr5) zin_X3_hasLine zm_20_19 rfl rfl (Nat.le_of_ble_eq_true rfl) ⟨Nat.le_of_ble_eq_true rfl, Nat.le_of_ble_eq_true rfl⟩ ⟨Nat.le_of_ble_eq_true rfl, Nat.le_of_ble_eq_true rfl⟩ dX10_shows_17 ?_
    refine zr_if_ne C 25 dX10_shows_20 (by decide) (fun hc6 => ?_) (fun hc6 => ?_)
    · have hJ := zif' hc6 hJ
      refine zr_aload_n C 0 dX10_shows_25 rfl ?_
      refine zg_10_7 C 0 zk_0 zm_2_17 dX10_shows_26 ?_
      refine zr_aload_n C 0 dX10_shows_29 rfl ?_
      obtain ⟨p7, hp7, hJ⟩ := zlet_e hJ
      obtain ⟨hp8, hJ⟩ := zg_e hJ
      refine zg_10_1 C 0 zk_0 zm_1_20 dX10_shows_30 ?_
      refine zr_topr hp7 ?_
      refine zr_iload_n C 1 dX10_shows_33 rfl ?_
      refine zr_iload_n C 2 dX10_shows_34 rfl ?_
      refine zr_iload_n C 3 dX10_shows_35 rfl ?_
      refine zr_iload C 4 dX10_shows_36 rfl ?_
      obtain ⟨σ10, hr9, hJ⟩ := zb_e hJ
      refine zr_callVV C 89 (zk_lt zk_89 (by decide)) (zen_obj zk_89) (rfl : zcl[6]? = some (RX6, TX6, 3)) (M_X6_take G l hp8 hr9) zin_X6_take zm_37_16 rfl rfl (Nat.le_of_ble_eq_true rfl) ⟨Nat.le_of_ble_eq_true rfl, Nat.le_of_ble_eq_true rfl⟩ ⟨Nat.le_of_ble_eq_true rfl, Nat.le_of_ble_eq_true rfl⟩ dX10_shows_38 ?_
      refine zr_aload_n C 0 dX10_shows_41 rfl ?_
      refine zg_10_7 C 0 zk_0 zm_2_17 dX10_shows_42 ?_
      refine zg_6_0 C 89 zk_89 zm_37_12 dX10_shows_45 ?_
      refine zr_iload C 5 dX10_shows_48 rfl ?_
      obtain ⟨hg11, hJ⟩ := zg_e hJ
      refine zu_iald C 90 zk_90 hg11 dX10_shows_50 ?_
      exact zr_iret C hret (Prod.mk.inj (zs_e hJ)).1 rfl (congrArg (zen G) (Prod.mk.inj (zs_e hJ)).2) dX10_shows_51
    · have hJ := zif hc6 hJ
      refine zr_iconst C dX10_shows_23 (v := (-1 : Int32)) (by decide) ?_
      exact zr_iret C hret (Prod.mk.inj (zs_e hJ)).1 rfl (congrArg (zen G) (Prod.mk.inj (zs_e hJ)).2) dX10_shows_24
theorem dX10_sliced_0 : decode cX10_sliced 0 = .ok (.iload_n 3, 1) := by decide +kernel
theorem dX10_sliced_1 : decode cX10_sliced 1 = .ok (.iload_n 1, 1) := by decide +kernel
theorem dX10_sliced_2 : decode cX10_sliced 2 = .ok (.invokestatic 228, 3) := by decide +kernel
theorem dX10_sliced_5 : decode cX10_sliced 5 = .ok (.ifCond .eq 18, 3) := by decide +kernel
theorem dX10_sliced_8 : decode cX10_sliced 8 = .ok (.iload_n 2, 1) := by decide +kernel
theorem dX10_sliced_9 : decode cX10_sliced 9 = .ok (.invokestatic 240, 3) := by decide +kernel
theorem dX10_sliced_12 : decode cX10_sliced 12 = .ok (.ifCond .eq 11, 3) := by decide +kernel
theorem dX10_sliced_15 : decode cX10_sliced 15 = .ok (.iload 4, 2) := by decide +kernel
theorem dX10_sliced_17 : decode cX10_sliced 17 = .ok (.invokestatic 152, 3) := by decide +kernel
theorem dX10_sliced_20 : decode cX10_sliced 20 = .ok (.ifCond .ne 5, 3) := by decide +kernel
theorem dX10_sliced_23 : decode cX10_sliced 23 = .ok (.iconst (-1), 1) := by decide +kernel
theorem dX10_sliced_24 : decode cX10_sliced 24 = .ok (.ireturn, 1) := by decide +kernel
theorem dX10_sliced_25 : decode cX10_sliced 25 = .ok (.aload_n 0, 1) := by decide +kernel
theorem dX10_sliced_26 : decode cX10_sliced 26 = .ok (.getfield 45, 3) := by decide +kernel
theorem dX10_sliced_29 : decode cX10_sliced 29 = .ok (.iload_n 1, 1) := by decide +kernel
theorem dX10_sliced_30 : decode cX10_sliced 30 = .ok (.invokevirtual 234, 3) := by decide +kernel
theorem dX10_sliced_33 : decode cX10_sliced 33 = .ok (.istore 5, 2) := by decide +kernel
theorem dX10_sliced_35 : decode cX10_sliced 35 = .ok (.iload 5, 2) := by decide +kernel
theorem dX10_sliced_37 : decode cX10_sliced 37 = .ok (.iconst 1, 1) := by decide +kernel
theorem dX10_sliced_38 : decode cX10_sliced 38 = .ok (.if_icmp .ge 6, 3) := by decide +kernel
theorem dX10_sliced_41 : decode cX10_sliced 41 = .ok (.bipush (-4), 2) := by decide +kernel
theorem dX10_sliced_43 : decode cX10_sliced 43 = .ok (.ireturn, 1) := by decide +kernel
theorem dX10_sliced_44 : decode cX10_sliced 44 = .ok (.aload_n 0, 1) := by decide +kernel
theorem dX10_sliced_45 : decode cX10_sliced 45 = .ok (.getfield 52, 3) := by decide +kernel
theorem dX10_sliced_48 : decode cX10_sliced 48 = .ok (.aload_n 0, 1) := by decide +kernel
theorem dX10_sliced_49 : decode cX10_sliced 49 = .ok (.getfield 19, 3) := by decide +kernel
theorem dX10_sliced_52 : decode cX10_sliced 52 = .ok (.iload_n 2, 1) := by decide +kernel
theorem dX10_sliced_53 : decode cX10_sliced 53 = .ok (.iload 5, 2) := by decide +kernel
theorem dX10_sliced_55 : decode cX10_sliced 55 = .ok (.aload_n 0, 1) := by decide +kernel
theorem dX10_sliced_56 : decode cX10_sliced 56 = .ok (.getfield 45, 3) := by decide +kernel
theorem dX10_sliced_59 : decode cX10_sliced 59 = .ok (.iload_n 3, 1) := by decide +kernel
theorem dX10_sliced_60 : decode cX10_sliced 60 = .ok (.iload 5, 2) := by decide +kernel
theorem dX10_sliced_62 : decode cX10_sliced 62 = .ok (.invokevirtual 243, 3) := by decide +kernel
theorem dX10_sliced_65 : decode cX10_sliced 65 = .ok (.iload_n 3, 1) := by decide +kernel
theorem dX10_sliced_66 : decode cX10_sliced 66 = .ok (.invokevirtual 246, 3) := by decide +kernel
theorem dX10_sliced_69 : decode cX10_sliced 69 = .ok (.iload 4, 2) := by decide +kernel
theorem dX10_sliced_71 : decode cX10_sliced 71 = .ok (.ifCond .ne 13, 3) := by decide +kernel
theorem dX10_sliced_74 : decode cX10_sliced 74 = .ok (.aload_n 0, 1) := by decide +kernel
theorem dX10_sliced_75 : decode cX10_sliced 75 = .ok (.getfield 52, 3) := by decide +kernel
theorem dX10_sliced_78 : decode cX10_sliced 78 = .ok (.getfield 249, 3) := by decide +kernel
theorem dX10_sliced_81 : decode cX10_sliced 81 = .ok (.goto 10, 3) := by decide +kernel
theorem dX10_sliced_84 : decode cX10_sliced 84 = .ok (.aload_n 0, 1) := by decide +kernel
theorem dX10_sliced_85 : decode cX10_sliced 85 = .ok (.getfield 52, 3) := by decide +kernel
theorem dX10_sliced_88 : decode cX10_sliced 88 = .ok (.getfield 252, 3) := by decide +kernel
theorem dX10_sliced_91 : decode cX10_sliced 91 = .ok (.ireturn, 1) := by decide +kernel
set_option maxRecDepth 100000 in
set_option maxHeartbeats 4000000 in
theorem M_X10_sliced (G : zG) (l : Launch) {a1 : Int32} {a2 : Int32} {a3 : Int32} {a4 : Int32} {σ : zS} {r : Int32} {σ' : zS} (hJ : J_X10_sliced a1 a2 a3 a4 σ = some (r, σ')) : zMI G l yX10_sliced cX10_sliced 6 (some .int) (zrm 17 396) [.ref (G.1 + 0), .int a1, .int a2, .int a3, .int a4] 137 (zen G σ) r 137 (zen G σ') := by
  unfold J_X10_sliced at hJ
  refine zentI (by decide +kernel) (Nat.le_of_ble_eq_true rfl) ?_
  intro p e s m args below meth c C hret
  refine zr_sub [0, 1, 2, 3, 4] [(0, .ref (G.1 + 0)), (1, .int a1), (2, .int a2), (3, .int a3), (4, .int a4)] rfl ?_
  refine zr_iload_n C 3 dX10_sliced_0 rfl ?_
  refine zr_iload_n C 1 dX10_sliced_1 rfl ?_
  obtain ⟨r1, hr1, hJ⟩ := zb_e hJ
  refine zr_callSI C (M_X10_isOneOf G l hr1) zin_X10_isOneOf zm_32_4 rfl rfl (Nat.le_of_ble_eq_true rfl) ⟨Nat.le_of_ble_eq_true rfl, Nat.le_of_ble_eq_true rfl⟩ ⟨Nat.le_of_ble_eq_true rfl, Nat.le_of_ble_eq_true rfl⟩ dX10_sliced_2 ?_
  refine zr_if_eq C 23 dX10_sliced_5 (by decide) (fun hc2 => ?_) (fun hc2 => ?_)
  · have hJ := zif hc2 hJ
    refine zr_iconst C dX10_sliced_23 (v := (-1 : Int32)) (by decide) ?_
    exact zr_iret C hret (Prod.mk.inj (zs_e hJ)).1 rfl (congrArg (zen G) (Prod.mk.inj (zs_e hJ)).2) dX10_sliced_24
  · have hJ := zif' hc2 hJ
    refine zr_iload_n C 2 dX10_sliced_8 rfl ?_
    obtain ⟨r3, hr3, hJ⟩ := zb_e hJ
    refine zr_callSI C (M_X10_isSlice G l hr3) zin_X10_isSlice zm_34_4 rfl rfl (Nat.le_of_ble_eq_true rfl) ⟨Nat.le_of_ble_eq_true rfl, Nat.le_of_ble_eq_true rfl⟩ ⟨Nat.le_of_ble_eq_true rfl, Nat.le_of_ble_eq_true rfl⟩ dX10_sliced_9 ?_
    refine zr_if_eq C 23 dX10_sliced_12 (by decide) (fun hc4 => ?_) (fun hc4 => ?_)
    · have hJ := zif hc4 hJ
      refine zr_iconst C dX10_sliced_23 (v := (-1 : Int32)) (by decide) ?_
      exact zr_iret C hret (Prod.mk.inj (zs_e hJ)).1 rfl (congrArg (zen G) (Prod.mk.inj (zs_e hJ)).2) dX10_sliced_24
    · have hJ := zif' hc4 hJ
      refine zr_iload C 4 dX10_sliced_15 rfl ?_
      obtain ⟨r5, hr5, hJ⟩ := zb_e hJ
      refine zr_callSI C (M_X10_isEither G l hr5) zin_X10_isEither zm_23_7 rfl rfl (Nat.le_of_ble_eq_true rfl) ⟨Nat.le_of_ble_eq_true rfl, Nat.le_of_ble_eq_true rfl⟩ ⟨Nat.le_of_ble_eq_true rfl, Nat.le_of_ble_eq_true rfl⟩ dX10_sliced_17 ?_
      refine zr_if_ne C 25 dX10_sliced_20 (by decide) (fun hc6 => ?_) (fun hc6 => ?_)
      · have hJ := zif' hc6 hJ
        refine zr_aload_n C 0 dX10_sliced_25 rfl ?_
        refine zg_10_5 C 0 zk_0 zm_2_9 dX10_sliced_26 ?_
        refine zr_iload_n C 1 dX10_sliced_29 rfl ?_
        obtain ⟨r7, σ8, hr7, hJ⟩ := zb2_e hJ
        refine zr_callVI C 82 (zk_lt zk_82 (by decide)) (zen_obj zk_82) (rfl : zcl[0]? = some (RX0, TX0, 7)) (M_X0_divide G l hr7) zin_X0_divide zm_32_18 rfl rfl (Nat.le_of_ble_eq_true rfl) ⟨Nat.le_of_ble_eq_true rfl, Nat.le_of_ble_eq_true rfl⟩ ⟨Nat.le_of_ble_eq_true rfl, Nat.le_of_ble_eq_true rfl⟩ dX10_sliced_30 ?_
        refine zr_istore C [(5, .int r7), (0, .ref (G.1 + 0)), (1, .int a1), (2, .int a2), (3, .int a3), (4, .int a4)] dX10_sliced_33 (by decide) rfl ?_
        refine zr_iload C 0 dX10_sliced_35 rfl ?_
        refine zr_iconst C dX10_sliced_37 (v := (1 : Int32)) (by decide) ?_
        refine zr_icmp_ge C 44 dX10_sliced_38 (by decide) (fun hc9 => ?_) (fun hc9 => ?_)
        · have hJ := zif hc9 hJ
          refine zr_aload_n C 1 dX10_sliced_44 rfl ?_
          refine zg_10_6 C 0 zk_0 zm_2_13 dX10_sliced_45 ?_
          refine zr_aload_n C 1 dX10_sliced_48 rfl ?_
          obtain ⟨p10, hp10, hJ⟩ := zlet_e hJ
          obtain ⟨hp11, hJ⟩ := zg_e hJ
          refine zg_10_1 C 0 zk_0 zm_1_20 dX10_sliced_49 ?_
          refine zr_topr hp10 ?_
          refine zr_iload_n C 3 dX10_sliced_52 rfl ?_
          refine zr_iload C 0 dX10_sliced_53 rfl ?_
          refine zr_aload_n C 1 dX10_sliced_55 rfl ?_
          refine zg_10_5 C 0 zk_0 zm_2_9 dX10_sliced_56 ?_
          refine zr_iload_n C 4 dX10_sliced_59 rfl ?_
          refine zr_iload C 0 dX10_sliced_60 rfl ?_
          obtain ⟨r12, hr12, hJ⟩ := zb_e hJ
          refine zr_callVI C 82 (zk_lt zk_82 (by decide)) (zen_obj zk_82) (rfl : zcl[0]? = some (RX0, TX0, 7)) (M_X0_roundOf G l hr12) zin_X0_roundOf zm_34_7 rfl rfl (Nat.le_of_ble_eq_true rfl) ⟨Nat.le_of_ble_eq_true rfl, Nat.le_of_ble_eq_true rfl⟩ ⟨Nat.le_of_ble_eq_true rfl, Nat.le_of_ble_eq_true rfl⟩ dX10_sliced_62 ?_
          refine zr_iload_n C 4 dX10_sliced_65 rfl ?_
          obtain ⟨σ14, hr13, hJ⟩ := zb_e hJ
          refine zr_callVV C 88 (zk_lt zk_88 (by decide)) (zen_obj zk_88) (rfl : zcl[9]? = some (RX9, TX9, 2)) (M_X9_take G l hp11 hr13) zin_X9_take zm_34_11 rfl rfl (Nat.le_of_ble_eq_true rfl) ⟨Nat.le_of_ble_eq_true rfl, Nat.le_of_ble_eq_true rfl⟩ ⟨Nat.le_of_ble_eq_true rfl, Nat.le_of_ble_eq_true rfl⟩ dX10_sliced_66 ?_
          refine zr_iload C 5 dX10_sliced_69 rfl ?_
          refine zr_if_ne C 84 dX10_sliced_71 (by decide) (fun hc15 => ?_) (fun hc15 => ?_)
          · have hJ := zif' hc15 hJ
            refine zr_aload_n C 1 dX10_sliced_84 rfl ?_
            refine zg_10_6 C 0 zk_0 zm_2_13 dX10_sliced_85 ?_
            refine zg_9_1 C 88 zk_88 zm_34_3 dX10_sliced_88 ?_
            exact zr_iret C hret (Prod.mk.inj (zs_e hJ)).1 rfl (congrArg (zen G) (Prod.mk.inj (zs_e hJ)).2) dX10_sliced_91
          · have hJ := zif hc15 hJ
            refine zr_aload_n C 1 dX10_sliced_74 rfl ?_
            refine zg_10_6 C 0 zk_0 zm_2_13 dX10_sliced_75 ?_
            refine zg_9_0 C 88 zk_88 zm_34_2 dX10_sliced_78 ?_
            refine zr_goto C 91 dX10_sliced_81 (by decide) ?_
            exact zr_iret C hret (Prod.mk.inj (zs_e hJ)).1 rfl (congrArg (zen G) (Prod.mk.inj (zs_e hJ)).2) dX10_sliced_91
        · have hJ := zif' hc9 hJ
          refine zr_bipush C dX10_sliced_41 (v := (-4 : Int32)) (by decide) ?_
          exact zr_iret C hret (Prod.mk.inj (zs_e hJ)).1 rfl (congrArg (zen G) (Prod.mk.inj (zs_e hJ)).2) dX10_sliced_43
      · have hJ := zif hc6 hJ
        refine zr_iconst C dX10_sliced_23 (v := (-1 : Int32)) (by decide) ?_
        exact zr_iret C hret (Prod.mk.inj (zs_e hJ)).1 rfl (congrArg (zen G) (Prod.mk.inj (zs_e hJ)).2) dX10_sliced_24
theorem dX10_step_0 : decode cX10_step 0 = .ok (.iload_n 1, 1) := by decide +kernel
theorem dX10_step_1 : decode cX10_step 1 = .ok (.ifCond .lt 26, 3) := by decide +kernel
theorem dX10_step_4 : decode cX10_step 4 = .ok (.iload_n 1, 1) := by decide +kernel
theorem dX10_step_5 : decode cX10_step 5 = .ok (.aload_n 0, 1) := by decide +kernel
theorem dX10_step_6 : decode cX10_step 6 = .ok (.getfield 19, 3) := by decide +kernel
theorem dX10_step_9 : decode cX10_step 9 = .ok (.getfield 137, 3) := by decide +kernel
theorem dX10_step_12 : decode cX10_step 12 = .ok (.if_icmp .ge 15, 3) := by decide +kernel
theorem dX10_step_15 : decode cX10_step 15 = .ok (.aload_n 0, 1) := by decide +kernel
theorem dX10_step_16 : decode cX10_step 16 = .ok (.getfield 19, 3) := by decide +kernel
theorem dX10_step_19 : decode cX10_step 19 = .ok (.getfield 140, 3) := by decide +kernel
theorem dX10_step_22 : decode cX10_step 22 = .ok (.iload_n 1, 1) := by decide +kernel
theorem dX10_step_23 : decode cX10_step 23 = .ok (.baload, 1) := by decide +kernel
theorem dX10_step_24 : decode cX10_step 24 = .ok (.goto 4, 3) := by decide +kernel
theorem dX10_step_27 : decode cX10_step 27 = .ok (.iconst (-1), 1) := by decide +kernel
theorem dX10_step_28 : decode cX10_step 28 = .ok (.ireturn, 1) := by decide +kernel
set_option maxRecDepth 100000 in
set_option maxHeartbeats 4000000 in
theorem M_X10_step (G : zG) (l : Launch) {a1 : Int32} {σ : zS} {r : Int32} (hJ : J_X10_step a1 σ = some r) : zMI G l yX10_step cX10_step 2 (some .int) (zrm 0 0) [.ref (G.1 + 0), .int a1] 137 (zen G σ) r 137 (zen G σ) := by
  unfold J_X10_step at hJ
  refine zentI (by decide +kernel) (Nat.le_of_ble_eq_true rfl) ?_
  intro p e s m args below meth c C hret
  refine zr_sub [0, 1] [(0, .ref (G.1 + 0)), (1, .int a1)] rfl ?_
  refine zr_iload_n C 1 dX10_step_0 rfl ?_
  refine zr_if_lt C 27 dX10_step_1 (by decide) (fun hc1 => ?_) (fun hc1 => ?_)
  · have hJ := zif hc1 hJ
    refine zr_iconst C dX10_step_27 (v := (-1 : Int32)) (by decide) ?_
    exact zr_iret C hret (zs_e hJ) rfl rfl dX10_step_28
  · have hJ := zif' hc1 hJ
    refine zr_iload_n C 1 dX10_step_4 rfl ?_
    refine zr_aload_n C 0 dX10_step_5 rfl ?_
    obtain ⟨p2, hp2, hJ⟩ := zlet_e hJ
    obtain ⟨hp3, hJ⟩ := zg_e hJ
    refine zg_10_1 C 0 zk_0 zm_1_20 dX10_step_6 ?_
    refine zr_topr hp2 ?_
    refine zg_3_15 C p2 (zkP_0 hp3) zm_21_21 dX10_step_9 ?_
    refine zr_icmp_ge C 27 dX10_step_12 (by decide) (fun hc4 => ?_) (fun hc4 => ?_)
    · have hJ := zif hc4 hJ
      refine zr_iconst C dX10_step_27 (v := (-1 : Int32)) (by decide) ?_
      exact zr_iret C hret (zs_e hJ) rfl rfl dX10_step_28
    · have hJ := zif' hc4 hJ
      refine zr_aload_n C 0 dX10_step_15 rfl ?_
      obtain ⟨p5, hp5, hJ⟩ := zlet_e hJ
      obtain ⟨hp6, hJ⟩ := zg_e hJ
      refine zg_10_1 C 0 zk_0 zm_1_20 dX10_step_16 ?_
      refine zr_topr hp5 ?_
      refine zg_3_17 C p5 (zkP_0 hp6) zm_21_22 dX10_step_19 ?_
      refine zr_iload_n C 1 dX10_step_22 rfl ?_
      obtain ⟨hg7, hJ⟩ := zg_e hJ
      refine zu_bald C (p5 + 28) (zkP_28 hp6) hg7 dX10_step_23 ?_
      refine zr_goto C 28 dX10_step_24 (by decide) ?_
      exact zr_iret C hret (zs_e hJ) rfl rfl dX10_step_28
theorem dX10_together_0 : decode cX10_together 0 = .ok (.iload_n 1, 1) := by decide +kernel
theorem dX10_together_1 : decode cX10_together 1 = .ok (.invokestatic 211, 3) := by decide +kernel
theorem dX10_together_4 : decode cX10_together 4 = .ok (.ifCond .ne 5, 3) := by decide +kernel
theorem dX10_together_7 : decode cX10_together 7 = .ok (.iconst (-1), 1) := by decide +kernel
theorem dX10_together_8 : decode cX10_together 8 = .ok (.ireturn, 1) := by decide +kernel
theorem dX10_together_9 : decode cX10_together 9 = .ok (.aload_n 0, 1) := by decide +kernel
theorem dX10_together_10 : decode cX10_together 10 = .ok (.getfield 45, 3) := by decide +kernel
theorem dX10_together_13 : decode cX10_together 13 = .ok (.iload_n 1, 1) := by decide +kernel
theorem dX10_together_14 : decode cX10_together 14 = .ok (.iconst 0, 1) := by decide +kernel
theorem dX10_together_15 : decode cX10_together 15 = .ok (.invokevirtual 224, 3) := by decide +kernel
theorem dX10_together_18 : decode cX10_together 18 = .ok (.ifCond .eq 7, 3) := by decide +kernel
theorem dX10_together_21 : decode cX10_together 21 = .ok (.iconst 1, 1) := by decide +kernel
theorem dX10_together_22 : decode cX10_together 22 = .ok (.goto 4, 3) := by decide +kernel
theorem dX10_together_25 : decode cX10_together 25 = .ok (.iconst 0, 1) := by decide +kernel
theorem dX10_together_26 : decode cX10_together 26 = .ok (.ireturn, 1) := by decide +kernel
set_option maxRecDepth 100000 in
set_option maxHeartbeats 4000000 in
theorem M_X10_together (G : zG) (l : Launch) {a1 : Int32} {σ : zS} {r : Int32} (hJ : J_X10_together a1 σ = some r) : zMI G l yX10_together cX10_together 2 (some .int) (zrm 15 351) [.ref (G.1 + 0), .int a1] 137 (zen G σ) r 137 (zen G σ) := by
  unfold J_X10_together at hJ
  refine zentI (by decide +kernel) (Nat.le_of_ble_eq_true rfl) ?_
  intro p e s m args below meth c C hret
  refine zr_sub [0, 1] [(0, .ref (G.1 + 0)), (1, .int a1)] rfl ?_
  refine zr_iload_n C 1 dX10_together_0 rfl ?_
  obtain ⟨r1, hr1, hJ⟩ := zb_e hJ
  refine zr_callSI C (M_X10_isSet G l hr1) zin_X10_isSet zm_14_20 rfl rfl (Nat.le_of_ble_eq_true rfl) ⟨Nat.le_of_ble_eq_true rfl, Nat.le_of_ble_eq_true rfl⟩ ⟨Nat.le_of_ble_eq_true rfl, Nat.le_of_ble_eq_true rfl⟩ dX10_together_1 ?_
  refine zr_if_ne C 9 dX10_together_4 (by decide) (fun hc2 => ?_) (fun hc2 => ?_)
  · have hJ := zif' hc2 hJ
    refine zr_aload_n C 0 dX10_together_9 rfl ?_
    refine zg_10_5 C 0 zk_0 zm_2_9 dX10_together_10 ?_
    refine zr_iload_n C 1 dX10_together_13 rfl ?_
    refine zr_iconst C dX10_together_14 (v := (0 : Int32)) (by decide) ?_
    obtain ⟨r3, hr3, hJ⟩ := zb_e hJ
    refine zr_callnVI C 82 (zk_lt zk_82 (by decide)) (zen_obj zk_82) (rfl : zcl[0]? = some (RX0, TX0, 7)) (M_X0_canPlace G l 7 hr3) zin_X0_canPlace zne_X10_224 rfl rfl (Nat.le_of_ble_eq_true rfl) ⟨Nat.le_of_ble_eq_true rfl, Nat.le_of_ble_eq_true rfl⟩ ⟨Nat.le_of_ble_eq_true rfl, Nat.le_of_ble_eq_true rfl⟩ dX10_together_15 ?_
    refine zr_if_eq C 25 dX10_together_18 (by decide) (fun hc4 => ?_) (fun hc4 => ?_)
    · have hJ := zif hc4 hJ
      refine zr_iconst C dX10_together_25 (v := (0 : Int32)) (by decide) ?_
      exact zr_iret C hret (zs_e hJ) rfl rfl dX10_together_26
    · have hJ := zif' hc4 hJ
      refine zr_iconst C dX10_together_21 (v := (1 : Int32)) (by decide) ?_
      refine zr_goto C 26 dX10_together_22 (by decide) ?_
      exact zr_iret C hret (zs_e hJ) rfl rfl dX10_together_26
  · have hJ := zif hc2 hJ
    refine zr_iconst C dX10_together_7 (v := (-1 : Int32)) (by decide) ?_
    exact zr_iret C hret (zs_e hJ) rfl rfl dX10_together_8
theorem dX10_truest_0 : decode cX10_truest 0 = .ok (.iload_n 1, 1) := by decide +kernel
theorem dX10_truest_1 : decode cX10_truest 1 = .ok (.iload_n 2, 1) := by decide +kernel
theorem dX10_truest_2 : decode cX10_truest 2 = .ok (.iconst 0, 1) := by decide +kernel
theorem dX10_truest_3 : decode cX10_truest 3 = .ok (.iload 4, 2) := by decide +kernel
theorem dX10_truest_5 : decode cX10_truest 5 = .ok (.invokestatic 279, 3) := by decide +kernel
theorem dX10_truest_8 : decode cX10_truest 8 = .ok (.ifCond .eq 18, 3) := by decide +kernel
theorem dX10_truest_11 : decode cX10_truest 11 = .ok (.iload_n 3, 1) := by decide +kernel
theorem dX10_truest_12 : decode cX10_truest 12 = .ok (.sipush 9999, 3) := by decide +kernel
theorem dX10_truest_15 : decode cX10_truest 15 = .ok (.if_icmp .gt 11, 3) := by decide +kernel
theorem dX10_truest_18 : decode cX10_truest 18 = .ok (.iload_n 2, 1) := by decide +kernel
theorem dX10_truest_19 : decode cX10_truest 19 = .ok (.iload_n 3, 1) := by decide +kernel
theorem dX10_truest_20 : decode cX10_truest 20 = .ok (.invokestatic 266, 3) := by decide +kernel
theorem dX10_truest_23 : decode cX10_truest 23 = .ok (.ifCond .ne 5, 3) := by decide +kernel
theorem dX10_truest_26 : decode cX10_truest 26 = .ok (.iconst (-1), 1) := by decide +kernel
theorem dX10_truest_27 : decode cX10_truest 27 = .ok (.ireturn, 1) := by decide +kernel
theorem dX10_truest_28 : decode cX10_truest 28 = .ok (.bipush (-4), 2) := by decide +kernel
theorem dX10_truest_30 : decode cX10_truest 30 = .ok (.istore 5, 2) := by decide +kernel
theorem dX10_truest_32 : decode cX10_truest 32 = .ok (.lconst 0, 1) := by decide +kernel
theorem dX10_truest_33 : decode cX10_truest 33 = .ok (.lstore 6, 2) := by decide +kernel
theorem dX10_truest_35 : decode cX10_truest 35 = .ok (.lconst 1, 1) := by decide +kernel
theorem dX10_truest_36 : decode cX10_truest 36 = .ok (.lstore 8, 2) := by decide +kernel
theorem dX10_truest_38 : decode cX10_truest 38 = .ok (.iload_n 2, 1) := by decide +kernel
theorem dX10_truest_39 : decode cX10_truest 39 = .ok (.istore 10, 2) := by decide +kernel
theorem dX10_truest_41 : decode cX10_truest 41 = .ok (.iload 10, 2) := by decide +kernel
theorem dX10_truest_43 : decode cX10_truest 43 = .ok (.iload_n 3, 1) := by decide +kernel
theorem dX10_truest_44 : decode cX10_truest 44 = .ok (.if_icmp .gt 95, 3) := by decide +kernel
theorem dX10_truest_47 : decode cX10_truest 47 = .ok (.aload_n 0, 1) := by decide +kernel
theorem dX10_truest_48 : decode cX10_truest 48 = .ok (.getfield 59, 3) := by decide +kernel
theorem dX10_truest_51 : decode cX10_truest 51 = .ok (.aload_n 0, 1) := by decide +kernel
theorem dX10_truest_52 : decode cX10_truest 52 = .ok (.getfield 19, 3) := by decide +kernel
theorem dX10_truest_55 : decode cX10_truest 55 = .ok (.iload_n 1, 1) := by decide +kernel
theorem dX10_truest_56 : decode cX10_truest 56 = .ok (.iload 10, 2) := by decide +kernel
theorem dX10_truest_58 : decode cX10_truest 58 = .ok (.iconst 0, 1) := by decide +kernel
theorem dX10_truest_59 : decode cX10_truest 59 = .ok (.iload 4, 2) := by decide +kernel
theorem dX10_truest_61 : decode cX10_truest 61 = .ok (.invokevirtual 283, 3) := by decide +kernel
theorem dX10_truest_64 : decode cX10_truest 64 = .ok (.aload_n 0, 1) := by decide +kernel
theorem dX10_truest_65 : decode cX10_truest 65 = .ok (.getfield 59, 3) := by decide +kernel
theorem dX10_truest_68 : decode cX10_truest 68 = .ok (.aload_n 0, 1) := by decide +kernel
theorem dX10_truest_69 : decode cX10_truest 69 = .ok (.getfield 19, 3) := by decide +kernel
theorem dX10_truest_72 : decode cX10_truest 72 = .ok (.iload_n 1, 1) := by decide +kernel
theorem dX10_truest_73 : decode cX10_truest 73 = .ok (.invokevirtual 306, 3) := by decide +kernel
theorem dX10_truest_76 : decode cX10_truest 76 = .ok (.lstore 11, 2) := by decide +kernel
theorem dX10_truest_78 : decode cX10_truest 78 = .ok (.aload_n 0, 1) := by decide +kernel
theorem dX10_truest_79 : decode cX10_truest 79 = .ok (.getfield 59, 3) := by decide +kernel
theorem dX10_truest_82 : decode cX10_truest 82 = .ok (.getfield 290, 3) := by decide +kernel
theorem dX10_truest_85 : decode cX10_truest 85 = .ok (.ifCond .le 48, 3) := by decide +kernel
theorem dX10_truest_88 : decode cX10_truest 88 = .ok (.iload 5, 2) := by decide +kernel
theorem dX10_truest_90 : decode cX10_truest 90 = .ok (.bipush (-4), 2) := by decide +kernel
theorem dX10_truest_92 : decode cX10_truest 92 = .ok (.if_icmp .eq 23, 3) := by decide +kernel
theorem dX10_truest_95 : decode cX10_truest 95 = .ok (.lload 11, 2) := by decide +kernel
theorem dX10_truest_97 : decode cX10_truest 97 = .ok (.lload 8, 2) := by decide +kernel
theorem dX10_truest_99 : decode cX10_truest 99 = .ok (.lmul, 1) := by decide +kernel
theorem dX10_truest_100 : decode cX10_truest 100 = .ok (.lload 6, 2) := by decide +kernel
theorem dX10_truest_102 : decode cX10_truest 102 = .ok (.aload_n 0, 1) := by decide +kernel
theorem dX10_truest_103 : decode cX10_truest 103 = .ok (.getfield 59, 3) := by decide +kernel
theorem dX10_truest_106 : decode cX10_truest 106 = .ok (.getfield 290, 3) := by decide +kernel
theorem dX10_truest_109 : decode cX10_truest 109 = .ok (.i2l, 1) := by decide +kernel
theorem dX10_truest_110 : decode cX10_truest 110 = .ok (.lmul, 1) := by decide +kernel
theorem dX10_truest_111 : decode cX10_truest 111 = .ok (.lcmp, 1) := by decide +kernel
theorem dX10_truest_112 : decode cX10_truest 112 = .ok (.ifCond .ge 21, 3) := by decide +kernel
theorem dX10_truest_115 : decode cX10_truest 115 = .ok (.iload 10, 2) := by decide +kernel
theorem dX10_truest_117 : decode cX10_truest 117 = .ok (.istore 5, 2) := by decide +kernel
theorem dX10_truest_119 : decode cX10_truest 119 = .ok (.lload 11, 2) := by decide +kernel
theorem dX10_truest_121 : decode cX10_truest 121 = .ok (.lstore 6, 2) := by decide +kernel
theorem dX10_truest_123 : decode cX10_truest 123 = .ok (.aload_n 0, 1) := by decide +kernel
theorem dX10_truest_124 : decode cX10_truest 124 = .ok (.getfield 59, 3) := by decide +kernel
theorem dX10_truest_127 : decode cX10_truest 127 = .ok (.getfield 290, 3) := by decide +kernel
theorem dX10_truest_130 : decode cX10_truest 130 = .ok (.i2l, 1) := by decide +kernel
theorem dX10_truest_131 : decode cX10_truest 131 = .ok (.lstore 8, 2) := by decide +kernel
theorem dX10_truest_133 : decode cX10_truest 133 = .ok (.iinc 10 1, 3) := by decide +kernel
theorem dX10_truest_136 : decode cX10_truest 136 = .ok (.goto (-95), 3) := by decide +kernel
theorem dX10_truest_139 : decode cX10_truest 139 = .ok (.iload 5, 2) := by decide +kernel
theorem dX10_truest_141 : decode cX10_truest 141 = .ok (.ireturn, 1) := by decide +kernel
set_option maxRecDepth 100000 in
set_option maxHeartbeats 4000000 in
theorem M_X10_truest (G : zG) (l : Launch) {a1 : Int32} {a2 : Int32} {a3 : Int32} {a4 : Int32} {σ : zS} {r : Int32} {σ' : zS} (hJ : J_X10_truest a1 a2 a3 a4 σ = some (r, σ')) : zMI G l yX10_truest cX10_truest 13 (some .int) (zrm 3 73) [.ref (G.1 + 0), .int a1, .int a2, .int a3, .int a4] 137 (zen G σ) r 137 (zen G σ') := by
  unfold J_X10_truest at hJ
  refine zentI (by decide +kernel) (Nat.le_of_ble_eq_true rfl) ?_
  intro p e s m args below meth c C hret
  refine zr_sub [0, 1, 2, 3, 4] [(0, .ref (G.1 + 0)), (1, .int a1), (2, .int a2), (3, .int a3), (4, .int a4)] rfl ?_
  refine zr_iload_n C 1 dX10_truest_0 rfl ?_
  refine zr_iload_n C 2 dX10_truest_1 rfl ?_
  refine zr_iconst C dX10_truest_2 (v := (0 : Int32)) (by decide) ?_
  refine zr_iload C 4 dX10_truest_3 rfl ?_
  obtain ⟨r1, hr1, hJ⟩ := zb_e hJ
  refine zr_callSI C (M_X10_areSamples G l hr1) zin_X10_areSamples zm_37_13 rfl rfl (Nat.le_of_ble_eq_true rfl) ⟨Nat.le_of_ble_eq_true rfl, Nat.le_of_ble_eq_true rfl⟩ ⟨Nat.le_of_ble_eq_true rfl, Nat.le_of_ble_eq_true rfl⟩ dX10_truest_5 ?_
  refine zr_if_eq C 26 dX10_truest_8 (by decide) (fun hc2 => ?_) (fun hc2 => ?_)
  · have hJ := zif hc2 hJ
    refine zr_iconst C dX10_truest_26 (v := (-1 : Int32)) (by decide) ?_
    exact zr_iret C hret (Prod.mk.inj (zs_e hJ)).1 rfl (congrArg (zen G) (Prod.mk.inj (zs_e hJ)).2) dX10_truest_27
  · have hJ := zif' hc2 hJ
    refine zr_iload_n C 3 dX10_truest_11 rfl ?_
    refine zr_sipush C dX10_truest_12 (v := (9999 : Int32)) (by decide) ?_
    refine zr_icmp_gt C 26 dX10_truest_15 (by decide) (fun hc3 => ?_) (fun hc3 => ?_)
    · have hJ := zif hc3 hJ
      refine zr_iconst C dX10_truest_26 (v := (-1 : Int32)) (by decide) ?_
      exact zr_iret C hret (Prod.mk.inj (zs_e hJ)).1 rfl (congrArg (zen G) (Prod.mk.inj (zs_e hJ)).2) dX10_truest_27
    · have hJ := zif' hc3 hJ
      refine zr_iload_n C 2 dX10_truest_18 rfl ?_
      refine zr_iload_n C 3 dX10_truest_19 rfl ?_
      obtain ⟨r4, hr4, hJ⟩ := zb_e hJ
      refine zr_callSI C (M_X10_isRange G l hr4) zin_X10_isRange zm_36_21 rfl rfl (Nat.le_of_ble_eq_true rfl) ⟨Nat.le_of_ble_eq_true rfl, Nat.le_of_ble_eq_true rfl⟩ ⟨Nat.le_of_ble_eq_true rfl, Nat.le_of_ble_eq_true rfl⟩ dX10_truest_20 ?_
      refine zr_if_ne C 28 dX10_truest_23 (by decide) (fun hc5 => ?_) (fun hc5 => ?_)
      · have hJ := zif' hc5 hJ
        refine zr_bipush C dX10_truest_28 (v := (-4 : Int32)) (by decide) ?_
        refine zr_istore C [(5, .int (-4 : Int32)), (0, .ref (G.1 + 0)), (1, .int a1), (2, .int a2), (3, .int a3), (4, .int a4)] dX10_truest_30 (by decide) rfl ?_
        refine zr_lconst C dX10_truest_32 (v := (0 : Int64)) (by decide) ?_
        refine zr_lstore C [(6, .long (0 : Int64)), (5, .int (-4 : Int32)), (0, .ref (G.1 + 0)), (1, .int a1), (2, .int a2), (3, .int a3), (4, .int a4)] dX10_truest_33 (by decide) rfl ?_
        refine zr_lconst C dX10_truest_35 (v := (1 : Int64)) (by decide) ?_
        refine zr_lstore C [(8, .long (1 : Int64)), (6, .long (0 : Int64)), (5, .int (-4 : Int32)), (0, .ref (G.1 + 0)), (1, .int a1), (2, .int a2), (3, .int a3), (4, .int a4)] dX10_truest_36 (by decide) rfl ?_
        refine zr_iload_n C 5 dX10_truest_38 rfl ?_
        refine zr_istore C [(10, .int a2), (8, .long (1 : Int64)), (6, .long (0 : Int64)), (5, .int (-4 : Int32)), (0, .ref (G.1 + 0)), (1, .int a1), (2, .int a2), (3, .int a3), (4, .int a4)] dX10_truest_39 (by decide) rfl ?_
        have hl41 : ∀ (n : Nat) (w5_41 : Int32) (w6_41 : Int64) (w8_41 : Int64) (w10_41 : Int32) (σ_41 : zS), L_X10_truest_41 a1 a3 a4 n w5_41 w6_41 w8_41 w10_41 σ_41 = some (r, σ') → zU G 13 p l e (zrm 3 73) s m args below meth c (MQ below (va_Qi (fun x (_ : Unit) => x = r) (fun _ t => zok G 137 (zen G σ') t) (zA G)) args s 0 0 (zA G)) σ_41 41 [(0, .ref (G.1 + 0)), (1, .int a1), (3, .int a3), (4, .int a4), (5, .int w5_41), (6, .long w6_41), (8, .long w8_41), (10, .int w10_41)] [] := by
          intro n
          induction n with
          | zero =>
            intro w5_41 w6_41 w8_41 w10_41 σ_41 hJ
            rw [L_X10_truest_41] at hJ
            cases hJ
          | succ n ih =>
            intro w5_41 w6_41 w8_41 w10_41 σ_41 hJ
            rw [L_X10_truest_41] at hJ
            obtain ⟨r_41, hr_41, hJ⟩ := zlet_e hJ
            have ih41 : ∀ (w5_41 : Int32) (w6_41 : Int64) (w8_41 : Int64) (w10_41 : Int32) (σ_41 : zS), r_41 w5_41 w6_41 w8_41 w10_41 σ_41 = some (r, σ') → zU G 13 p l e (zrm 3 73) s m args below meth c (MQ below (va_Qi (fun x (_ : Unit) => x = r) (fun _ t => zok G 137 (zen G σ') t) (zA G)) args s 0 0 (zA G)) σ_41 41 [(0, .ref (G.1 + 0)), (1, .int a1), (3, .int a3), (4, .int a4), (5, .int w5_41), (6, .long w6_41), (8, .long w8_41), (10, .int w10_41)] [] := by
              rw [hr_41]
              exact ih
            refine zr_iload C 7 dX10_truest_41 rfl ?_
            refine zr_iload_n C 2 dX10_truest_43 rfl ?_
            refine zr_icmp_gt C 139 dX10_truest_44 (by decide) (fun hc6 => ?_) (fun hc6 => ?_)
            · have hJ := zif hc6 hJ
              refine zr_iload C 4 dX10_truest_139 rfl ?_
              exact zr_iret C hret (Prod.mk.inj (zs_e hJ)).1 rfl (congrArg (zen G) (Prod.mk.inj (zs_e hJ)).2) dX10_truest_141
            · have hJ := zif' hc6 hJ
              refine zr_aload_n C 0 dX10_truest_47 rfl ?_
              refine zg_10_7 C 0 zk_0 zm_2_17 dX10_truest_48 ?_
              refine zr_aload_n C 0 dX10_truest_51 rfl ?_
              obtain ⟨p7, hp7, hJ⟩ := zlet_e hJ
              obtain ⟨hp8, hJ⟩ := zg_e hJ
              refine zg_10_1 C 0 zk_0 zm_1_20 dX10_truest_52 ?_
              refine zr_topr hp7 ?_
              refine zr_iload_n C 1 dX10_truest_55 rfl ?_
              refine zr_iload C 7 dX10_truest_56 rfl ?_
              refine zr_iconst C dX10_truest_58 (v := (0 : Int32)) (by decide) ?_
              refine zr_iload C 3 dX10_truest_59 rfl ?_
              obtain ⟨σ10, hr9, hJ⟩ := zb_e hJ
              refine zr_callVV C 89 (zk_lt zk_89 (by decide)) (zen_obj zk_89) (rfl : zcl[6]? = some (RX6, TX6, 3)) (M_X6_take G l hp8 hr9) zin_X6_take zm_37_16 rfl rfl (Nat.le_of_ble_eq_true rfl) ⟨Nat.le_of_ble_eq_true rfl, Nat.le_of_ble_eq_true rfl⟩ ⟨Nat.le_of_ble_eq_true rfl, Nat.le_of_ble_eq_true rfl⟩ dX10_truest_61 ?_
              refine zr_aload_n C 0 dX10_truest_64 rfl ?_
              refine zg_10_7 C 0 zk_0 zm_2_17 dX10_truest_65 ?_
              refine zr_aload_n C 0 dX10_truest_68 rfl ?_
              obtain ⟨p11, hp11, hJ⟩ := zlet_e hJ
              obtain ⟨hp12, hJ⟩ := zg_e hJ
              refine zg_10_1 C 0 zk_0 zm_1_20 dX10_truest_69 ?_
              refine zr_topr hp11 ?_
              refine zr_iload_n C 1 dX10_truest_72 rfl ?_
              obtain ⟨r13, hr13, hJ⟩ := zb_e hJ
              refine zr_callVL C 89 (zk_lt zk_89 (by decide)) (zen_obj zk_89) (rfl : zcl[6]? = some (RX6, TX6, 3)) (M_X6_farFrom G l hp12 hr13) zin_X6_farFrom zm_39_23 rfl rfl (Nat.le_of_ble_eq_true rfl) ⟨Nat.le_of_ble_eq_true rfl, Nat.le_of_ble_eq_true rfl⟩ ⟨Nat.le_of_ble_eq_true rfl, Nat.le_of_ble_eq_true rfl⟩ dX10_truest_73 ?_
              refine zr_lstore C [(11, .long r13), (0, .ref (G.1 + 0)), (1, .int a1), (3, .int a3), (4, .int a4), (5, .int w5_41), (6, .long w6_41), (8, .long w8_41), (10, .int w10_41)] dX10_truest_76 (by decide) rfl ?_
              refine zr_aload_n C 1 dX10_truest_78 rfl ?_
              refine zg_10_7 C 0 zk_0 zm_2_17 dX10_truest_79 ?_
              refine zg_6_1 C 89 zk_89 zm_38_23 dX10_truest_82 ?_
              obtain ⟨v14, hv14, hJ⟩ := zlet_e hJ
              obtain ⟨v15, hv15, hJ⟩ := zlet_e hJ
              obtain ⟨v16, hv16, hJ⟩ := zlet_e hJ
              have hf18 : zU G 13 p l e (zrm 3 73) s m args below meth c (MQ below (va_Qi (fun x (_ : Unit) => x = r) (fun _ t => zok G 137 (zen G σ') t) (zA G)) args s 0 0 (zA G)) σ10 133 [(0, .ref (G.1 + 0)), (1, .int a1), (3, .int a3), (4, .int a4), (5, .int v14), (6, .long v15), (8, .long v16), (10, .int w10_41)] [] := by
                obtain ⟨v17, hv17, hJ⟩ := zlet_e hJ
                refine zr_iinc C v17 7 [(10, .int v17), (0, .ref (G.1 + 0)), (1, .int a1), (3, .int a3), (4, .int a4), (5, .int v14), (6, .long v15), (8, .long v16)] dX10_truest_133 rfl (hv17.trans (zinc (by decide))) (by decide) rfl ?_
                refine zr_goto C 41 dX10_truest_136 (by decide) ?_
                refine zr_sub [1, 2, 3, 4, 5, 6, 7, 0] [(0, .ref (G.1 + 0)), (1, .int a1), (3, .int a3), (4, .int a4), (5, .int v14), (6, .long v15), (8, .long v16), (10, .int v17)] rfl ?_
                exact ih41 _ _ _ _ _ hJ
              refine zr_if_le C 133 dX10_truest_85 (by decide) (fun hc19 => ?_) (fun hc19 => ?_)
              · have hv14 := hv14.trans (if_pos hc19)
                have hv15 := hv15.trans (if_pos hc19)
                have hv16 := hv16.trans (if_pos hc19)
                refine zr_sub [1, 2, 3, 4, 5, 6, 7, 8] [(0, .ref (G.1 + 0)), (1, .int a1), (3, .int a3), (4, .int a4), (5, .int w5_41), (6, .long w6_41), (8, .long w8_41), (10, .int w10_41)] rfl ?_
                rw [hv14, hv15, hv16] at hf18
                exact hf18
              · have hv14 := hv14.trans (if_neg hc19)
                have hv15 := hv15.trans (if_neg hc19)
                have hv16 := hv16.trans (if_neg hc19)
                refine zr_iload C 5 dX10_truest_88 rfl ?_
                refine zr_bipush C dX10_truest_90 (v := (-4 : Int32)) (by decide) ?_
                refine zr_icmp_eq C 115 dX10_truest_92 (by decide) (fun hc20 => ?_) (fun hc20 => ?_)
                · have hv14 := hv14.trans (if_pos hc20)
                  have hv15 := hv15.trans (if_pos hc20)
                  have hv16 := hv16.trans (if_pos hc20)
                  refine zr_iload C 8 dX10_truest_115 rfl ?_
                  refine zr_istore C [(5, .int w10_41), (11, .long r13), (0, .ref (G.1 + 0)), (1, .int a1), (3, .int a3), (4, .int a4), (6, .long w6_41), (8, .long w8_41), (10, .int w10_41)] dX10_truest_117 (by decide) rfl ?_
                  refine zr_lload C 1 dX10_truest_119 rfl ?_
                  refine zr_lstore C [(6, .long r13), (5, .int w10_41), (11, .long r13), (0, .ref (G.1 + 0)), (1, .int a1), (3, .int a3), (4, .int a4), (8, .long w8_41), (10, .int w10_41)] dX10_truest_121 (by decide) rfl ?_
                  refine zr_aload_n C 3 dX10_truest_123 rfl ?_
                  refine zg_10_7 C 0 zk_0 zm_2_17 dX10_truest_124 ?_
                  refine zg_6_1 C 89 zk_89 zm_38_23 dX10_truest_127 ?_
                  refine zr_i2l C dX10_truest_130 ?_
                  refine zr_lstore C [(8, .long ((σ10.1 89 1).toInt64)), (6, .long r13), (5, .int w10_41), (11, .long r13), (0, .ref (G.1 + 0)), (1, .int a1), (3, .int a3), (4, .int a4), (10, .int w10_41)] dX10_truest_131 (by decide) rfl ?_
                  refine zr_sub [4, 5, 6, 7, 2, 1, 0, 8] [(0, .ref (G.1 + 0)), (1, .int a1), (3, .int a3), (4, .int a4), (5, .int w10_41), (6, .long r13), (8, .long ((σ10.1 89 1).toInt64)), (10, .int w10_41)] rfl ?_
                  rw [hv14, hv15, hv16] at hf18
                  exact hf18
                · have hv14 := hv14.trans (if_neg hc20)
                  have hv15 := hv15.trans (if_neg hc20)
                  have hv16 := hv16.trans (if_neg hc20)
                  refine zr_lload C 0 dX10_truest_95 rfl ?_
                  refine zr_lload C 7 dX10_truest_97 rfl ?_
                  refine zr_lmul C dX10_truest_99 ?_
                  refine zr_lload C 6 dX10_truest_100 rfl ?_
                  refine zr_aload_n C 1 dX10_truest_102 rfl ?_
                  refine zg_10_7 C 0 zk_0 zm_2_17 dX10_truest_103 ?_
                  refine zg_6_1 C 89 zk_89 zm_38_23 dX10_truest_106 ?_
                  refine zr_i2l C dX10_truest_109 ?_
                  refine zr_lmul C dX10_truest_110 ?_
                  refine zr_lcmp C dX10_truest_111 ?_
                  refine zr_if_ge C 133 dX10_truest_112 (by decide) (fun hc21 => ?_) (fun hc21 => ?_)
                  · have hv14 := hv14.trans (if_pos hc21)
                    have hv15 := hv15.trans (if_pos hc21)
                    have hv16 := hv16.trans (if_pos hc21)
                    refine zr_sub [1, 2, 3, 4, 5, 6, 7, 8] [(0, .ref (G.1 + 0)), (1, .int a1), (3, .int a3), (4, .int a4), (5, .int w5_41), (6, .long w6_41), (8, .long w8_41), (10, .int w10_41)] rfl ?_
                    rw [hv14, hv15, hv16] at hf18
                    exact hf18
                  · have hv14 := hv14.trans (if_neg hc21)
                    have hv15 := hv15.trans (if_neg hc21)
                    have hv16 := hv16.trans (if_neg hc21)
                    refine zr_iload C 8 dX10_truest_115 rfl ?_
                    refine zr_istore C [(5, .int w10_41), (11, .long r13), (0, .ref (G.1 + 0)), (1, .int a1), (3, .int a3), (4, .int a4), (6, .long w6_41), (8, .long w8_41), (10, .int w10_41)] dX10_truest_117 (by decide) rfl ?_
                    refine zr_lload C 1 dX10_truest_119 rfl ?_
                    refine zr_lstore C [(6, .long r13), (5, .int w10_41), (11, .long r13), (0, .ref (G.1 + 0)), (1, .int a1), (3, .int a3), (4, .int a4), (8, .long w8_41), (10, .int w10_41)] dX10_truest_121 (by decide) rfl ?_
                    refine zr_aload_n C 3 dX10_truest_123 rfl ?_
                    refine zg_10_7 C 0 zk_0 zm_2_17 dX10_truest_124 ?_
                    refine zg_6_1 C 89 zk_89 zm_38_23 dX10_truest_127 ?_
                    refine zr_i2l C dX10_truest_130 ?_
                    refine zr_lstore C [(8, .long ((σ10.1 89 1).toInt64)), (6, .long r13), (5, .int w10_41), (11, .long r13), (0, .ref (G.1 + 0)), (1, .int a1), (3, .int a3), (4, .int a4), (10, .int w10_41)] dX10_truest_131 (by decide) rfl ?_
                    refine zr_sub [4, 5, 6, 7, 2, 1, 0, 8] [(0, .ref (G.1 + 0)), (1, .int a1), (3, .int a3), (4, .int a4), (5, .int w10_41), (6, .long r13), (8, .long ((σ10.1 89 1).toInt64)), (10, .int w10_41)] rfl ?_
                    rw [hv14, hv15, hv16] at hf18
                    exact hf18
        refine zr_sub [4, 5, 7, 8, 3, 2, 1, 0] [(0, .ref (G.1 + 0)), (1, .int a1), (3, .int a3), (4, .int a4), (5, .int (-4 : Int32)), (6, .long (0 : Int64)), (8, .long (1 : Int64)), (10, .int a2)] rfl ?_
        exact hl41 _ _ _ _ _ _ hJ
      · have hJ := zif hc5 hJ
        refine zr_iconst C dX10_truest_26 (v := (-1 : Int32)) (by decide) ?_
        exact zr_iret C hret (Prod.mk.inj (zs_e hJ)).1 rfl (congrArg (zen G) (Prod.mk.inj (zs_e hJ)).2) dX10_truest_27
theorem dX3_totalIn_0 : decode cX3_totalIn 0 = .ok (.aload_n 0, 1) := by decide +kernel
theorem dX3_totalIn_1 : decode cX3_totalIn 1 = .ok (.aload_n 0, 1) := by decide +kernel
theorem dX3_totalIn_2 : decode cX3_totalIn 2 = .ok (.getfield 42, 3) := by decide +kernel
theorem dX3_totalIn_5 : decode cX3_totalIn 5 = .ok (.iload_n 1, 1) := by decide +kernel
theorem dX3_totalIn_6 : decode cX3_totalIn 6 = .ok (.iaload, 1) := by decide +kernel
theorem dX3_totalIn_7 : decode cX3_totalIn 7 = .ok (.aload_n 0, 1) := by decide +kernel
theorem dX3_totalIn_8 : decode cX3_totalIn 8 = .ok (.getfield 45, 3) := by decide +kernel
theorem dX3_totalIn_11 : decode cX3_totalIn 11 = .ok (.iload_n 1, 1) := by decide +kernel
theorem dX3_totalIn_12 : decode cX3_totalIn 12 = .ok (.iaload, 1) := by decide +kernel
theorem dX3_totalIn_13 : decode cX3_totalIn 13 = .ok (.iload_n 2, 1) := by decide +kernel
theorem dX3_totalIn_14 : decode cX3_totalIn 14 = .ok (.invokevirtual 78, 3) := by decide +kernel
theorem dX3_totalIn_17 : decode cX3_totalIn 17 = .ok (.ireturn, 1) := by decide +kernel
set_option maxRecDepth 100000 in
set_option maxHeartbeats 4000000 in
theorem M_X3_totalIn (G : zG) (l : Launch) {p0 : Nat} (hp0 : zP p0 = true) {a1 : Int32} {a2 : Int32} {σ : zS} {r : Int32} (hJ : J_X3_totalIn p0 a1 a2 σ = some r) : zMI G l yX3_totalIn cX3_totalIn 3 (some .int) (zrm 1 25) [.ref (G.1 + p0), .int a1, .int a2] 137 (zen G σ) r 137 (zen G σ) := by
  unfold J_X3_totalIn at hJ
  refine zentI (by decide +kernel) (Nat.le_of_ble_eq_true rfl) ?_
  intro p e s m args below meth c C hret
  refine zr_sub [0, 1, 2] [(0, .ref (G.1 + p0)), (1, .int a1), (2, .int a2)] rfl ?_
  refine zr_aload_n C 0 dX3_totalIn_0 rfl ?_
  refine zr_aload_n C 0 dX3_totalIn_1 rfl ?_
  refine zg_3_9 C p0 (zkP_0 hp0) zm_4_3 dX3_totalIn_2 ?_
  refine zr_iload_n C 1 dX3_totalIn_5 rfl ?_
  obtain ⟨hg1, hJ⟩ := zg_e hJ
  refine zu_iald C (p0 + 24) (zkP_24 hp0) hg1 dX3_totalIn_6 ?_
  refine zr_aload_n C 0 dX3_totalIn_7 rfl ?_
  refine zg_3_10 C p0 (zkP_0 hp0) zm_4_4 dX3_totalIn_8 ?_
  refine zr_iload_n C 1 dX3_totalIn_11 rfl ?_
  obtain ⟨hg2, hJ⟩ := zg_e hJ
  refine zu_iald C (p0 + 25) (zkP_25 hp0) hg2 dX3_totalIn_12 ?_
  refine zr_iload_n C 2 dX3_totalIn_13 rfl ?_
  obtain ⟨r3, hr3, hJ⟩ := zb_e hJ
  refine zr_callVI C p0 (zk_lt (zkP_0 hp0) (by decide)) (zen_obj (zkP_0 hp0)) (rfl : zcl[3]? = some (RX3, TX3, 19)) (M_X3_totalBetween G l hp0 hr3) zin_X3_totalBetween zm_22_15 rfl rfl (Nat.le_of_ble_eq_true rfl) ⟨Nat.le_of_ble_eq_true rfl, Nat.le_of_ble_eq_true rfl⟩ ⟨Nat.le_of_ble_eq_true rfl, Nat.le_of_ble_eq_true rfl⟩ dX3_totalIn_14 ?_
  exact zr_iret C hret (zs_e hJ) rfl rfl dX3_totalIn_17
theorem dX10_went_0 : decode cX10_went 0 = .ok (.aload_n 0, 1) := by decide +kernel
theorem dX10_went_1 : decode cX10_went 1 = .ok (.getfield 19, 3) := by decide +kernel
theorem dX10_went_4 : decode cX10_went 4 = .ok (.iload_n 1, 1) := by decide +kernel
theorem dX10_went_5 : decode cX10_went 5 = .ok (.invokevirtual 159, 3) := by decide +kernel
theorem dX10_went_8 : decode cX10_went 8 = .ok (.ifCond .eq 20, 3) := by decide +kernel
theorem dX10_went_11 : decode cX10_went 11 = .ok (.iload_n 2, 1) := by decide +kernel
theorem dX10_went_12 : decode cX10_went 12 = .ok (.invokestatic 120, 3) := by decide +kernel
theorem dX10_went_15 : decode cX10_went 15 = .ok (.ifCond .eq 13, 3) := by decide +kernel
theorem dX10_went_18 : decode cX10_went 18 = .ok (.iload_n 3, 1) := by decide +kernel
theorem dX10_went_19 : decode cX10_went 19 = .ok (.ifCond .lt 9, 3) := by decide +kernel
theorem dX10_went_22 : decode cX10_went 22 = .ok (.iload_n 3, 1) := by decide +kernel
theorem dX10_went_23 : decode cX10_went 23 = .ok (.ldc 177, 2) := by decide +kernel
theorem dX10_went_25 : decode cX10_went 25 = .ok (.if_icmp .le 5, 3) := by decide +kernel
theorem dX10_went_28 : decode cX10_went 28 = .ok (.iconst (-1), 1) := by decide +kernel
theorem dX10_went_29 : decode cX10_went 29 = .ok (.ireturn, 1) := by decide +kernel
theorem dX10_went_30 : decode cX10_went 30 = .ok (.aload_n 0, 1) := by decide +kernel
theorem dX10_went_31 : decode cX10_went 31 = .ok (.getfield 19, 3) := by decide +kernel
theorem dX10_went_34 : decode cX10_went 34 = .ok (.iload_n 1, 1) := by decide +kernel
theorem dX10_went_35 : decode cX10_went 35 = .ok (.iload_n 2, 1) := by decide +kernel
theorem dX10_went_36 : decode cX10_went 36 = .ok (.invokevirtual 178, 3) := by decide +kernel
theorem dX10_went_39 : decode cX10_went 39 = .ok (.istore 4, 2) := by decide +kernel
theorem dX10_went_41 : decode cX10_went 41 = .ok (.iload_n 3, 1) := by decide +kernel
theorem dX10_went_42 : decode cX10_went 42 = .ok (.aload_n 0, 1) := by decide +kernel
theorem dX10_went_43 : decode cX10_went 43 = .ok (.getfield 19, 3) := by decide +kernel
theorem dX10_went_46 : decode cX10_went 46 = .ok (.iload_n 2, 1) := by decide +kernel
theorem dX10_went_47 : decode cX10_went 47 = .ok (.invokevirtual 148, 3) := by decide +kernel
theorem dX10_went_50 : decode cX10_went 50 = .ok (.iload 4, 2) := by decide +kernel
theorem dX10_went_52 : decode cX10_went 52 = .ok (.isub, 1) := by decide +kernel
theorem dX10_went_53 : decode cX10_went 53 = .ok (.isub, 1) := by decide +kernel
theorem dX10_went_54 : decode cX10_went 54 = .ok (.istore 5, 2) := by decide +kernel
theorem dX10_went_56 : decode cX10_went 56 = .ok (.aload_n 0, 1) := by decide +kernel
theorem dX10_went_57 : decode cX10_went 57 = .ok (.getfield 19, 3) := by decide +kernel
theorem dX10_went_60 : decode cX10_went 60 = .ok (.getfield 162, 3) := by decide +kernel
theorem dX10_went_63 : decode cX10_went 63 = .ok (.iload_n 1, 1) := by decide +kernel
theorem dX10_went_64 : decode cX10_went 64 = .ok (.iaload, 1) := by decide +kernel
theorem dX10_went_65 : decode cX10_went 65 = .ok (.istore 6, 2) := by decide +kernel
theorem dX10_went_67 : decode cX10_went 67 = .ok (.iload 6, 2) := by decide +kernel
theorem dX10_went_69 : decode cX10_went 69 = .ok (.iconst 1, 1) := by decide +kernel
theorem dX10_went_70 : decode cX10_went 70 = .ok (.if_icmp .ge 7, 3) := by decide +kernel
theorem dX10_went_73 : decode cX10_went 73 = .ok (.iconst 0, 1) := by decide +kernel
theorem dX10_went_74 : decode cX10_went 74 = .ok (.goto 8, 3) := by decide +kernel
theorem dX10_went_77 : decode cX10_went 77 = .ok (.iload 4, 2) := by decide +kernel
theorem dX10_went_79 : decode cX10_went 79 = .ok (.iload 6, 2) := by decide +kernel
theorem dX10_went_81 : decode cX10_went 81 = .ok (.idiv, 1) := by decide +kernel
theorem dX10_went_82 : decode cX10_went 82 = .ok (.istore 7, 2) := by decide +kernel
theorem dX10_went_84 : decode cX10_went 84 = .ok (.iload 7, 2) := by decide +kernel
theorem dX10_went_86 : decode cX10_went 86 = .ok (.iconst 1, 1) := by decide +kernel
theorem dX10_went_87 : decode cX10_went 87 = .ok (.if_icmp .ge 15, 3) := by decide +kernel
theorem dX10_went_90 : decode cX10_went 90 = .ok (.iload 5, 2) := by decide +kernel
theorem dX10_went_92 : decode cX10_went 92 = .ok (.ifCond .ne 7, 3) := by decide +kernel
theorem dX10_went_95 : decode cX10_went 95 = .ok (.iconst 0, 1) := by decide +kernel
theorem dX10_went_96 : decode cX10_went 96 = .ok (.goto 5, 3) := by decide +kernel
theorem dX10_went_99 : decode cX10_went 99 = .ok (.bipush (-4), 2) := by decide +kernel
theorem dX10_went_101 : decode cX10_went 101 = .ok (.ireturn, 1) := by decide +kernel
theorem dX10_went_102 : decode cX10_went 102 = .ok (.iload 5, 2) := by decide +kernel
theorem dX10_went_104 : decode cX10_went 104 = .ok (.ifCond .lt 26, 3) := by decide +kernel
theorem dX10_went_107 : decode cX10_went 107 = .ok (.iload 5, 2) := by decide +kernel
theorem dX10_went_109 : decode cX10_went 109 = .ok (.iload 7, 2) := by decide +kernel
theorem dX10_went_111 : decode cX10_went 111 = .ok (.irem, 1) := by decide +kernel
theorem dX10_went_112 : decode cX10_went 112 = .ok (.ifCond .ne 18, 3) := by decide +kernel
theorem dX10_went_115 : decode cX10_went 115 = .ok (.iload 5, 2) := by decide +kernel
theorem dX10_went_117 : decode cX10_went 117 = .ok (.iload 7, 2) := by decide +kernel
theorem dX10_went_119 : decode cX10_went 119 = .ok (.idiv, 1) := by decide +kernel
theorem dX10_went_120 : decode cX10_went 120 = .ok (.sipush 9999, 3) := by decide +kernel
theorem dX10_went_123 : decode cX10_went 123 = .ok (.if_icmp .gt 7, 3) := by decide +kernel
theorem dX10_went_126 : decode cX10_went 126 = .ok (.iconst 1, 1) := by decide +kernel
theorem dX10_went_127 : decode cX10_went 127 = .ok (.goto 4, 3) := by decide +kernel
theorem dX10_went_130 : decode cX10_went 130 = .ok (.iconst 0, 1) := by decide +kernel
theorem dX10_went_131 : decode cX10_went 131 = .ok (.istore 8, 2) := by decide +kernel
theorem dX10_went_133 : decode cX10_went 133 = .ok (.iload 8, 2) := by decide +kernel
theorem dX10_went_135 : decode cX10_went 135 = .ok (.ifCond .eq 11, 3) := by decide +kernel
theorem dX10_went_138 : decode cX10_went 138 = .ok (.iload 5, 2) := by decide +kernel
theorem dX10_went_140 : decode cX10_went 140 = .ok (.iload 7, 2) := by decide +kernel
theorem dX10_went_142 : decode cX10_went 142 = .ok (.idiv, 1) := by decide +kernel
theorem dX10_went_143 : decode cX10_went 143 = .ok (.goto 5, 3) := by decide +kernel
theorem dX10_went_146 : decode cX10_went 146 = .ok (.bipush (-4), 2) := by decide +kernel
theorem dX10_went_148 : decode cX10_went 148 = .ok (.ireturn, 1) := by decide +kernel
set_option maxRecDepth 100000 in
set_option maxHeartbeats 4000000 in
theorem M_X10_went (G : zG) (l : Launch) {a1 : Int32} {a2 : Int32} {a3 : Int32} {σ : zS} {r : Int32} (hJ : J_X10_went a1 a2 a3 σ = some r) : zMI G l yX10_went cX10_went 9 (some .int) (zrm 2 47) [.ref (G.1 + 0), .int a1, .int a2, .int a3] 137 (zen G σ) r 137 (zen G σ) := by
  unfold J_X10_went at hJ
  refine zentI (by decide +kernel) (Nat.le_of_ble_eq_true rfl) ?_
  intro p e s m args below meth c C hret
  refine zr_sub [0, 1, 2, 3] [(0, .ref (G.1 + 0)), (1, .int a1), (2, .int a2), (3, .int a3)] rfl ?_
  refine zr_aload_n C 0 dX10_went_0 rfl ?_
  obtain ⟨p1, hp1, hJ⟩ := zlet_e hJ
  obtain ⟨hp2, hJ⟩ := zg_e hJ
  refine zg_10_1 C 0 zk_0 zm_1_20 dX10_went_1 ?_
  refine zr_topr hp1 ?_
  refine zr_iload_n C 1 dX10_went_4 rfl ?_
  obtain ⟨r3, hr3, hJ⟩ := zb_e hJ
  refine zr_callVI C p1 (zk_lt (zkP_0 hp2) (by decide)) (zen_obj (zkP_0 hp2)) (rfl : zcl[3]? = some (RX3, TX3, 19)) (M_X3_hasLoop G l hp2 hr3) zin_X3_hasLoop zm_24_19 rfl rfl (Nat.le_of_ble_eq_true rfl) ⟨Nat.le_of_ble_eq_true rfl, Nat.le_of_ble_eq_true rfl⟩ ⟨Nat.le_of_ble_eq_true rfl, Nat.le_of_ble_eq_true rfl⟩ dX10_went_5 ?_
  refine zr_if_eq C 28 dX10_went_8 (by decide) (fun hc4 => ?_) (fun hc4 => ?_)
  · have hJ := zif hc4 hJ
    refine zr_iconst C dX10_went_28 (v := (-1 : Int32)) (by decide) ?_
    exact zr_iret C hret (zs_e hJ) rfl rfl dX10_went_29
  · have hJ := zif' hc4 hJ
    refine zr_iload_n C 2 dX10_went_11 rfl ?_
    obtain ⟨r5, hr5, hJ⟩ := zb_e hJ
    refine zr_callSI C (M_X10_isEvent G l hr5) zin_X10_isEvent zm_14_23 rfl rfl (Nat.le_of_ble_eq_true rfl) ⟨Nat.le_of_ble_eq_true rfl, Nat.le_of_ble_eq_true rfl⟩ ⟨Nat.le_of_ble_eq_true rfl, Nat.le_of_ble_eq_true rfl⟩ dX10_went_12 ?_
    refine zr_if_eq C 28 dX10_went_15 (by decide) (fun hc6 => ?_) (fun hc6 => ?_)
    · have hJ := zif hc6 hJ
      refine zr_iconst C dX10_went_28 (v := (-1 : Int32)) (by decide) ?_
      exact zr_iret C hret (zs_e hJ) rfl rfl dX10_went_29
    · have hJ := zif' hc6 hJ
      refine zr_iload_n C 3 dX10_went_18 rfl ?_
      refine zr_if_lt C 28 dX10_went_19 (by decide) (fun hc7 => ?_) (fun hc7 => ?_)
      · have hJ := zif hc7 hJ
        refine zr_iconst C dX10_went_28 (v := (-1 : Int32)) (by decide) ?_
        exact zr_iret C hret (zs_e hJ) rfl rfl dX10_went_29
      · have hJ := zif' hc7 hJ
        refine zr_iload_n C 3 dX10_went_22 rfl ?_
        refine zr_ldc C dX10_went_23 zm_25_16 ?_
        refine zr_icmp_le C 30 dX10_went_25 (by decide) (fun hc8 => ?_) (fun hc8 => ?_)
        · have hJ := zif hc8 hJ
          refine zr_aload_n C 0 dX10_went_30 rfl ?_
          obtain ⟨p9, hp9, hJ⟩ := zlet_e hJ
          obtain ⟨hp10, hJ⟩ := zg_e hJ
          refine zg_10_1 C 0 zk_0 zm_1_20 dX10_went_31 ?_
          refine zr_topr hp9 ?_
          refine zr_iload_n C 1 dX10_went_34 rfl ?_
          refine zr_iload_n C 2 dX10_went_35 rfl ?_
          obtain ⟨r11, hr11, hJ⟩ := zb_e hJ
          refine zr_callVI C p9 (zk_lt (zkP_0 hp10) (by decide)) (zen_obj (zkP_0 hp10)) (rfl : zcl[3]? = some (RX3, TX3, 19)) (M_X3_totalIn G l hp10 hr11) zin_X3_totalIn zm_25_17 rfl rfl (Nat.le_of_ble_eq_true rfl) ⟨Nat.le_of_ble_eq_true rfl, Nat.le_of_ble_eq_true rfl⟩ ⟨Nat.le_of_ble_eq_true rfl, Nat.le_of_ble_eq_true rfl⟩ dX10_went_36 ?_
          refine zr_istore C [(4, .int r11), (0, .ref (G.1 + 0)), (1, .int a1), (2, .int a2), (3, .int a3)] dX10_went_39 (by decide) rfl ?_
          refine zr_iload_n C 4 dX10_went_41 rfl ?_
          refine zr_aload_n C 1 dX10_went_42 rfl ?_
          obtain ⟨p12, hp12, hJ⟩ := zlet_e hJ
          obtain ⟨hp13, hJ⟩ := zg_e hJ
          refine zg_10_1 C 0 zk_0 zm_1_20 dX10_went_43 ?_
          refine zr_topr hp12 ?_
          refine zr_iload_n C 3 dX10_went_46 rfl ?_
          obtain ⟨r14, hr14, hJ⟩ := zb_e hJ
          refine zr_callVI C p12 (zk_lt (zkP_0 hp13) (by decide)) (zen_obj (zkP_0 hp13)) (rfl : zcl[3]? = some (RX3, TX3, 19)) (M_X3_total G l hp13 hr14) zin_X3_total zm_22_11 rfl rfl (Nat.le_of_ble_eq_true rfl) ⟨Nat.le_of_ble_eq_true rfl, Nat.le_of_ble_eq_true rfl⟩ ⟨Nat.le_of_ble_eq_true rfl, Nat.le_of_ble_eq_true rfl⟩ dX10_went_47 ?_
          refine zr_iload C 0 dX10_went_50 rfl ?_
          refine zr_isub C dX10_went_52 ?_
          refine zr_isub C dX10_went_53 ?_
          obtain ⟨v15, hv15, hJ⟩ := zlet_e hJ
          refine zr_topi hv15 ?_
          refine zr_istore C [(5, .int v15), (4, .int r11), (0, .ref (G.1 + 0)), (1, .int a1), (2, .int a2), (3, .int a3)] dX10_went_54 (by decide) rfl ?_
          refine zr_aload_n C 2 dX10_went_56 rfl ?_
          obtain ⟨p16, hp16, hJ⟩ := zlet_e hJ
          obtain ⟨hp17, hJ⟩ := zg_e hJ
          refine zg_10_1 C 0 zk_0 zm_1_20 dX10_went_57 ?_
          refine zr_topr hp16 ?_
          refine zg_3_6 C p16 (zkP_0 hp17) zm_24_16 dX10_went_60 ?_
          refine zr_iload_n C 3 dX10_went_63 rfl ?_
          obtain ⟨hg18, hJ⟩ := zg_e hJ
          refine zu_iald C (p16 + 21) (zkP_21 hp17) hg18 dX10_went_64 ?_
          obtain ⟨v19, hv19, hJ⟩ := zlet_e hJ
          refine zr_topi hv19 ?_
          refine zr_istore C [(6, .int v19), (5, .int v15), (4, .int r11), (0, .ref (G.1 + 0)), (1, .int a1), (2, .int a2), (3, .int a3)] dX10_went_65 (by decide) rfl ?_
          refine zr_iload C 0 dX10_went_67 rfl ?_
          refine zr_iconst C dX10_went_69 (v := (1 : Int32)) (by decide) ?_
          obtain ⟨k82, hk82, hJ⟩ := zlet_e hJ
          have hj82 : ∀ (x0_82 : Int32), k82 x0_82 = some r → zU G 9 p l e (zrm 2 47) s m args below meth c (MQ below (va_Qi (fun x (_ : Unit) => x = r) (fun _ t => zok G 137 (zen G σ) t) (zA G)) args s 0 0 (zA G)) σ 82 [(5, .int v15)] [.int x0_82] := by
            intro x0_82 hJ
            rw [hk82] at hJ
            unfold D_X10_went_82 at hJ
            refine zr_istore C [(7, .int x0_82), (5, .int v15)] dX10_went_82 (by decide) rfl ?_
            refine zr_iload C 0 dX10_went_84 rfl ?_
            refine zr_iconst C dX10_went_86 (v := (1 : Int32)) (by decide) ?_
            refine zr_icmp_ge C 102 dX10_went_87 (by decide) (fun hc20 => ?_) (fun hc20 => ?_)
            · have hJ := zif hc20 hJ
              refine zr_iload C 1 dX10_went_102 rfl ?_
              obtain ⟨k131, hk131, hJ⟩ := zlet_e hJ
              have hj131 : ∀ (x0_131 : Int32), k131 x0_131 = some r → zU G 9 p l e (zrm 2 47) s m args below meth c (MQ below (va_Qi (fun x (_ : Unit) => x = r) (fun _ t => zok G 137 (zen G σ) t) (zA G)) args s 0 0 (zA G)) σ 131 [(5, .int v15), (7, .int x0_82)] [.int x0_131] := by
                intro x0_131 hJ
                rw [hk131] at hJ
                unfold D_X10_went_131 at hJ
                refine zr_istore C [(8, .int x0_131), (5, .int v15), (7, .int x0_82)] dX10_went_131 (by decide) rfl ?_
                refine zr_iload C 0 dX10_went_133 rfl ?_
                refine zr_if_eq C 146 dX10_went_135 (by decide) (fun hc21 => ?_) (fun hc21 => ?_)
                · have hJ := zif hc21 hJ
                  refine zr_bipush C dX10_went_146 (v := (-4 : Int32)) (by decide) ?_
                  exact zr_iret C hret (zs_e hJ) rfl rfl dX10_went_148
                · have hJ := zif' hc21 hJ
                  refine zr_iload C 1 dX10_went_138 rfl ?_
                  refine zr_iload C 2 dX10_went_140 rfl ?_
                  obtain ⟨hn22, hJ⟩ := zn_e hJ
                  refine zr_idiv C dX10_went_142 hn22 ?_
                  refine zr_goto C 148 dX10_went_143 (by decide) ?_
                  exact zr_iret C hret (zs_e hJ) rfl rfl dX10_went_148
              refine zr_if_lt C 130 dX10_went_104 (by decide) (fun hc23 => ?_) (fun hc23 => ?_)
              · have hJ := zif hc23 hJ
                refine zr_iconst C dX10_went_130 (v := (0 : Int32)) (by decide) ?_
                refine zr_sub [1, 0] [(5, .int v15), (7, .int x0_82)] rfl ?_
                exact hj131 _ hJ
              · have hJ := zif' hc23 hJ
                refine zr_iload C 1 dX10_went_107 rfl ?_
                refine zr_iload C 0 dX10_went_109 rfl ?_
                obtain ⟨hn24, hJ⟩ := zn_e hJ
                refine zr_irem C dX10_went_111 hn24 ?_
                refine zr_if_ne C 130 dX10_went_112 (by decide) (fun hc25 => ?_) (fun hc25 => ?_)
                · have hJ := zif' hc25 hJ
                  refine zr_iconst C dX10_went_130 (v := (0 : Int32)) (by decide) ?_
                  refine zr_sub [1, 0] [(5, .int v15), (7, .int x0_82)] rfl ?_
                  exact hj131 _ hJ
                · have hJ := zif hc25 hJ
                  refine zr_iload C 1 dX10_went_115 rfl ?_
                  refine zr_iload C 0 dX10_went_117 rfl ?_
                  obtain ⟨hn26, hJ⟩ := zn_e hJ
                  refine zr_idiv C dX10_went_119 hn26 ?_
                  refine zr_sipush C dX10_went_120 (v := (9999 : Int32)) (by decide) ?_
                  refine zr_icmp_gt C 130 dX10_went_123 (by decide) (fun hc27 => ?_) (fun hc27 => ?_)
                  · have hJ := zif hc27 hJ
                    refine zr_iconst C dX10_went_130 (v := (0 : Int32)) (by decide) ?_
                    refine zr_sub [1, 0] [(5, .int v15), (7, .int x0_82)] rfl ?_
                    exact hj131 _ hJ
                  · have hJ := zif' hc27 hJ
                    refine zr_iconst C dX10_went_126 (v := (1 : Int32)) (by decide) ?_
                    refine zr_goto C 131 dX10_went_127 (by decide) ?_
                    refine zr_sub [1, 0] [(5, .int v15), (7, .int x0_82)] rfl ?_
                    exact hj131 _ hJ
            · have hJ := zif' hc20 hJ
              refine zr_iload C 1 dX10_went_90 rfl ?_
              refine zr_if_ne C 99 dX10_went_92 (by decide) (fun hc28 => ?_) (fun hc28 => ?_)
              · have hJ := zif' hc28 hJ
                refine zr_bipush C dX10_went_99 (v := (-4 : Int32)) (by decide) ?_
                exact zr_iret C hret (zs_e hJ) rfl rfl dX10_went_101
              · have hJ := zif hc28 hJ
                refine zr_iconst C dX10_went_95 (v := (0 : Int32)) (by decide) ?_
                refine zr_goto C 101 dX10_went_96 (by decide) ?_
                exact zr_iret C hret (zs_e hJ) rfl rfl dX10_went_101
          refine zr_icmp_ge C 77 dX10_went_70 (by decide) (fun hc29 => ?_) (fun hc29 => ?_)
          · have hJ := zif hc29 hJ
            refine zr_iload C 2 dX10_went_77 rfl ?_
            refine zr_iload C 0 dX10_went_79 rfl ?_
            obtain ⟨hn30, hJ⟩ := zn_e hJ
            refine zr_idiv C dX10_went_81 hn30 ?_
            refine zr_sub [1] [(5, .int v15)] rfl ?_
            exact hj82 _ hJ
          · have hJ := zif' hc29 hJ
            refine zr_iconst C dX10_went_73 (v := (0 : Int32)) (by decide) ?_
            refine zr_goto C 82 dX10_went_74 (by decide) ?_
            refine zr_sub [1] [(5, .int v15)] rfl ?_
            exact hj82 _ hJ
        · have hJ := zif' hc8 hJ
          refine zr_iconst C dX10_went_28 (v := (-1 : Int32)) (by decide) ?_
          exact zr_iret C hret (zs_e hJ) rfl rfl dX10_went_29
theorem dX10_whole_0 : decode cX10_whole 0 = .ok (.iload_n 1, 1) := by decide +kernel
theorem dX10_whole_1 : decode cX10_whole 1 = .ok (.ifCond .ne 11, 3) := by decide +kernel
theorem dX10_whole_4 : decode cX10_whole 4 = .ok (.aload_n 0, 1) := by decide +kernel
theorem dX10_whole_5 : decode cX10_whole 5 = .ok (.getfield 19, 3) := by decide +kernel
theorem dX10_whole_8 : decode cX10_whole 8 = .ok (.getfield 137, 3) := by decide +kernel
theorem dX10_whole_11 : decode cX10_whole 11 = .ok (.ireturn, 1) := by decide +kernel
theorem dX10_whole_12 : decode cX10_whole 12 = .ok (.iload_n 1, 1) := by decide +kernel
theorem dX10_whole_13 : decode cX10_whole 13 = .ok (.iconst 1, 1) := by decide +kernel
theorem dX10_whole_14 : decode cX10_whole 14 = .ok (.if_icmp .ne 11, 3) := by decide +kernel
theorem dX10_whole_17 : decode cX10_whole 17 = .ok (.aload_n 0, 1) := by decide +kernel
theorem dX10_whole_18 : decode cX10_whole 18 = .ok (.getfield 19, 3) := by decide +kernel
theorem dX10_whole_21 : decode cX10_whole 21 = .ok (.invokevirtual 144, 3) := by decide +kernel
theorem dX10_whole_24 : decode cX10_whole 24 = .ok (.ireturn, 1) := by decide +kernel
theorem dX10_whole_25 : decode cX10_whole 25 = .ok (.iload_n 1, 1) := by decide +kernel
theorem dX10_whole_26 : decode cX10_whole 26 = .ok (.bipush 10, 2) := by decide +kernel
theorem dX10_whole_28 : decode cX10_whole 28 = .ok (.isub, 1) := by decide +kernel
theorem dX10_whole_29 : decode cX10_whole 29 = .ok (.invokestatic 120, 3) := by decide +kernel
theorem dX10_whole_32 : decode cX10_whole 32 = .ok (.ifCond .eq 17, 3) := by decide +kernel
theorem dX10_whole_35 : decode cX10_whole 35 = .ok (.aload_n 0, 1) := by decide +kernel
theorem dX10_whole_36 : decode cX10_whole 36 = .ok (.getfield 19, 3) := by decide +kernel
theorem dX10_whole_39 : decode cX10_whole 39 = .ok (.iload_n 1, 1) := by decide +kernel
theorem dX10_whole_40 : decode cX10_whole 40 = .ok (.bipush 10, 2) := by decide +kernel
theorem dX10_whole_42 : decode cX10_whole 42 = .ok (.isub, 1) := by decide +kernel
theorem dX10_whole_43 : decode cX10_whole 43 = .ok (.invokevirtual 148, 3) := by decide +kernel
theorem dX10_whole_46 : decode cX10_whole 46 = .ok (.goto 4, 3) := by decide +kernel
theorem dX10_whole_49 : decode cX10_whole 49 = .ok (.iconst (-1), 1) := by decide +kernel
theorem dX10_whole_50 : decode cX10_whole 50 = .ok (.ireturn, 1) := by decide +kernel
set_option maxRecDepth 100000 in
set_option maxHeartbeats 4000000 in
theorem M_X10_whole (G : zG) (l : Launch) {a1 : Int32} {σ : zS} {r : Int32} (hJ : J_X10_whole a1 σ = some r) : zMI G l yX10_whole cX10_whole 2 (some .int) (zrm 2 46) [.ref (G.1 + 0), .int a1] 137 (zen G σ) r 137 (zen G σ) := by
  unfold J_X10_whole at hJ
  refine zentI (by decide +kernel) (Nat.le_of_ble_eq_true rfl) ?_
  intro p e s m args below meth c C hret
  refine zr_sub [0, 1] [(0, .ref (G.1 + 0)), (1, .int a1)] rfl ?_
  refine zr_iload_n C 1 dX10_whole_0 rfl ?_
  refine zr_if_ne C 12 dX10_whole_1 (by decide) (fun hc1 => ?_) (fun hc1 => ?_)
  · have hJ := zif' hc1 hJ
    refine zr_iload_n C 1 dX10_whole_12 rfl ?_
    refine zr_iconst C dX10_whole_13 (v := (1 : Int32)) (by decide) ?_
    refine zr_icmp_ne C 25 dX10_whole_14 (by decide) (fun hc2 => ?_) (fun hc2 => ?_)
    · have hJ := zif' hc2 hJ
      refine zr_iload_n C 1 dX10_whole_25 rfl ?_
      refine zr_bipush C dX10_whole_26 (v := (10 : Int32)) (by decide) ?_
      refine zr_isub C dX10_whole_28 ?_
      obtain ⟨r3, hr3, hJ⟩ := zb_e hJ
      refine zr_callSI C (M_X10_isEvent G l hr3) zin_X10_isEvent zm_14_23 rfl rfl (Nat.le_of_ble_eq_true rfl) ⟨Nat.le_of_ble_eq_true rfl, Nat.le_of_ble_eq_true rfl⟩ ⟨Nat.le_of_ble_eq_true rfl, Nat.le_of_ble_eq_true rfl⟩ dX10_whole_29 ?_
      refine zr_if_eq C 49 dX10_whole_32 (by decide) (fun hc4 => ?_) (fun hc4 => ?_)
      · have hJ := zif hc4 hJ
        refine zr_iconst C dX10_whole_49 (v := (-1 : Int32)) (by decide) ?_
        exact zr_iret C hret (zs_e hJ) rfl rfl dX10_whole_50
      · have hJ := zif' hc4 hJ
        refine zr_aload_n C 0 dX10_whole_35 rfl ?_
        obtain ⟨p5, hp5, hJ⟩ := zlet_e hJ
        obtain ⟨hp6, hJ⟩ := zg_e hJ
        refine zg_10_1 C 0 zk_0 zm_1_20 dX10_whole_36 ?_
        refine zr_topr hp5 ?_
        refine zr_iload_n C 1 dX10_whole_39 rfl ?_
        refine zr_bipush C dX10_whole_40 (v := (10 : Int32)) (by decide) ?_
        refine zr_isub C dX10_whole_42 ?_
        obtain ⟨r7, hr7, hJ⟩ := zb_e hJ
        refine zr_callVI C p5 (zk_lt (zkP_0 hp6) (by decide)) (zen_obj (zkP_0 hp6)) (rfl : zcl[3]? = some (RX3, TX3, 19)) (M_X3_total G l hp6 hr7) zin_X3_total zm_22_11 rfl rfl (Nat.le_of_ble_eq_true rfl) ⟨Nat.le_of_ble_eq_true rfl, Nat.le_of_ble_eq_true rfl⟩ ⟨Nat.le_of_ble_eq_true rfl, Nat.le_of_ble_eq_true rfl⟩ dX10_whole_43 ?_
        refine zr_goto C 50 dX10_whole_46 (by decide) ?_
        exact zr_iret C hret (zs_e hJ) rfl rfl dX10_whole_50
    · have hJ := zif hc2 hJ
      refine zr_aload_n C 0 dX10_whole_17 rfl ?_
      obtain ⟨p8, hp8, hJ⟩ := zlet_e hJ
      obtain ⟨hp9, hJ⟩ := zg_e hJ
      refine zg_10_1 C 0 zk_0 zm_1_20 dX10_whole_18 ?_
      refine zr_topr hp8 ?_
      obtain ⟨r10, hr10, hJ⟩ := zb_e hJ
      refine zr_callVI C p8 (zk_lt (zkP_0 hp9) (by decide)) (zen_obj (zkP_0 hp9)) (rfl : zcl[3]? = some (RX3, TX3, 19)) (M_X3_allTicks G l hp9 hr10) zin_X3_allTicks zm_22_7 rfl rfl (Nat.le_of_ble_eq_true rfl) ⟨Nat.le_of_ble_eq_true rfl, Nat.le_of_ble_eq_true rfl⟩ ⟨Nat.le_of_ble_eq_true rfl, Nat.le_of_ble_eq_true rfl⟩ dX10_whole_21 ?_
      exact zr_iret C hret (zs_e hJ) rfl rfl dX10_whole_24
  · have hJ := zif hc1 hJ
    refine zr_aload_n C 0 dX10_whole_4 rfl ?_
    obtain ⟨p11, hp11, hJ⟩ := zlet_e hJ
    obtain ⟨hp12, hJ⟩ := zg_e hJ
    refine zg_10_1 C 0 zk_0 zm_1_20 dX10_whole_5 ?_
    refine zr_topr hp11 ?_
    refine zg_3_15 C p11 (zkP_0 hp12) zm_21_21 dX10_whole_8 ?_
    exact zr_iret C hret (zs_e hJ) rfl rfl dX10_whole_11
theorem dX10_width_0 : decode cX10_width 0 = .ok (.aload_n 0, 1) := by decide +kernel
theorem dX10_width_1 : decode cX10_width 1 = .ok (.getfield 45, 3) := by decide +kernel
theorem dX10_width_4 : decode cX10_width 4 = .ok (.iload_n 1, 1) := by decide +kernel
theorem dX10_width_5 : decode cX10_width 5 = .ok (.invokevirtual 208, 3) := by decide +kernel
theorem dX10_width_8 : decode cX10_width 8 = .ok (.ifCond .eq 14, 3) := by decide +kernel
theorem dX10_width_11 : decode cX10_width 11 = .ok (.iload_n 2, 1) := by decide +kernel
theorem dX10_width_12 : decode cX10_width 12 = .ok (.iconst 2, 1) := by decide +kernel
theorem dX10_width_13 : decode cX10_width 13 = .ok (.if_icmp .lt 9, 3) := by decide +kernel
theorem dX10_width_16 : decode cX10_width 16 = .ok (.iload_n 2, 1) := by decide +kernel
theorem dX10_width_17 : decode cX10_width 17 = .ok (.bipush 16, 2) := by decide +kernel
theorem dX10_width_19 : decode cX10_width 19 = .ok (.if_icmp .le 5, 3) := by decide +kernel
theorem dX10_width_22 : decode cX10_width 22 = .ok (.iconst (-1), 1) := by decide +kernel
theorem dX10_width_23 : decode cX10_width 23 = .ok (.ireturn, 1) := by decide +kernel
theorem dX10_width_24 : decode cX10_width 24 = .ok (.aload_n 0, 1) := by decide +kernel
theorem dX10_width_25 : decode cX10_width 25 = .ok (.getfield 45, 3) := by decide +kernel
theorem dX10_width_28 : decode cX10_width 28 = .ok (.getfield 221, 3) := by decide +kernel
theorem dX10_width_31 : decode cX10_width 31 = .ok (.iload_n 1, 1) := by decide +kernel
theorem dX10_width_32 : decode cX10_width 32 = .ok (.iaload, 1) := by decide +kernel
theorem dX10_width_33 : decode cX10_width 33 = .ok (.istore_n 3, 1) := by decide +kernel
theorem dX10_width_34 : decode cX10_width 34 = .ok (.aload_n 0, 1) := by decide +kernel
theorem dX10_width_35 : decode cX10_width 35 = .ok (.getfield 45, 3) := by decide +kernel
theorem dX10_width_38 : decode cX10_width 38 = .ok (.getfield 221, 3) := by decide +kernel
theorem dX10_width_41 : decode cX10_width 41 = .ok (.iload_n 1, 1) := by decide +kernel
theorem dX10_width_42 : decode cX10_width 42 = .ok (.iload_n 2, 1) := by decide +kernel
theorem dX10_width_43 : decode cX10_width 43 = .ok (.iastore, 1) := by decide +kernel
theorem dX10_width_44 : decode cX10_width 44 = .ok (.iload_n 3, 1) := by decide +kernel
theorem dX10_width_45 : decode cX10_width 45 = .ok (.ireturn, 1) := by decide +kernel
set_option maxRecDepth 100000 in
set_option maxHeartbeats 4000000 in
theorem M_X10_width (G : zG) (l : Launch) {a1 : Int32} {a2 : Int32} {σ : zS} {r : Int32} {σ' : zS} (hJ : J_X10_width a1 a2 σ = some (r, σ')) : zMI G l yX10_width cX10_width 4 (some .int) (zrm 1 21) [.ref (G.1 + 0), .int a1, .int a2] 137 (zen G σ) r 137 (zen G σ') := by
  unfold J_X10_width at hJ
  refine zentI (by decide +kernel) (Nat.le_of_ble_eq_true rfl) ?_
  intro p e s m args below meth c C hret
  refine zr_sub [0, 1, 2] [(0, .ref (G.1 + 0)), (1, .int a1), (2, .int a2)] rfl ?_
  refine zr_aload_n C 0 dX10_width_0 rfl ?_
  refine zg_10_5 C 0 zk_0 zm_2_9 dX10_width_1 ?_
  refine zr_iload_n C 1 dX10_width_4 rfl ?_
  obtain ⟨r1, hr1, hJ⟩ := zb_e hJ
  refine zr_callVI C 82 (zk_lt zk_82 (by decide)) (zen_obj zk_82) (rfl : zcl[0]? = some (RX0, TX0, 7)) (M_X0_has G l hr1) zin_X0_has zm_29_19 rfl rfl (Nat.le_of_ble_eq_true rfl) ⟨Nat.le_of_ble_eq_true rfl, Nat.le_of_ble_eq_true rfl⟩ ⟨Nat.le_of_ble_eq_true rfl, Nat.le_of_ble_eq_true rfl⟩ dX10_width_5 ?_
  refine zr_if_eq C 22 dX10_width_8 (by decide) (fun hc2 => ?_) (fun hc2 => ?_)
  · have hJ := zif hc2 hJ
    refine zr_iconst C dX10_width_22 (v := (-1 : Int32)) (by decide) ?_
    exact zr_iret C hret (Prod.mk.inj (zs_e hJ)).1 rfl (congrArg (zen G) (Prod.mk.inj (zs_e hJ)).2) dX10_width_23
  · have hJ := zif' hc2 hJ
    refine zr_iload_n C 2 dX10_width_11 rfl ?_
    refine zr_iconst C dX10_width_12 (v := (2 : Int32)) (by decide) ?_
    refine zr_icmp_lt C 22 dX10_width_13 (by decide) (fun hc3 => ?_) (fun hc3 => ?_)
    · have hJ := zif hc3 hJ
      refine zr_iconst C dX10_width_22 (v := (-1 : Int32)) (by decide) ?_
      exact zr_iret C hret (Prod.mk.inj (zs_e hJ)).1 rfl (congrArg (zen G) (Prod.mk.inj (zs_e hJ)).2) dX10_width_23
    · have hJ := zif' hc3 hJ
      refine zr_iload_n C 2 dX10_width_16 rfl ?_
      refine zr_bipush C dX10_width_17 (v := (16 : Int32)) (by decide) ?_
      refine zr_icmp_le C 24 dX10_width_19 (by decide) (fun hc4 => ?_) (fun hc4 => ?_)
      · have hJ := zif hc4 hJ
        refine zr_aload_n C 0 dX10_width_24 rfl ?_
        refine zg_10_5 C 0 zk_0 zm_2_9 dX10_width_25 ?_
        refine zg_0_2 C 82 zk_82 zm_30_11 dX10_width_28 ?_
        refine zr_iload_n C 1 dX10_width_31 rfl ?_
        obtain ⟨hg5, hJ⟩ := zg_e hJ
        refine zu_iald C 84 zk_84 hg5 dX10_width_32 ?_
        obtain ⟨v6, hv6, hJ⟩ := zlet_e hJ
        refine zr_topi hv6 ?_
        refine zr_istore_n C [(3, .int v6), (0, .ref (G.1 + 0)), (1, .int a1), (2, .int a2)] dX10_width_33 (by decide) rfl ?_
        refine zr_aload_n C 1 dX10_width_34 rfl ?_
        refine zg_10_5 C 0 zk_0 zm_2_9 dX10_width_35 ?_
        refine zg_0_2 C 82 zk_82 zm_30_11 dX10_width_38 ?_
        refine zr_iload_n C 2 dX10_width_41 rfl ?_
        refine zr_iload_n C 3 dX10_width_42 rfl ?_
        obtain ⟨hg7, hJ⟩ := zg_e hJ
        obtain ⟨σ8, hσ8, hJ⟩ := zlet_e hJ
        refine zv_iast C 84 zk_84 hg7 hσ8 dX10_width_43 ?_
        refine zr_iload_n C 0 dX10_width_44 rfl ?_
        exact zr_iret C hret (Prod.mk.inj (zs_e hJ)).1 rfl (congrArg (zen G) (Prod.mk.inj (zs_e hJ)).2) dX10_width_45
      · have hJ := zif' hc4 hJ
        refine zr_iconst C dX10_width_22 (v := (-1 : Int32)) (by decide) ?_
        exact zr_iret C hret (Prod.mk.inj (zs_e hJ)).1 rfl (congrArg (zen G) (Prod.mk.inj (zs_e hJ)).2) dX10_width_23
theorem dX5_addGuess_0 : decode cX5_addGuess 0 = .ok (.aload_n 0, 1) := by decide +kernel
theorem dX5_addGuess_1 : decode cX5_addGuess 1 = .ok (.getfield 25, 3) := by decide +kernel
theorem dX5_addGuess_4 : decode cX5_addGuess 4 = .ok (.aload_n 0, 1) := by decide +kernel
theorem dX5_addGuess_5 : decode cX5_addGuess 5 = .ok (.getfield 28, 3) := by decide +kernel
theorem dX5_addGuess_8 : decode cX5_addGuess 8 = .ok (.arraylength, 1) := by decide +kernel
theorem dX5_addGuess_9 : decode cX5_addGuess 9 = .ok (.if_icmp .ge 23, 3) := by decide +kernel
theorem dX5_addGuess_12 : decode cX5_addGuess 12 = .ok (.aload_n 0, 1) := by decide +kernel
theorem dX5_addGuess_13 : decode cX5_addGuess 13 = .ok (.getfield 28, 3) := by decide +kernel
theorem dX5_addGuess_16 : decode cX5_addGuess 16 = .ok (.aload_n 0, 1) := by decide +kernel
theorem dX5_addGuess_17 : decode cX5_addGuess 17 = .ok (.getfield 25, 3) := by decide +kernel
theorem dX5_addGuess_20 : decode cX5_addGuess 20 = .ok (.iload_n 1, 1) := by decide +kernel
theorem dX5_addGuess_21 : decode cX5_addGuess 21 = .ok (.iastore, 1) := by decide +kernel
theorem dX5_addGuess_22 : decode cX5_addGuess 22 = .ok (.aload_n 0, 1) := by decide +kernel
theorem dX5_addGuess_23 : decode cX5_addGuess 23 = .ok (.dup, 1) := by decide +kernel
theorem dX5_addGuess_24 : decode cX5_addGuess 24 = .ok (.getfield 25, 3) := by decide +kernel
theorem dX5_addGuess_27 : decode cX5_addGuess 27 = .ok (.iconst 1, 1) := by decide +kernel
theorem dX5_addGuess_28 : decode cX5_addGuess 28 = .ok (.iadd, 1) := by decide +kernel
theorem dX5_addGuess_29 : decode cX5_addGuess 29 = .ok (.putfield 25, 3) := by decide +kernel
theorem dX5_addGuess_32 : decode cX5_addGuess 32 = .ok (.return_, 1) := by decide +kernel
set_option maxRecDepth 100000 in
set_option maxHeartbeats 4000000 in
theorem M_X5_addGuess (G : zG) (l : Launch) {a1 : Int32} {σ : zS} {σ' : zS} (hJ : J_X5_addGuess a1 σ = some σ') : zMV G l yX5_addGuess cX5_addGuess 2 none (zrm 0 0) [.ref (G.1 + 92), .int a1] 137 (zen G σ) 137 (zen G σ') := by
  unfold J_X5_addGuess at hJ
  refine zentV (by decide +kernel) (Nat.le_of_ble_eq_true rfl) ?_
  intro p e s m args below meth c C hret
  refine zr_sub [0, 1] [(0, .ref (G.1 + 92)), (1, .int a1)] rfl ?_
  refine zr_aload_n C 0 dX5_addGuess_0 rfl ?_
  refine zg_5_4 C 92 zk_92 zm_6_18 dX5_addGuess_1 ?_
  refine zr_aload_n C 0 dX5_addGuess_4 rfl ?_
  refine zg_5_5 C 92 zk_92 zm_6_19 dX5_addGuess_5 ?_
  refine zu_alen C 96 zk_96 (v := (36 : Int32)) (by decide) dX5_addGuess_8 ?_
  refine zr_icmp_ge C 32 dX5_addGuess_9 (by decide) (fun hc1 => ?_) (fun hc1 => ?_)
  · have hJ := zif hc1 hJ
    exact zr_vret C hret rfl (congrArg (zen G) (zs_e hJ)) dX5_addGuess_32
  · have hJ := zif' hc1 hJ
    refine zr_aload_n C 0 dX5_addGuess_12 rfl ?_
    refine zg_5_5 C 92 zk_92 zm_6_19 dX5_addGuess_13 ?_
    refine zr_aload_n C 0 dX5_addGuess_16 rfl ?_
    refine zg_5_4 C 92 zk_92 zm_6_18 dX5_addGuess_17 ?_
    refine zr_iload_n C 1 dX5_addGuess_20 rfl ?_
    obtain ⟨hg2, hJ⟩ := zg_e hJ
    obtain ⟨σ3, hσ3, hJ⟩ := zlet_e hJ
    refine zv_iast C 96 zk_96 hg2 hσ3 dX5_addGuess_21 ?_
    refine zr_aload_n C 0 dX5_addGuess_22 rfl ?_
    refine zr_dup C dX5_addGuess_23 rfl ?_
    refine zg_5_4 C 92 zk_92 zm_6_18 dX5_addGuess_24 ?_
    refine zr_iconst C dX5_addGuess_27 (v := (1 : Int32)) (by decide) ?_
    refine zr_iadd C dX5_addGuess_28 ?_
    obtain ⟨σ4, hσ4, hJ⟩ := zlet_e hJ
    refine zp_5_4 C 92 zk_92 zm_6_18 hσ4 dX5_addGuess_29 ?_
    exact zr_vret C hret rfl (congrArg (zen G) (zs_e hJ)) dX5_addGuess_32
theorem dX5_isOf_0 : decode cX5_isOf 0 = .ok (.aload_n 0, 1) := by decide +kernel
theorem dX5_isOf_1 : decode cX5_isOf 1 = .ok (.getfield 15, 3) := by decide +kernel
theorem dX5_isOf_4 : decode cX5_isOf 4 = .ok (.iload_n 1, 1) := by decide +kernel
theorem dX5_isOf_5 : decode cX5_isOf 5 = .ok (.iaload, 1) := by decide +kernel
theorem dX5_isOf_6 : decode cX5_isOf 6 = .ok (.iload_n 2, 1) := by decide +kernel
theorem dX5_isOf_7 : decode cX5_isOf 7 = .ok (.if_icmp .ne 17, 3) := by decide +kernel
theorem dX5_isOf_10 : decode cX5_isOf 10 = .ok (.aload_n 0, 1) := by decide +kernel
theorem dX5_isOf_11 : decode cX5_isOf 11 = .ok (.getfield 19, 3) := by decide +kernel
theorem dX5_isOf_14 : decode cX5_isOf 14 = .ok (.iload_n 1, 1) := by decide +kernel
theorem dX5_isOf_15 : decode cX5_isOf 15 = .ok (.iaload, 1) := by decide +kernel
theorem dX5_isOf_16 : decode cX5_isOf 16 = .ok (.iload_n 3, 1) := by decide +kernel
theorem dX5_isOf_17 : decode cX5_isOf 17 = .ok (.if_icmp .ne 7, 3) := by decide +kernel
theorem dX5_isOf_20 : decode cX5_isOf 20 = .ok (.iconst 1, 1) := by decide +kernel
theorem dX5_isOf_21 : decode cX5_isOf 21 = .ok (.goto 4, 3) := by decide +kernel
theorem dX5_isOf_24 : decode cX5_isOf 24 = .ok (.iconst 0, 1) := by decide +kernel
theorem dX5_isOf_25 : decode cX5_isOf 25 = .ok (.ireturn, 1) := by decide +kernel
set_option maxRecDepth 100000 in
set_option maxHeartbeats 4000000 in
theorem M_X5_isOf (G : zG) (l : Launch) {a1 : Int32} {a2 : Int32} {a3 : Int32} {σ : zS} {r : Int32} (hJ : J_X5_isOf a1 a2 a3 σ = some r) : zMI G l yX5_isOf cX5_isOf 4 (some .boolean) (zrm 0 0) [.ref (G.1 + 92), .int a1, .int a2, .int a3] 137 (zen G σ) r 137 (zen G σ) := by
  unfold J_X5_isOf at hJ
  refine zentI (by decide +kernel) (Nat.le_of_ble_eq_true rfl) ?_
  intro p e s m args below meth c C hret
  refine zr_sub [0, 1, 2, 3] [(0, .ref (G.1 + 92)), (1, .int a1), (2, .int a2), (3, .int a3)] rfl ?_
  refine zr_aload_n C 0 dX5_isOf_0 rfl ?_
  refine zg_5_1 C 92 zk_92 zm_6_15 dX5_isOf_1 ?_
  refine zr_iload_n C 1 dX5_isOf_4 rfl ?_
  obtain ⟨hg1, hJ⟩ := zg_e hJ
  refine zu_iald C 93 zk_93 hg1 dX5_isOf_5 ?_
  refine zr_iload_n C 2 dX5_isOf_6 rfl ?_
  refine zr_icmp_ne C 24 dX5_isOf_7 (by decide) (fun hc2 => ?_) (fun hc2 => ?_)
  · have hJ := zif' hc2 hJ
    refine zr_iconst C dX5_isOf_24 (v := (0 : Int32)) (by decide) ?_
    exact zr_zret C hret (zs_e hJ) rfl rfl rfl dX5_isOf_25
  · have hJ := zif hc2 hJ
    refine zr_aload_n C 0 dX5_isOf_10 rfl ?_
    refine zg_5_2 C 92 zk_92 zm_6_16 dX5_isOf_11 ?_
    refine zr_iload_n C 1 dX5_isOf_14 rfl ?_
    obtain ⟨hg3, hJ⟩ := zg_e hJ
    refine zu_iald C 94 zk_94 hg3 dX5_isOf_15 ?_
    refine zr_iload_n C 3 dX5_isOf_16 rfl ?_
    refine zr_icmp_ne C 24 dX5_isOf_17 (by decide) (fun hc4 => ?_) (fun hc4 => ?_)
    · have hJ := zif' hc4 hJ
      refine zr_iconst C dX5_isOf_24 (v := (0 : Int32)) (by decide) ?_
      exact zr_zret C hret (zs_e hJ) rfl rfl rfl dX5_isOf_25
    · have hJ := zif hc4 hJ
      refine zr_iconst C dX5_isOf_20 (v := (1 : Int32)) (by decide) ?_
      refine zr_goto C 25 dX5_isOf_21 (by decide) ?_
      exact zr_zret C hret (zs_e hJ) rfl rfl rfl dX5_isOf_25
theorem dX5_allShowed_0 : decode cX5_allShowed 0 = .ok (.iconst 0, 1) := by decide +kernel
theorem dX5_allShowed_1 : decode cX5_allShowed 1 = .ok (.istore 4, 2) := by decide +kernel
theorem dX5_allShowed_3 : decode cX5_allShowed 3 = .ok (.iload 4, 2) := by decide +kernel
theorem dX5_allShowed_5 : decode cX5_allShowed 5 = .ok (.aload_n 0, 1) := by decide +kernel
theorem dX5_allShowed_6 : decode cX5_allShowed 6 = .ok (.getfield 9, 3) := by decide +kernel
theorem dX5_allShowed_9 : decode cX5_allShowed 9 = .ok (.if_icmp .ge 33, 3) := by decide +kernel
theorem dX5_allShowed_12 : decode cX5_allShowed 12 = .ok (.aload_n 0, 1) := by decide +kernel
theorem dX5_allShowed_13 : decode cX5_allShowed 13 = .ok (.iload 4, 2) := by decide +kernel
theorem dX5_allShowed_15 : decode cX5_allShowed 15 = .ok (.iload_n 1, 1) := by decide +kernel
theorem dX5_allShowed_16 : decode cX5_allShowed 16 = .ok (.iload_n 2, 1) := by decide +kernel
theorem dX5_allShowed_17 : decode cX5_allShowed 17 = .ok (.invokevirtual 31, 3) := by decide +kernel
theorem dX5_allShowed_20 : decode cX5_allShowed 20 = .ok (.ifCond .eq 16, 3) := by decide +kernel
theorem dX5_allShowed_23 : decode cX5_allShowed 23 = .ok (.aload_n 0, 1) := by decide +kernel
theorem dX5_allShowed_24 : decode cX5_allShowed 24 = .ok (.getfield 22, 3) := by decide +kernel
theorem dX5_allShowed_27 : decode cX5_allShowed 27 = .ok (.iload 4, 2) := by decide +kernel
theorem dX5_allShowed_29 : decode cX5_allShowed 29 = .ok (.iaload, 1) := by decide +kernel
theorem dX5_allShowed_30 : decode cX5_allShowed 30 = .ok (.iload_n 3, 1) := by decide +kernel
theorem dX5_allShowed_31 : decode cX5_allShowed 31 = .ok (.if_icmp .eq 5, 3) := by decide +kernel
theorem dX5_allShowed_34 : decode cX5_allShowed 34 = .ok (.iconst 0, 1) := by decide +kernel
theorem dX5_allShowed_35 : decode cX5_allShowed 35 = .ok (.ireturn, 1) := by decide +kernel
theorem dX5_allShowed_36 : decode cX5_allShowed 36 = .ok (.iinc 4 1, 3) := by decide +kernel
theorem dX5_allShowed_39 : decode cX5_allShowed 39 = .ok (.goto (-36), 3) := by decide +kernel
theorem dX5_allShowed_42 : decode cX5_allShowed 42 = .ok (.iconst 1, 1) := by decide +kernel
theorem dX5_allShowed_43 : decode cX5_allShowed 43 = .ok (.ireturn, 1) := by decide +kernel
set_option maxRecDepth 100000 in
set_option maxHeartbeats 4000000 in
theorem M_X5_allShowed (G : zG) (l : Launch) {a1 : Int32} {a2 : Int32} {a3 : Int32} {σ : zS} {r : Int32} (hJ : J_X5_allShowed a1 a2 a3 σ = some r) : zMI G l yX5_allShowed cX5_allShowed 5 (some .boolean) (zrm 1 23) [.ref (G.1 + 92), .int a1, .int a2, .int a3] 137 (zen G σ) r 137 (zen G σ) := by
  unfold J_X5_allShowed at hJ
  refine zentI (by decide +kernel) (Nat.le_of_ble_eq_true rfl) ?_
  intro p e s m args below meth c C hret
  refine zr_sub [0, 1, 2, 3] [(0, .ref (G.1 + 92)), (1, .int a1), (2, .int a2), (3, .int a3)] rfl ?_
  refine zr_iconst C dX5_allShowed_0 (v := (0 : Int32)) (by decide) ?_
  refine zr_istore C [(4, .int (0 : Int32)), (0, .ref (G.1 + 92)), (1, .int a1), (2, .int a2), (3, .int a3)] dX5_allShowed_1 (by decide) rfl ?_
  have hl3 : ∀ (n : Nat) (w4_3 : Int32), L_X5_allShowed_3 a1 a2 a3 σ n w4_3 = some r → zU G 5 p l e (zrm 1 23) s m args below meth c (MQ below (va_Qi (fun x (_ : Unit) => x = r) (fun _ t => zok G 137 (zen G σ) t) (zA G)) args s 0 0 (zA G)) σ 3 [(0, .ref (G.1 + 92)), (1, .int a1), (2, .int a2), (3, .int a3), (4, .int w4_3)] [] := by
    intro n
    induction n with
    | zero =>
      intro w4_3 hJ
      rw [L_X5_allShowed_3] at hJ
      cases hJ
    | succ n ih =>
      intro w4_3 hJ
      rw [L_X5_allShowed_3] at hJ
      obtain ⟨r_3, hr_3, hJ⟩ := zlet_e hJ
      have ih3 : ∀ (w4_3 : Int32), r_3 w4_3 = some r → zU G 5 p l e (zrm 1 23) s m args below meth c (MQ below (va_Qi (fun x (_ : Unit) => x = r) (fun _ t => zok G 137 (zen G σ) t) (zA G)) args s 0 0 (zA G)) σ 3 [(0, .ref (G.1 + 92)), (1, .int a1), (2, .int a2), (3, .int a3), (4, .int w4_3)] [] := by
        rw [hr_3]
        exact ih
      refine zr_iload C 4 dX5_allShowed_3 rfl ?_
      refine zr_aload_n C 0 dX5_allShowed_5 rfl ?_
      refine zg_5_0 C 92 zk_92 zm_6_14 dX5_allShowed_6 ?_
      refine zr_icmp_ge C 42 dX5_allShowed_9 (by decide) (fun hc1 => ?_) (fun hc1 => ?_)
      · have hJ := zif hc1 hJ
        refine zr_iconst C dX5_allShowed_42 (v := (1 : Int32)) (by decide) ?_
        exact zr_zret C hret (zs_e hJ) rfl rfl rfl dX5_allShowed_43
      · have hJ := zif' hc1 hJ
        refine zr_aload_n C 0 dX5_allShowed_12 rfl ?_
        refine zr_iload C 4 dX5_allShowed_13 rfl ?_
        refine zr_iload_n C 1 dX5_allShowed_15 rfl ?_
        refine zr_iload_n C 2 dX5_allShowed_16 rfl ?_
        obtain ⟨r2, hr2, hJ⟩ := zb_e hJ
        refine zr_callVI C 92 (zk_lt zk_92 (by decide)) (zen_obj zk_92) (rfl : zcl[5]? = some (RX5, TX5, 6)) (M_X5_isOf G l hr2) zin_X5_isOf zm_45_2 rfl rfl (Nat.le_of_ble_eq_true rfl) ⟨Nat.le_of_ble_eq_true rfl, Nat.le_of_ble_eq_true rfl⟩ ⟨Nat.le_of_ble_eq_true rfl, Nat.le_of_ble_eq_true rfl⟩ dX5_allShowed_17 ?_
        refine zr_if_eq C 36 dX5_allShowed_20 (by decide) (fun hc3 => ?_) (fun hc3 => ?_)
        · have hJ := zif hc3 hJ
          obtain ⟨v4, hv4, hJ⟩ := zlet_e hJ
          refine zr_iinc C v4 4 [(4, .int v4), (0, .ref (G.1 + 92)), (1, .int a1), (2, .int a2), (3, .int a3)] dX5_allShowed_36 rfl (hv4.trans (zinc (by decide))) (by decide) rfl ?_
          refine zr_goto C 3 dX5_allShowed_39 (by decide) ?_
          refine zr_sub [1, 2, 3, 4, 0] [(0, .ref (G.1 + 92)), (1, .int a1), (2, .int a2), (3, .int a3), (4, .int v4)] rfl ?_
          exact ih3 _ hJ
        · have hJ := zif' hc3 hJ
          refine zr_aload_n C 0 dX5_allShowed_23 rfl ?_
          refine zg_5_3 C 92 zk_92 zm_6_17 dX5_allShowed_24 ?_
          refine zr_iload C 4 dX5_allShowed_27 rfl ?_
          obtain ⟨hg5, hJ⟩ := zg_e hJ
          refine zu_iald C 95 zk_95 hg5 dX5_allShowed_29 ?_
          refine zr_iload_n C 3 dX5_allShowed_30 rfl ?_
          refine zr_icmp_eq C 36 dX5_allShowed_31 (by decide) (fun hc6 => ?_) (fun hc6 => ?_)
          · have hJ := zif hc6 hJ
            obtain ⟨v7, hv7, hJ⟩ := zlet_e hJ
            refine zr_iinc C v7 4 [(4, .int v7), (0, .ref (G.1 + 92)), (1, .int a1), (2, .int a2), (3, .int a3)] dX5_allShowed_36 rfl (hv7.trans (zinc (by decide))) (by decide) rfl ?_
            refine zr_goto C 3 dX5_allShowed_39 (by decide) ?_
            refine zr_sub [1, 2, 3, 4, 0] [(0, .ref (G.1 + 92)), (1, .int a1), (2, .int a2), (3, .int a3), (4, .int v7)] rfl ?_
            exact ih3 _ hJ
          · have hJ := zif' hc6 hJ
            refine zr_iconst C dX5_allShowed_34 (v := (0 : Int32)) (by decide) ?_
            exact zr_zret C hret (zs_e hJ) rfl rfl rfl dX5_allShowed_35
  refine zr_sub [1, 2, 3, 4, 0] [(0, .ref (G.1 + 92)), (1, .int a1), (2, .int a2), (3, .int a3), (4, .int (0 : Int32))] rfl ?_
  exact hl3 _ _ hJ
theorem dX5_totalOf_0 : decode cX5_totalOf 0 = .ok (.iconst 0, 1) := by decide +kernel
theorem dX5_totalOf_1 : decode cX5_totalOf 1 = .ok (.istore_n 2, 1) := by decide +kernel
theorem dX5_totalOf_2 : decode cX5_totalOf 2 = .ok (.iconst 0, 1) := by decide +kernel
theorem dX5_totalOf_3 : decode cX5_totalOf 3 = .ok (.istore_n 3, 1) := by decide +kernel
theorem dX5_totalOf_4 : decode cX5_totalOf 4 = .ok (.iload_n 3, 1) := by decide +kernel
theorem dX5_totalOf_5 : decode cX5_totalOf 5 = .ok (.bipush 8, 2) := by decide +kernel
theorem dX5_totalOf_7 : decode cX5_totalOf 7 = .ok (.if_icmp .ge 25, 3) := by decide +kernel
theorem dX5_totalOf_10 : decode cX5_totalOf 10 = .ok (.iload_n 3, 1) := by decide +kernel
theorem dX5_totalOf_11 : decode cX5_totalOf 11 = .ok (.iload_n 1, 1) := by decide +kernel
theorem dX5_totalOf_12 : decode cX5_totalOf 12 = .ok (.invokestatic 52, 3) := by decide +kernel
theorem dX5_totalOf_15 : decode cX5_totalOf 15 = .ok (.ifCond .eq 11, 3) := by decide +kernel
theorem dX5_totalOf_18 : decode cX5_totalOf 18 = .ok (.iload_n 2, 1) := by decide +kernel
theorem dX5_totalOf_19 : decode cX5_totalOf 19 = .ok (.aload_n 0, 1) := by decide +kernel
theorem dX5_totalOf_20 : decode cX5_totalOf 20 = .ok (.iload_n 3, 1) := by decide +kernel
theorem dX5_totalOf_21 : decode cX5_totalOf 21 = .ok (.invokevirtual 56, 3) := by decide +kernel
theorem dX5_totalOf_24 : decode cX5_totalOf 24 = .ok (.iadd, 1) := by decide +kernel
theorem dX5_totalOf_25 : decode cX5_totalOf 25 = .ok (.istore_n 2, 1) := by decide +kernel
theorem dX5_totalOf_26 : decode cX5_totalOf 26 = .ok (.iinc 3 1, 3) := by decide +kernel
theorem dX5_totalOf_29 : decode cX5_totalOf 29 = .ok (.goto (-25), 3) := by decide +kernel
theorem dX5_totalOf_32 : decode cX5_totalOf 32 = .ok (.iload_n 2, 1) := by decide +kernel
theorem dX5_totalOf_33 : decode cX5_totalOf 33 = .ok (.ireturn, 1) := by decide +kernel
set_option maxRecDepth 100000 in
set_option maxHeartbeats 4000000 in
theorem M_X5_totalOf (G : zG) (l : Launch) {p0 : Nat} (hp0 : zP p0 = true) {a1 : Int32} {σ : zS} {r : Int32} (hJ : J_X5_totalOf p0 a1 σ = some r) : zMI G l yX5_totalOf cX5_totalOf 4 (some .int) (zrm 2 46) [.ref (G.1 + p0), .int a1] 137 (zen G σ) r 137 (zen G σ) := by
  unfold J_X5_totalOf at hJ
  refine zentI (by decide +kernel) (Nat.le_of_ble_eq_true rfl) ?_
  intro p e s m args below meth c C hret
  refine zr_sub [0, 1] [(0, .ref (G.1 + p0)), (1, .int a1)] rfl ?_
  refine zr_iconst C dX5_totalOf_0 (v := (0 : Int32)) (by decide) ?_
  refine zr_istore_n C [(2, .int (0 : Int32)), (0, .ref (G.1 + p0)), (1, .int a1)] dX5_totalOf_1 (by decide) rfl ?_
  refine zr_iconst C dX5_totalOf_2 (v := (0 : Int32)) (by decide) ?_
  refine zr_istore_n C [(3, .int (0 : Int32)), (2, .int (0 : Int32)), (0, .ref (G.1 + p0)), (1, .int a1)] dX5_totalOf_3 (by decide) rfl ?_
  have hl4 : ∀ (n : Nat) (w2_4 : Int32) (w3_4 : Int32), L_X5_totalOf_4 p0 a1 σ n w2_4 w3_4 = some r → zU G 4 p l e (zrm 2 46) s m args below meth c (MQ below (va_Qi (fun x (_ : Unit) => x = r) (fun _ t => zok G 137 (zen G σ) t) (zA G)) args s 0 0 (zA G)) σ 4 [(0, .ref (G.1 + p0)), (1, .int a1), (2, .int w2_4), (3, .int w3_4)] [] := by
    intro n
    induction n with
    | zero =>
      intro w2_4 w3_4 hJ
      rw [L_X5_totalOf_4] at hJ
      cases hJ
    | succ n ih =>
      intro w2_4 w3_4 hJ
      rw [L_X5_totalOf_4] at hJ
      obtain ⟨r_4, hr_4, hJ⟩ := zlet_e hJ
      have ih4 : ∀ (w2_4 : Int32) (w3_4 : Int32), r_4 w2_4 w3_4 = some r → zU G 4 p l e (zrm 2 46) s m args below meth c (MQ below (va_Qi (fun x (_ : Unit) => x = r) (fun _ t => zok G 137 (zen G σ) t) (zA G)) args s 0 0 (zA G)) σ 4 [(0, .ref (G.1 + p0)), (1, .int a1), (2, .int w2_4), (3, .int w3_4)] [] := by
        rw [hr_4]
        exact ih
      refine zr_iload_n C 3 dX5_totalOf_4 rfl ?_
      refine zr_bipush C dX5_totalOf_5 (v := (8 : Int32)) (by decide) ?_
      refine zr_icmp_ge C 32 dX5_totalOf_7 (by decide) (fun hc1 => ?_) (fun hc1 => ?_)
      · have hJ := zif hc1 hJ
        refine zr_iload_n C 2 dX5_totalOf_32 rfl ?_
        exact zr_iret C hret (zs_e hJ) rfl rfl dX5_totalOf_33
      · have hJ := zif' hc1 hJ
        refine zr_iload_n C 3 dX5_totalOf_10 rfl ?_
        refine zr_iload_n C 1 dX5_totalOf_11 rfl ?_
        obtain ⟨r2, hr2, hJ⟩ := zb_e hJ
        refine zr_callnSI C (M_X10_isOneOf G l hr2) zin_X10_isOneOf zne_X5_52 rfl rfl (Nat.le_of_ble_eq_true rfl) ⟨Nat.le_of_ble_eq_true rfl, Nat.le_of_ble_eq_true rfl⟩ ⟨Nat.le_of_ble_eq_true rfl, Nat.le_of_ble_eq_true rfl⟩ dX5_totalOf_12 ?_
        refine zr_if_eq C 26 dX5_totalOf_15 (by decide) (fun hc3 => ?_) (fun hc3 => ?_)
        · have hJ := zif hc3 hJ
          obtain ⟨v4, hv4, hJ⟩ := zlet_e hJ
          refine zr_iinc C v4 3 [(3, .int v4), (0, .ref (G.1 + p0)), (1, .int a1), (2, .int w2_4)] dX5_totalOf_26 rfl (hv4.trans (zinc (by decide))) (by decide) rfl ?_
          refine zr_goto C 4 dX5_totalOf_29 (by decide) ?_
          refine zr_sub [1, 2, 3, 0] [(0, .ref (G.1 + p0)), (1, .int a1), (2, .int w2_4), (3, .int v4)] rfl ?_
          exact ih4 _ _ hJ
        · have hJ := zif' hc3 hJ
          refine zr_iload_n C 2 dX5_totalOf_18 rfl ?_
          refine zr_aload_n C 0 dX5_totalOf_19 rfl ?_
          refine zr_iload_n C 3 dX5_totalOf_20 rfl ?_
          obtain ⟨r5, hr5, hJ⟩ := zb_e hJ
          refine zr_callVI C p0 (zk_lt (zkP_0 hp0) (by decide)) (zen_obj (zkP_0 hp0)) (rfl : zcl[3]? = some (RX3, TX3, 19)) (M_X3_total G l hp0 hr5) zin_X3_total zm_45_14 rfl rfl (Nat.le_of_ble_eq_true rfl) ⟨Nat.le_of_ble_eq_true rfl, Nat.le_of_ble_eq_true rfl⟩ ⟨Nat.le_of_ble_eq_true rfl, Nat.le_of_ble_eq_true rfl⟩ dX5_totalOf_21 ?_
          refine zr_iadd C dX5_totalOf_24 ?_
          obtain ⟨v6, hv6, hJ⟩ := zlet_e hJ
          refine zr_topi hv6 ?_
          refine zr_istore_n C [(2, .int v6), (0, .ref (G.1 + p0)), (1, .int a1), (3, .int w3_4)] dX5_totalOf_25 (by decide) rfl ?_
          obtain ⟨v7, hv7, hJ⟩ := zlet_e hJ
          refine zr_iinc C v7 3 [(3, .int v7), (2, .int v6), (0, .ref (G.1 + p0)), (1, .int a1)] dX5_totalOf_26 rfl (hv7.trans (zinc (by decide))) (by decide) rfl ?_
          refine zr_goto C 4 dX5_totalOf_29 (by decide) ?_
          refine zr_sub [2, 3, 1, 0] [(0, .ref (G.1 + p0)), (1, .int a1), (2, .int v6), (3, .int v7)] rfl ?_
          exact ih4 _ _ hJ
  refine zr_sub [2, 3, 1, 0] [(0, .ref (G.1 + p0)), (1, .int a1), (2, .int (0 : Int32)), (3, .int (0 : Int32))] rfl ?_
  exact hl4 _ _ _ hJ
theorem dX5_guess_0 : decode cX5_guess 0 = .ok (.aload_n 0, 1) := by decide +kernel
theorem dX5_guess_1 : decode cX5_guess 1 = .ok (.iconst 0, 1) := by decide +kernel
theorem dX5_guess_2 : decode cX5_guess 2 = .ok (.putfield 25, 3) := by decide +kernel
theorem dX5_guess_5 : decode cX5_guess 5 = .ok (.iconst 1, 1) := by decide +kernel
theorem dX5_guess_6 : decode cX5_guess 6 = .ok (.istore 4, 2) := by decide +kernel
theorem dX5_guess_8 : decode cX5_guess 8 = .ok (.iload 4, 2) := by decide +kernel
theorem dX5_guess_10 : decode cX5_guess 10 = .ok (.iconst 2, 1) := by decide +kernel
theorem dX5_guess_11 : decode cX5_guess 11 = .ok (.if_icmp .gt 57, 3) := by decide +kernel
theorem dX5_guess_14 : decode cX5_guess 14 = .ok (.iconst 1, 1) := by decide +kernel
theorem dX5_guess_15 : decode cX5_guess 15 = .ok (.istore 5, 2) := by decide +kernel
theorem dX5_guess_17 : decode cX5_guess 17 = .ok (.iload 5, 2) := by decide +kernel
theorem dX5_guess_19 : decode cX5_guess 19 = .ok (.sipush 256, 3) := by decide +kernel
theorem dX5_guess_22 : decode cX5_guess 22 = .ok (.if_icmp .ge 40, 3) := by decide +kernel
theorem dX5_guess_25 : decode cX5_guess 25 = .ok (.iload 5, 2) := by decide +kernel
theorem dX5_guess_27 : decode cX5_guess 27 = .ok (.invokestatic 35, 3) := by decide +kernel
theorem dX5_guess_30 : decode cX5_guess 30 = .ok (.iload 4, 2) := by decide +kernel
theorem dX5_guess_32 : decode cX5_guess 32 = .ok (.if_icmp .ne 24, 3) := by decide +kernel
theorem dX5_guess_35 : decode cX5_guess 35 = .ok (.aload_n 0, 1) := by decide +kernel
theorem dX5_guess_36 : decode cX5_guess 36 = .ok (.iload_n 2, 1) := by decide +kernel
theorem dX5_guess_37 : decode cX5_guess 37 = .ok (.iload_n 3, 1) := by decide +kernel
theorem dX5_guess_38 : decode cX5_guess 38 = .ok (.aload_n 1, 1) := by decide +kernel
theorem dX5_guess_39 : decode cX5_guess 39 = .ok (.iload 5, 2) := by decide +kernel
theorem dX5_guess_41 : decode cX5_guess 41 = .ok (.invokestatic 41, 3) := by decide +kernel
theorem dX5_guess_44 : decode cX5_guess 44 = .ok (.invokevirtual 45, 3) := by decide +kernel
theorem dX5_guess_47 : decode cX5_guess 47 = .ok (.ifCond .eq 9, 3) := by decide +kernel
theorem dX5_guess_50 : decode cX5_guess 50 = .ok (.aload_n 0, 1) := by decide +kernel
theorem dX5_guess_51 : decode cX5_guess 51 = .ok (.iload 5, 2) := by decide +kernel
theorem dX5_guess_53 : decode cX5_guess 53 = .ok (.invokevirtual 48, 3) := by decide +kernel
theorem dX5_guess_56 : decode cX5_guess 56 = .ok (.iinc 5 1, 3) := by decide +kernel
theorem dX5_guess_59 : decode cX5_guess 59 = .ok (.goto (-42), 3) := by decide +kernel
theorem dX5_guess_62 : decode cX5_guess 62 = .ok (.iinc 4 1, 3) := by decide +kernel
theorem dX5_guess_65 : decode cX5_guess 65 = .ok (.goto (-57), 3) := by decide +kernel
theorem dX5_guess_68 : decode cX5_guess 68 = .ok (.return_, 1) := by decide +kernel
set_option maxRecDepth 100000 in
set_option maxHeartbeats 4000000 in
theorem M_X5_guess (G : zG) (l : Launch) {p1 : Nat} (hp1 : zP p1 = true) {a2 : Int32} {a3 : Int32} {σ : zS} {σ' : zS} (hJ : J_X5_guess p1 a2 a3 σ = some σ') : zMV G l yX5_guess cX5_guess 6 none (zrm 3 69) [.ref (G.1 + 92), .ref (G.1 + p1), .int a2, .int a3] 137 (zen G σ) 137 (zen G σ') := by
  unfold J_X5_guess at hJ
  refine zentV (by decide +kernel) (Nat.le_of_ble_eq_true rfl) ?_
  intro p e s m args below meth c C hret
  refine zr_sub [0, 1, 2, 3] [(0, .ref (G.1 + 92)), (1, .ref (G.1 + p1)), (2, .int a2), (3, .int a3)] rfl ?_
  refine zr_aload_n C 0 dX5_guess_0 rfl ?_
  refine zr_iconst C dX5_guess_1 (v := (0 : Int32)) (by decide) ?_
  obtain ⟨σ1, hσ1, hJ⟩ := zlet_e hJ
  refine zp_5_4 C 92 zk_92 zm_6_18 hσ1 dX5_guess_2 ?_
  refine zr_iconst C dX5_guess_5 (v := (1 : Int32)) (by decide) ?_
  refine zr_istore C [(4, .int (1 : Int32)), (0, .ref (G.1 + 92)), (1, .ref (G.1 + p1)), (2, .int a2), (3, .int a3)] dX5_guess_6 (by decide) rfl ?_
  have hl8 : ∀ (n : Nat) (w4_8 : Int32) (σ_8 : zS), L_X5_guess_8 p1 a2 a3 n w4_8 σ_8 = some σ' → zU G 6 p l e (zrm 3 69) s m args below meth c (MQ below (va_Qv (fun (_ : Unit) => True) (fun _ t => zok G 137 (zen G σ') t) (zA G)) args s 0 0 (zA G)) σ_8 8 [(0, .ref (G.1 + 92)), (1, .ref (G.1 + p1)), (2, .int a2), (3, .int a3), (4, .int w4_8)] [] := by
    intro n
    induction n with
    | zero =>
      intro w4_8 σ_8 hJ
      rw [L_X5_guess_8] at hJ
      cases hJ
    | succ n ih =>
      intro w4_8 σ_8 hJ
      rw [L_X5_guess_8] at hJ
      obtain ⟨r_8, hr_8, hJ⟩ := zlet_e hJ
      have ih8 : ∀ (w4_8 : Int32) (σ_8 : zS), r_8 w4_8 σ_8 = some σ' → zU G 6 p l e (zrm 3 69) s m args below meth c (MQ below (va_Qv (fun (_ : Unit) => True) (fun _ t => zok G 137 (zen G σ') t) (zA G)) args s 0 0 (zA G)) σ_8 8 [(0, .ref (G.1 + 92)), (1, .ref (G.1 + p1)), (2, .int a2), (3, .int a3), (4, .int w4_8)] [] := by
        rw [hr_8]
        exact ih
      refine zr_iload C 4 dX5_guess_8 rfl ?_
      refine zr_iconst C dX5_guess_10 (v := (2 : Int32)) (by decide) ?_
      refine zr_icmp_gt C 68 dX5_guess_11 (by decide) (fun hc2 => ?_) (fun hc2 => ?_)
      · have hJ := zif hc2 hJ
        exact zr_vret C hret rfl (congrArg (zen G) (zs_e hJ)) dX5_guess_68
      · have hJ := zif' hc2 hJ
        refine zr_iconst C dX5_guess_14 (v := (1 : Int32)) (by decide) ?_
        refine zr_istore C [(5, .int (1 : Int32)), (0, .ref (G.1 + 92)), (1, .ref (G.1 + p1)), (2, .int a2), (3, .int a3), (4, .int w4_8)] dX5_guess_15 (by decide) rfl ?_
        obtain ⟨k62, hk62, hJ⟩ := zlet_e hJ
        have hj62 : ∀ (σ_62 : zS), k62 σ_62 = some σ' → zU G 6 p l e (zrm 3 69) s m args below meth c (MQ below (va_Qv (fun (_ : Unit) => True) (fun _ t => zok G 137 (zen G σ') t) (zA G)) args s 0 0 (zA G)) σ_62 62 [(0, .ref (G.1 + 92)), (1, .ref (G.1 + p1)), (2, .int a2), (3, .int a3), (4, .int w4_8)] [] := by
          intro σ_62 hJ
          rw [hk62] at hJ
          unfold D_X5_guess_62 at hJ
          obtain ⟨v3, hv3, hJ⟩ := zlet_e hJ
          refine zr_iinc C v3 4 [(4, .int v3), (0, .ref (G.1 + 92)), (1, .ref (G.1 + p1)), (2, .int a2), (3, .int a3)] dX5_guess_62 rfl (hv3.trans (zinc (by decide))) (by decide) rfl ?_
          refine zr_goto C 8 dX5_guess_65 (by decide) ?_
          refine zr_sub [1, 2, 3, 4, 0] [(0, .ref (G.1 + 92)), (1, .ref (G.1 + p1)), (2, .int a2), (3, .int a3), (4, .int v3)] rfl ?_
          exact ih8 _ _ hJ
        have hl17 : ∀ (n : Nat) (w5_17 : Int32) (σ_17 : zS), L_X5_guess_17 p1 a2 a3 w4_8 k62 n w5_17 σ_17 = some σ' → zU G 6 p l e (zrm 3 69) s m args below meth c (MQ below (va_Qv (fun (_ : Unit) => True) (fun _ t => zok G 137 (zen G σ') t) (zA G)) args s 0 0 (zA G)) σ_17 17 [(0, .ref (G.1 + 92)), (1, .ref (G.1 + p1)), (2, .int a2), (3, .int a3), (4, .int w4_8), (5, .int w5_17)] [] := by
          intro n
          induction n with
          | zero =>
            intro w5_17 σ_17 hJ
            rw [L_X5_guess_17] at hJ
            cases hJ
          | succ n ih =>
            intro w5_17 σ_17 hJ
            rw [L_X5_guess_17] at hJ
            obtain ⟨r_17, hr_17, hJ⟩ := zlet_e hJ
            have ih17 : ∀ (w5_17 : Int32) (σ_17 : zS), r_17 w5_17 σ_17 = some σ' → zU G 6 p l e (zrm 3 69) s m args below meth c (MQ below (va_Qv (fun (_ : Unit) => True) (fun _ t => zok G 137 (zen G σ') t) (zA G)) args s 0 0 (zA G)) σ_17 17 [(0, .ref (G.1 + 92)), (1, .ref (G.1 + p1)), (2, .int a2), (3, .int a3), (4, .int w4_8), (5, .int w5_17)] [] := by
              rw [hr_17]
              exact ih
            refine zr_iload C 5 dX5_guess_17 rfl ?_
            refine zr_sipush C dX5_guess_19 (v := (256 : Int32)) (by decide) ?_
            refine zr_icmp_ge C 62 dX5_guess_22 (by decide) (fun hc4 => ?_) (fun hc4 => ?_)
            · have hJ := zif hc4 hJ
              refine zr_sub [0, 1, 2, 3, 4] [(0, .ref (G.1 + 92)), (1, .ref (G.1 + p1)), (2, .int a2), (3, .int a3), (4, .int w4_8)] rfl ?_
              exact hj62 _ hJ
            · have hJ := zif' hc4 hJ
              refine zr_iload C 5 dX5_guess_25 rfl ?_
              obtain ⟨r5, hr5, hJ⟩ := zb_e hJ
              refine zr_callSI C (M_J6_bitCount_0f7a4 G l hr5) zin_J6_bitCount_0f7a4 zm_45_10 rfl rfl (Nat.le_of_ble_eq_true rfl) ⟨Nat.le_of_ble_eq_true rfl, Nat.le_of_ble_eq_true rfl⟩ ⟨Nat.le_of_ble_eq_true rfl, Nat.le_of_ble_eq_true rfl⟩ dX5_guess_27 ?_
              refine zr_iload C 4 dX5_guess_30 rfl ?_
              refine zr_icmp_ne C 56 dX5_guess_32 (by decide) (fun hc6 => ?_) (fun hc6 => ?_)
              · have hJ := zif' hc6 hJ
                obtain ⟨v7, hv7, hJ⟩ := zlet_e hJ
                refine zr_iinc C v7 5 [(5, .int v7), (0, .ref (G.1 + 92)), (1, .ref (G.1 + p1)), (2, .int a2), (3, .int a3), (4, .int w4_8)] dX5_guess_56 rfl (hv7.trans (zinc (by decide))) (by decide) rfl ?_
                refine zr_goto C 17 dX5_guess_59 (by decide) ?_
                refine zr_sub [1, 2, 3, 4, 5, 0] [(0, .ref (G.1 + 92)), (1, .ref (G.1 + p1)), (2, .int a2), (3, .int a3), (4, .int w4_8), (5, .int v7)] rfl ?_
                exact ih17 _ _ hJ
              · have hJ := zif hc6 hJ
                refine zr_aload_n C 0 dX5_guess_35 rfl ?_
                refine zr_iload_n C 2 dX5_guess_36 rfl ?_
                refine zr_iload_n C 3 dX5_guess_37 rfl ?_
                refine zr_aload_n C 1 dX5_guess_38 rfl ?_
                refine zr_iload C 5 dX5_guess_39 rfl ?_
                obtain ⟨r8, hr8, hJ⟩ := zb_e hJ
                refine zr_callSI C (M_X5_totalOf G l hp1 hr8) zin_X5_totalOf zm_45_11 rfl rfl (Nat.le_of_ble_eq_true rfl) ⟨Nat.le_of_ble_eq_true rfl, Nat.le_of_ble_eq_true rfl⟩ ⟨Nat.le_of_ble_eq_true rfl, Nat.le_of_ble_eq_true rfl⟩ dX5_guess_41 ?_
                obtain ⟨r9, hr9, hJ⟩ := zb_e hJ
                refine zr_callVI C 92 (zk_lt zk_92 (by decide)) (zen_obj zk_92) (rfl : zcl[5]? = some (RX5, TX5, 6)) (M_X5_allShowed G l hr9) zin_X5_allShowed zm_45_15 rfl rfl (Nat.le_of_ble_eq_true rfl) ⟨Nat.le_of_ble_eq_true rfl, Nat.le_of_ble_eq_true rfl⟩ ⟨Nat.le_of_ble_eq_true rfl, Nat.le_of_ble_eq_true rfl⟩ dX5_guess_44 ?_
                refine zr_if_eq C 56 dX5_guess_47 (by decide) (fun hc10 => ?_) (fun hc10 => ?_)
                · have hJ := zif hc10 hJ
                  obtain ⟨v11, hv11, hJ⟩ := zlet_e hJ
                  refine zr_iinc C v11 5 [(5, .int v11), (0, .ref (G.1 + 92)), (1, .ref (G.1 + p1)), (2, .int a2), (3, .int a3), (4, .int w4_8)] dX5_guess_56 rfl (hv11.trans (zinc (by decide))) (by decide) rfl ?_
                  refine zr_goto C 17 dX5_guess_59 (by decide) ?_
                  refine zr_sub [1, 2, 3, 4, 5, 0] [(0, .ref (G.1 + 92)), (1, .ref (G.1 + p1)), (2, .int a2), (3, .int a3), (4, .int w4_8), (5, .int v11)] rfl ?_
                  exact ih17 _ _ hJ
                · have hJ := zif' hc10 hJ
                  refine zr_aload_n C 0 dX5_guess_50 rfl ?_
                  refine zr_iload C 5 dX5_guess_51 rfl ?_
                  obtain ⟨σ13, hr12, hJ⟩ := zb_e hJ
                  refine zr_callVV C 92 (zk_lt zk_92 (by decide)) (zen_obj zk_92) (rfl : zcl[5]? = some (RX5, TX5, 6)) (M_X5_addGuess G l hr12) zin_X5_addGuess zm_45_19 rfl rfl (Nat.le_of_ble_eq_true rfl) ⟨Nat.le_of_ble_eq_true rfl, Nat.le_of_ble_eq_true rfl⟩ ⟨Nat.le_of_ble_eq_true rfl, Nat.le_of_ble_eq_true rfl⟩ dX5_guess_53 ?_
                  obtain ⟨v14, hv14, hJ⟩ := zlet_e hJ
                  refine zr_iinc C v14 5 [(5, .int v14), (0, .ref (G.1 + 92)), (1, .ref (G.1 + p1)), (2, .int a2), (3, .int a3), (4, .int w4_8)] dX5_guess_56 rfl (hv14.trans (zinc (by decide))) (by decide) rfl ?_
                  refine zr_goto C 17 dX5_guess_59 (by decide) ?_
                  refine zr_sub [1, 2, 3, 4, 5, 0] [(0, .ref (G.1 + 92)), (1, .ref (G.1 + p1)), (2, .int a2), (3, .int a3), (4, .int w4_8), (5, .int v14)] rfl ?_
                  exact ih17 _ _ hJ
        refine zr_sub [1, 2, 3, 4, 5, 0] [(0, .ref (G.1 + 92)), (1, .ref (G.1 + p1)), (2, .int a2), (3, .int a3), (4, .int w4_8), (5, .int (1 : Int32))] rfl ?_
        exact hl17 _ _ _ hJ
  refine zr_sub [1, 2, 3, 4, 0] [(0, .ref (G.1 + 92)), (1, .ref (G.1 + p1)), (2, .int a2), (3, .int a3), (4, .int (1 : Int32))] rfl ?_
  exact hl8 _ _ _ hJ
theorem dX5_hasOneOf_0 : decode cX5_hasOneOf 0 = .ok (.iconst 0, 1) := by decide +kernel
theorem dX5_hasOneOf_1 : decode cX5_hasOneOf 1 = .ok (.istore_n 3, 1) := by decide +kernel
theorem dX5_hasOneOf_2 : decode cX5_hasOneOf 2 = .ok (.iload_n 3, 1) := by decide +kernel
theorem dX5_hasOneOf_3 : decode cX5_hasOneOf 3 = .ok (.aload_n 0, 1) := by decide +kernel
theorem dX5_hasOneOf_4 : decode cX5_hasOneOf 4 = .ok (.getfield 9, 3) := by decide +kernel
theorem dX5_hasOneOf_7 : decode cX5_hasOneOf 7 = .ok (.if_icmp .ge 21, 3) := by decide +kernel
theorem dX5_hasOneOf_10 : decode cX5_hasOneOf 10 = .ok (.aload_n 0, 1) := by decide +kernel
theorem dX5_hasOneOf_11 : decode cX5_hasOneOf 11 = .ok (.iload_n 3, 1) := by decide +kernel
theorem dX5_hasOneOf_12 : decode cX5_hasOneOf 12 = .ok (.iload_n 1, 1) := by decide +kernel
theorem dX5_hasOneOf_13 : decode cX5_hasOneOf 13 = .ok (.iload_n 2, 1) := by decide +kernel
theorem dX5_hasOneOf_14 : decode cX5_hasOneOf 14 = .ok (.invokevirtual 31, 3) := by decide +kernel
theorem dX5_hasOneOf_17 : decode cX5_hasOneOf 17 = .ok (.ifCond .eq 5, 3) := by decide +kernel
theorem dX5_hasOneOf_20 : decode cX5_hasOneOf 20 = .ok (.iconst 1, 1) := by decide +kernel
theorem dX5_hasOneOf_21 : decode cX5_hasOneOf 21 = .ok (.ireturn, 1) := by decide +kernel
theorem dX5_hasOneOf_22 : decode cX5_hasOneOf 22 = .ok (.iinc 3 1, 3) := by decide +kernel
theorem dX5_hasOneOf_25 : decode cX5_hasOneOf 25 = .ok (.goto (-23), 3) := by decide +kernel
theorem dX5_hasOneOf_28 : decode cX5_hasOneOf 28 = .ok (.iconst 0, 1) := by decide +kernel
theorem dX5_hasOneOf_29 : decode cX5_hasOneOf 29 = .ok (.ireturn, 1) := by decide +kernel
set_option maxRecDepth 100000 in
set_option maxHeartbeats 4000000 in
theorem M_X5_hasOneOf (G : zG) (l : Launch) {a1 : Int32} {a2 : Int32} {σ : zS} {r : Int32} (hJ : J_X5_hasOneOf a1 a2 σ = some r) : zMI G l yX5_hasOneOf cX5_hasOneOf 4 (some .boolean) (zrm 1 23) [.ref (G.1 + 92), .int a1, .int a2] 137 (zen G σ) r 137 (zen G σ) := by
  unfold J_X5_hasOneOf at hJ
  refine zentI (by decide +kernel) (Nat.le_of_ble_eq_true rfl) ?_
  intro p e s m args below meth c C hret
  refine zr_sub [0, 1, 2] [(0, .ref (G.1 + 92)), (1, .int a1), (2, .int a2)] rfl ?_
  refine zr_iconst C dX5_hasOneOf_0 (v := (0 : Int32)) (by decide) ?_
  refine zr_istore_n C [(3, .int (0 : Int32)), (0, .ref (G.1 + 92)), (1, .int a1), (2, .int a2)] dX5_hasOneOf_1 (by decide) rfl ?_
  have hl2 : ∀ (n : Nat) (w3_2 : Int32), L_X5_hasOneOf_2 a1 a2 σ n w3_2 = some r → zU G 4 p l e (zrm 1 23) s m args below meth c (MQ below (va_Qi (fun x (_ : Unit) => x = r) (fun _ t => zok G 137 (zen G σ) t) (zA G)) args s 0 0 (zA G)) σ 2 [(0, .ref (G.1 + 92)), (1, .int a1), (2, .int a2), (3, .int w3_2)] [] := by
    intro n
    induction n with
    | zero =>
      intro w3_2 hJ
      rw [L_X5_hasOneOf_2] at hJ
      cases hJ
    | succ n ih =>
      intro w3_2 hJ
      rw [L_X5_hasOneOf_2] at hJ
      obtain ⟨r_2, hr_2, hJ⟩ := zlet_e hJ
      have ih2 : ∀ (w3_2 : Int32), r_2 w3_2 = some r → zU G 4 p l e (zrm 1 23) s m args below meth c (MQ below (va_Qi (fun x (_ : Unit) => x = r) (fun _ t => zok G 137 (zen G σ) t) (zA G)) args s 0 0 (zA G)) σ 2 [(0, .ref (G.1 + 92)), (1, .int a1), (2, .int a2), (3, .int w3_2)] [] := by
        rw [hr_2]
        exact ih
      refine zr_iload_n C 3 dX5_hasOneOf_2 rfl ?_
      refine zr_aload_n C 0 dX5_hasOneOf_3 rfl ?_
      refine zg_5_0 C 92 zk_92 zm_6_14 dX5_hasOneOf_4 ?_
      refine zr_icmp_ge C 28 dX5_hasOneOf_7 (by decide) (fun hc1 => ?_) (fun hc1 => ?_)
      · have hJ := zif hc1 hJ
        refine zr_iconst C dX5_hasOneOf_28 (v := (0 : Int32)) (by decide) ?_
        exact zr_zret C hret (zs_e hJ) rfl rfl rfl dX5_hasOneOf_29
      · have hJ := zif' hc1 hJ
        refine zr_aload_n C 0 dX5_hasOneOf_10 rfl ?_
        refine zr_iload_n C 3 dX5_hasOneOf_11 rfl ?_
        refine zr_iload_n C 1 dX5_hasOneOf_12 rfl ?_
        refine zr_iload_n C 2 dX5_hasOneOf_13 rfl ?_
        obtain ⟨r2, hr2, hJ⟩ := zb_e hJ
        refine zr_callVI C 92 (zk_lt zk_92 (by decide)) (zen_obj zk_92) (rfl : zcl[5]? = some (RX5, TX5, 6)) (M_X5_isOf G l hr2) zin_X5_isOf zm_45_2 rfl rfl (Nat.le_of_ble_eq_true rfl) ⟨Nat.le_of_ble_eq_true rfl, Nat.le_of_ble_eq_true rfl⟩ ⟨Nat.le_of_ble_eq_true rfl, Nat.le_of_ble_eq_true rfl⟩ dX5_hasOneOf_14 ?_
        refine zr_if_eq C 22 dX5_hasOneOf_17 (by decide) (fun hc3 => ?_) (fun hc3 => ?_)
        · have hJ := zif hc3 hJ
          obtain ⟨v4, hv4, hJ⟩ := zlet_e hJ
          refine zr_iinc C v4 3 [(3, .int v4), (0, .ref (G.1 + 92)), (1, .int a1), (2, .int a2)] dX5_hasOneOf_22 rfl (hv4.trans (zinc (by decide))) (by decide) rfl ?_
          refine zr_goto C 2 dX5_hasOneOf_25 (by decide) ?_
          refine zr_sub [1, 2, 3, 0] [(0, .ref (G.1 + 92)), (1, .int a1), (2, .int a2), (3, .int v4)] rfl ?_
          exact ih2 _ hJ
        · have hJ := zif' hc3 hJ
          refine zr_iconst C dX5_hasOneOf_20 (v := (1 : Int32)) (by decide) ?_
          exact zr_zret C hret (zs_e hJ) rfl rfl rfl dX5_hasOneOf_21
  refine zr_sub [1, 2, 3, 0] [(0, .ref (G.1 + 92)), (1, .int a1), (2, .int a2), (3, .int (0 : Int32))] rfl ?_
  exact hl2 _ _ hJ
theorem dX10_wired_0 : decode cX10_wired 0 = .ok (.aload_n 0, 1) := by decide +kernel
theorem dX10_wired_1 : decode cX10_wired 1 = .ok (.getfield 45, 3) := by decide +kernel
theorem dX10_wired_4 : decode cX10_wired 4 = .ok (.iload_n 1, 1) := by decide +kernel
theorem dX10_wired_5 : decode cX10_wired 5 = .ok (.invokevirtual 208, 3) := by decide +kernel
theorem dX10_wired_8 : decode cX10_wired 8 = .ok (.ifCond .eq 20, 3) := by decide +kernel
theorem dX10_wired_11 : decode cX10_wired 11 = .ok (.iload_n 2, 1) := by decide +kernel
theorem dX10_wired_12 : decode cX10_wired 12 = .ok (.invokestatic 120, 3) := by decide +kernel
theorem dX10_wired_15 : decode cX10_wired 15 = .ok (.ifCond .eq 13, 3) := by decide +kernel
theorem dX10_wired_18 : decode cX10_wired 18 = .ok (.iload_n 3, 1) := by decide +kernel
theorem dX10_wired_19 : decode cX10_wired 19 = .ok (.ifCond .eq 11, 3) := by decide +kernel
theorem dX10_wired_22 : decode cX10_wired 22 = .ok (.iload_n 3, 1) := by decide +kernel
theorem dX10_wired_23 : decode cX10_wired 23 = .ok (.bipush 10, 2) := by decide +kernel
theorem dX10_wired_25 : decode cX10_wired 25 = .ok (.if_icmp .ge 5, 3) := by decide +kernel
theorem dX10_wired_28 : decode cX10_wired 28 = .ok (.iconst (-1), 1) := by decide +kernel
theorem dX10_wired_29 : decode cX10_wired 29 = .ok (.ireturn, 1) := by decide +kernel
theorem dX10_wired_30 : decode cX10_wired 30 = .ok (.aload_n 0, 1) := by decide +kernel
theorem dX10_wired_31 : decode cX10_wired 31 = .ok (.getfield 73, 3) := by decide +kernel
theorem dX10_wired_34 : decode cX10_wired 34 = .ok (.iload_n 1, 1) := by decide +kernel
theorem dX10_wired_35 : decode cX10_wired 35 = .ok (.iload_n 2, 1) := by decide +kernel
theorem dX10_wired_36 : decode cX10_wired 36 = .ok (.invokevirtual 335, 3) := by decide +kernel
theorem dX10_wired_39 : decode cX10_wired 39 = .ok (.ifCond .ne 14, 3) := by decide +kernel
theorem dX10_wired_42 : decode cX10_wired 42 = .ok (.iload_n 3, 1) := by decide +kernel
theorem dX10_wired_43 : decode cX10_wired 43 = .ok (.ifCond .ne 8, 3) := by decide +kernel
theorem dX10_wired_46 : decode cX10_wired 46 = .ok (.bipush (-4), 2) := by decide +kernel
theorem dX10_wired_48 : decode cX10_wired 48 = .ok (.goto 4, 3) := by decide +kernel
theorem dX10_wired_51 : decode cX10_wired 51 = .ok (.iconst (-1), 1) := by decide +kernel
theorem dX10_wired_52 : decode cX10_wired 52 = .ok (.ireturn, 1) := by decide +kernel
theorem dX10_wired_53 : decode cX10_wired 53 = .ok (.aload_n 0, 1) := by decide +kernel
theorem dX10_wired_54 : decode cX10_wired 54 = .ok (.getfield 73, 3) := by decide +kernel
theorem dX10_wired_57 : decode cX10_wired 57 = .ok (.aload_n 0, 1) := by decide +kernel
theorem dX10_wired_58 : decode cX10_wired 58 = .ok (.getfield 19, 3) := by decide +kernel
theorem dX10_wired_61 : decode cX10_wired 61 = .ok (.iload_n 1, 1) := by decide +kernel
theorem dX10_wired_62 : decode cX10_wired 62 = .ok (.iload_n 2, 1) := by decide +kernel
theorem dX10_wired_63 : decode cX10_wired 63 = .ok (.invokevirtual 338, 3) := by decide +kernel
theorem dX10_wired_66 : decode cX10_wired 66 = .ok (.iload_n 3, 1) := by decide +kernel
theorem dX10_wired_67 : decode cX10_wired 67 = .ok (.ifCond .ne 11, 3) := by decide +kernel
theorem dX10_wired_70 : decode cX10_wired 70 = .ok (.aload_n 0, 1) := by decide +kernel
theorem dX10_wired_71 : decode cX10_wired 71 = .ok (.getfield 73, 3) := by decide +kernel
theorem dX10_wired_74 : decode cX10_wired 74 = .ok (.getfield 342, 3) := by decide +kernel
theorem dX10_wired_77 : decode cX10_wired 77 = .ok (.ireturn, 1) := by decide +kernel
theorem dX10_wired_78 : decode cX10_wired 78 = .ok (.iload_n 3, 1) := by decide +kernel
theorem dX10_wired_79 : decode cX10_wired 79 = .ok (.bipush 10, 2) := by decide +kernel
theorem dX10_wired_81 : decode cX10_wired 81 = .ok (.isub, 1) := by decide +kernel
theorem dX10_wired_82 : decode cX10_wired 82 = .ok (.aload_n 0, 1) := by decide +kernel
theorem dX10_wired_83 : decode cX10_wired 83 = .ok (.getfield 73, 3) := by decide +kernel
theorem dX10_wired_86 : decode cX10_wired 86 = .ok (.getfield 342, 3) := by decide +kernel
theorem dX10_wired_89 : decode cX10_wired 89 = .ok (.if_icmp .ge 18, 3) := by decide +kernel
theorem dX10_wired_92 : decode cX10_wired 92 = .ok (.aload_n 0, 1) := by decide +kernel
theorem dX10_wired_93 : decode cX10_wired 93 = .ok (.getfield 73, 3) := by decide +kernel
theorem dX10_wired_96 : decode cX10_wired 96 = .ok (.getfield 345, 3) := by decide +kernel
theorem dX10_wired_99 : decode cX10_wired 99 = .ok (.iload_n 3, 1) := by decide +kernel
theorem dX10_wired_100 : decode cX10_wired 100 = .ok (.bipush 10, 2) := by decide +kernel
theorem dX10_wired_102 : decode cX10_wired 102 = .ok (.isub, 1) := by decide +kernel
theorem dX10_wired_103 : decode cX10_wired 103 = .ok (.iaload, 1) := by decide +kernel
theorem dX10_wired_104 : decode cX10_wired 104 = .ok (.goto 4, 3) := by decide +kernel
theorem dX10_wired_107 : decode cX10_wired 107 = .ok (.iconst (-1), 1) := by decide +kernel
theorem dX10_wired_108 : decode cX10_wired 108 = .ok (.ireturn, 1) := by decide +kernel
set_option maxRecDepth 100000 in
set_option maxHeartbeats 4000000 in
theorem M_X10_wired (G : zG) (l : Launch) {a1 : Int32} {a2 : Int32} {a3 : Int32} {σ : zS} {r : Int32} {σ' : zS} (hJ : J_X10_wired a1 a2 a3 σ = some (r, σ')) : zMI G l yX10_wired cX10_wired 4 (some .int) (zrm 4 94) [.ref (G.1 + 0), .int a1, .int a2, .int a3] 137 (zen G σ) r 137 (zen G σ') := by
  unfold J_X10_wired at hJ
  refine zentI (by decide +kernel) (Nat.le_of_ble_eq_true rfl) ?_
  intro p e s m args below meth c C hret
  refine zr_sub [0, 1, 2, 3] [(0, .ref (G.1 + 0)), (1, .int a1), (2, .int a2), (3, .int a3)] rfl ?_
  refine zr_aload_n C 0 dX10_wired_0 rfl ?_
  refine zg_10_5 C 0 zk_0 zm_2_9 dX10_wired_1 ?_
  refine zr_iload_n C 1 dX10_wired_4 rfl ?_
  obtain ⟨r1, hr1, hJ⟩ := zb_e hJ
  refine zr_callVI C 82 (zk_lt zk_82 (by decide)) (zen_obj zk_82) (rfl : zcl[0]? = some (RX0, TX0, 7)) (M_X0_has G l hr1) zin_X0_has zm_29_19 rfl rfl (Nat.le_of_ble_eq_true rfl) ⟨Nat.le_of_ble_eq_true rfl, Nat.le_of_ble_eq_true rfl⟩ ⟨Nat.le_of_ble_eq_true rfl, Nat.le_of_ble_eq_true rfl⟩ dX10_wired_5 ?_
  refine zr_if_eq C 28 dX10_wired_8 (by decide) (fun hc2 => ?_) (fun hc2 => ?_)
  · have hJ := zif hc2 hJ
    refine zr_iconst C dX10_wired_28 (v := (-1 : Int32)) (by decide) ?_
    exact zr_iret C hret (Prod.mk.inj (zs_e hJ)).1 rfl (congrArg (zen G) (Prod.mk.inj (zs_e hJ)).2) dX10_wired_29
  · have hJ := zif' hc2 hJ
    refine zr_iload_n C 2 dX10_wired_11 rfl ?_
    obtain ⟨r3, hr3, hJ⟩ := zb_e hJ
    refine zr_callSI C (M_X10_isEvent G l hr3) zin_X10_isEvent zm_14_23 rfl rfl (Nat.le_of_ble_eq_true rfl) ⟨Nat.le_of_ble_eq_true rfl, Nat.le_of_ble_eq_true rfl⟩ ⟨Nat.le_of_ble_eq_true rfl, Nat.le_of_ble_eq_true rfl⟩ dX10_wired_12 ?_
    refine zr_if_eq C 28 dX10_wired_15 (by decide) (fun hc4 => ?_) (fun hc4 => ?_)
    · have hJ := zif hc4 hJ
      refine zr_iconst C dX10_wired_28 (v := (-1 : Int32)) (by decide) ?_
      exact zr_iret C hret (Prod.mk.inj (zs_e hJ)).1 rfl (congrArg (zen G) (Prod.mk.inj (zs_e hJ)).2) dX10_wired_29
    · have hJ := zif' hc4 hJ
      refine zr_iload_n C 3 dX10_wired_18 rfl ?_
      obtain ⟨k30, hk30, hJ⟩ := zlet_e hJ
      have hj30 : k30 = some (r, σ') → zU G 4 p l e (zrm 4 94) s m args below meth c (MQ below (va_Qi (fun x (_ : Unit) => x = r) (fun _ t => zok G 137 (zen G σ') t) (zA G)) args s 0 0 (zA G)) σ 30 [(0, .ref (G.1 + 0)), (1, .int a1), (2, .int a2), (3, .int a3)] [] := by
        intro hJ
        rw [hk30] at hJ
        unfold D_X10_wired_30 at hJ
        refine zr_aload_n C 0 dX10_wired_30 rfl ?_
        refine zg_10_9 C 0 zk_0 zm_3_1 dX10_wired_31 ?_
        refine zr_iload_n C 1 dX10_wired_34 rfl ?_
        refine zr_iload_n C 2 dX10_wired_35 rfl ?_
        obtain ⟨r5, hr5, hJ⟩ := zb_e hJ
        refine zr_callVI C 92 (zk_lt zk_92 (by decide)) (zen_obj zk_92) (rfl : zcl[5]? = some (RX5, TX5, 6)) (M_X5_hasOneOf G l hr5) zin_X5_hasOneOf zm_44_22 rfl rfl (Nat.le_of_ble_eq_true rfl) ⟨Nat.le_of_ble_eq_true rfl, Nat.le_of_ble_eq_true rfl⟩ ⟨Nat.le_of_ble_eq_true rfl, Nat.le_of_ble_eq_true rfl⟩ dX10_wired_36 ?_
        refine zr_if_ne C 53 dX10_wired_39 (by decide) (fun hc6 => ?_) (fun hc6 => ?_)
        · have hJ := zif' hc6 hJ
          refine zr_aload_n C 0 dX10_wired_53 rfl ?_
          refine zg_10_9 C 0 zk_0 zm_3_1 dX10_wired_54 ?_
          refine zr_aload_n C 0 dX10_wired_57 rfl ?_
          obtain ⟨p7, hp7, hJ⟩ := zlet_e hJ
          obtain ⟨hp8, hJ⟩ := zg_e hJ
          refine zg_10_1 C 0 zk_0 zm_1_20 dX10_wired_58 ?_
          refine zr_topr hp7 ?_
          refine zr_iload_n C 1 dX10_wired_61 rfl ?_
          refine zr_iload_n C 2 dX10_wired_62 rfl ?_
          obtain ⟨σ10, hr9, hJ⟩ := zb_e hJ
          refine zr_callVV C 92 (zk_lt zk_92 (by decide)) (zen_obj zk_92) (rfl : zcl[5]? = some (RX5, TX5, 6)) (M_X5_guess G l hp8 hr9) zin_X5_guess zm_45_6 rfl rfl (Nat.le_of_ble_eq_true rfl) ⟨Nat.le_of_ble_eq_true rfl, Nat.le_of_ble_eq_true rfl⟩ ⟨Nat.le_of_ble_eq_true rfl, Nat.le_of_ble_eq_true rfl⟩ dX10_wired_63 ?_
          refine zr_iload_n C 3 dX10_wired_66 rfl ?_
          refine zr_if_ne C 78 dX10_wired_67 (by decide) (fun hc11 => ?_) (fun hc11 => ?_)
          · have hJ := zif' hc11 hJ
            refine zr_iload_n C 3 dX10_wired_78 rfl ?_
            refine zr_bipush C dX10_wired_79 (v := (10 : Int32)) (by decide) ?_
            refine zr_isub C dX10_wired_81 ?_
            refine zr_aload_n C 0 dX10_wired_82 rfl ?_
            refine zg_10_9 C 0 zk_0 zm_3_1 dX10_wired_83 ?_
            refine zg_5_4 C 92 zk_92 zm_44_20 dX10_wired_86 ?_
            refine zr_icmp_ge C 107 dX10_wired_89 (by decide) (fun hc12 => ?_) (fun hc12 => ?_)
            · have hJ := zif hc12 hJ
              refine zr_iconst C dX10_wired_107 (v := (-1 : Int32)) (by decide) ?_
              exact zr_iret C hret (Prod.mk.inj (zs_e hJ)).1 rfl (congrArg (zen G) (Prod.mk.inj (zs_e hJ)).2) dX10_wired_108
            · have hJ := zif' hc12 hJ
              refine zr_aload_n C 0 dX10_wired_92 rfl ?_
              refine zg_10_9 C 0 zk_0 zm_3_1 dX10_wired_93 ?_
              refine zg_5_5 C 92 zk_92 zm_44_21 dX10_wired_96 ?_
              refine zr_iload_n C 3 dX10_wired_99 rfl ?_
              refine zr_bipush C dX10_wired_100 (v := (10 : Int32)) (by decide) ?_
              refine zr_isub C dX10_wired_102 ?_
              obtain ⟨hg13, hJ⟩ := zg_e hJ
              refine zu_iald C 96 zk_96 hg13 dX10_wired_103 ?_
              refine zr_goto C 108 dX10_wired_104 (by decide) ?_
              exact zr_iret C hret (Prod.mk.inj (zs_e hJ)).1 rfl (congrArg (zen G) (Prod.mk.inj (zs_e hJ)).2) dX10_wired_108
          · have hJ := zif hc11 hJ
            refine zr_aload_n C 0 dX10_wired_70 rfl ?_
            refine zg_10_9 C 0 zk_0 zm_3_1 dX10_wired_71 ?_
            refine zg_5_4 C 92 zk_92 zm_44_20 dX10_wired_74 ?_
            exact zr_iret C hret (Prod.mk.inj (zs_e hJ)).1 rfl (congrArg (zen G) (Prod.mk.inj (zs_e hJ)).2) dX10_wired_77
        · have hJ := zif hc6 hJ
          refine zr_iload_n C 3 dX10_wired_42 rfl ?_
          refine zr_if_ne C 51 dX10_wired_43 (by decide) (fun hc14 => ?_) (fun hc14 => ?_)
          · have hJ := zif' hc14 hJ
            refine zr_iconst C dX10_wired_51 (v := (-1 : Int32)) (by decide) ?_
            exact zr_iret C hret (Prod.mk.inj (zs_e hJ)).1 rfl (congrArg (zen G) (Prod.mk.inj (zs_e hJ)).2) dX10_wired_52
          · have hJ := zif hc14 hJ
            refine zr_bipush C dX10_wired_46 (v := (-4 : Int32)) (by decide) ?_
            refine zr_goto C 52 dX10_wired_48 (by decide) ?_
            exact zr_iret C hret (Prod.mk.inj (zs_e hJ)).1 rfl (congrArg (zen G) (Prod.mk.inj (zs_e hJ)).2) dX10_wired_52
      refine zr_if_eq C 30 dX10_wired_19 (by decide) (fun hc15 => ?_) (fun hc15 => ?_)
      · have hJ := zif hc15 hJ
        exact hj30 hJ
      · have hJ := zif' hc15 hJ
        refine zr_iload_n C 3 dX10_wired_22 rfl ?_
        refine zr_bipush C dX10_wired_23 (v := (10 : Int32)) (by decide) ?_
        refine zr_icmp_ge C 30 dX10_wired_25 (by decide) (fun hc16 => ?_) (fun hc16 => ?_)
        · have hJ := zif hc16 hJ
          exact hj30 hJ
        · have hJ := zif' hc16 hJ
          refine zr_iconst C dX10_wired_28 (v := (-1 : Int32)) (by decide) ?_
          exact zr_iret C hret (Prod.mk.inj (zs_e hJ)).1 rfl (congrArg (zen G) (Prod.mk.inj (zs_e hJ)).2) dX10_wired_29
theorem dX11_in_0 : decode cX11_in 0 = .ok (.lload_n 0, 1) := by decide +kernel
theorem dX11_in_1 : decode cX11_in 1 = .ok (.lload_n 2, 1) := by decide +kernel
theorem dX11_in_2 : decode cX11_in 2 = .ok (.lcmp, 1) := by decide +kernel
theorem dX11_in_3 : decode cX11_in 3 = .ok (.ifCond .lt 14, 3) := by decide +kernel
theorem dX11_in_6 : decode cX11_in 6 = .ok (.lload_n 0, 1) := by decide +kernel
theorem dX11_in_7 : decode cX11_in 7 = .ok (.lload 4, 2) := by decide +kernel
theorem dX11_in_9 : decode cX11_in 9 = .ok (.lcmp, 1) := by decide +kernel
theorem dX11_in_10 : decode cX11_in 10 = .ok (.ifCond .gt 7, 3) := by decide +kernel
theorem dX11_in_13 : decode cX11_in 13 = .ok (.iconst 1, 1) := by decide +kernel
theorem dX11_in_14 : decode cX11_in 14 = .ok (.goto 4, 3) := by decide +kernel
theorem dX11_in_17 : decode cX11_in 17 = .ok (.iconst 0, 1) := by decide +kernel
theorem dX11_in_18 : decode cX11_in 18 = .ok (.ireturn, 1) := by decide +kernel
set_option maxRecDepth 100000 in
set_option maxHeartbeats 4000000 in
theorem M_X11_in (G : zG) (l : Launch) {a0 : Int64} {a2 : Int64} {a4 : Int64} {σ : zS} {r : Int32} (hJ : J_X11_in a0 a2 a4 σ = some r) : zMI G l yX11_in cX11_in 6 (some .boolean) (zrm 0 0) [.long a0, .long a2, .long a4] 137 (zen G σ) r 137 (zen G σ) := by
  unfold J_X11_in at hJ
  refine zentI (by decide +kernel) (Nat.le_of_ble_eq_true rfl) ?_
  intro p e s m args below meth c C hret
  refine zr_sub [0, 1, 2] [(0, .long a0), (2, .long a2), (4, .long a4)] rfl ?_
  refine zr_lload_n C 0 dX11_in_0 rfl ?_
  refine zr_lload_n C 1 dX11_in_1 rfl ?_
  refine zr_lcmp C dX11_in_2 ?_
  refine zr_if_lt C 17 dX11_in_3 (by decide) (fun hc1 => ?_) (fun hc1 => ?_)
  · have hJ := zif hc1 hJ
    refine zr_iconst C dX11_in_17 (v := (0 : Int32)) (by decide) ?_
    exact zr_zret C hret (zs_e hJ) rfl rfl rfl dX11_in_18
  · have hJ := zif' hc1 hJ
    refine zr_lload_n C 0 dX11_in_6 rfl ?_
    refine zr_lload C 2 dX11_in_7 rfl ?_
    refine zr_lcmp C dX11_in_9 ?_
    refine zr_if_gt C 17 dX11_in_10 (by decide) (fun hc2 => ?_) (fun hc2 => ?_)
    · have hJ := zif hc2 hJ
      refine zr_iconst C dX11_in_17 (v := (0 : Int32)) (by decide) ?_
      exact zr_zret C hret (zs_e hJ) rfl rfl rfl dX11_in_18
    · have hJ := zif' hc2 hJ
      refine zr_iconst C dX11_in_13 (v := (1 : Int32)) (by decide) ?_
      refine zr_goto C 18 dX11_in_14 (by decide) ?_
      exact zr_zret C hret (zs_e hJ) rfl rfl rfl dX11_in_18
theorem dX11_areEvents_0 : decode cX11_areEvents 0 = .ok (.iload_n 0, 1) := by decide +kernel
theorem dX11_areEvents_1 : decode cX11_areEvents 1 = .ok (.i2l, 1) := by decide +kernel
theorem dX11_areEvents_2 : decode cX11_areEvents 2 = .ok (.lconst 0, 1) := by decide +kernel
theorem dX11_areEvents_3 : decode cX11_areEvents 3 = .ok (.ldc2_w 122, 3) := by decide +kernel
theorem dX11_areEvents_6 : decode cX11_areEvents 6 = .ok (.invokestatic 124, 3) := by decide +kernel
theorem dX11_areEvents_9 : decode cX11_areEvents 9 = .ok (.ireturn, 1) := by decide +kernel
set_option maxRecDepth 100000 in
set_option maxHeartbeats 4000000 in
theorem M_X11_areEvents (G : zG) (l : Launch) {a0 : Int32} {σ : zS} {r : Int32} (hJ : J_X11_areEvents a0 σ = some r) : zMI G l yX11_areEvents cX11_areEvents 1 (some .boolean) (zrm 1 25) [.int a0] 137 (zen G σ) r 137 (zen G σ) := by
  unfold J_X11_areEvents at hJ
  refine zentI (by decide +kernel) (Nat.le_of_ble_eq_true rfl) ?_
  intro p e s m args below meth c C hret
  refine zr_sub [0] [(0, .int a0)] rfl ?_
  refine zr_iload_n C 0 dX11_areEvents_0 rfl ?_
  refine zr_i2l C dX11_areEvents_1 ?_
  refine zr_lconst C dX11_areEvents_2 (v := (0 : Int64)) (by decide) ?_
  refine zr_ldc2 C dX11_areEvents_3 zm_9_13 ?_
  obtain ⟨r1, hr1, hJ⟩ := zb_e hJ
  refine zr_callSI C (M_X11_in G l hr1) zin_X11_in zm_9_22 rfl rfl (Nat.le_of_ble_eq_true rfl) ⟨Nat.le_of_ble_eq_true rfl, Nat.le_of_ble_eq_true rfl⟩ ⟨Nat.le_of_ble_eq_true rfl, Nat.le_of_ble_eq_true rfl⟩ dX11_areEvents_6 ?_
  obtain ⟨hg2, hJ⟩ := zg_e hJ
  exact zr_zret C hret (zs_e hJ) (zbl_n hg2) rfl rfl dX11_areEvents_9
theorem dX11_size_0 : decode cX11_size 0 = .ok (.lload_n 0, 1) := by decide +kernel
theorem dX11_size_1 : decode cX11_size 1 = .ok (.lconst 0, 1) := by decide +kernel
theorem dX11_size_2 : decode cX11_size 2 = .ok (.lcmp, 1) := by decide +kernel
theorem dX11_size_3 : decode cX11_size 3 = .ok (.ifCond .ge 8, 3) := by decide +kernel
theorem dX11_size_6 : decode cX11_size 6 = .ok (.lload_n 0, 1) := by decide +kernel
theorem dX11_size_7 : decode cX11_size 7 = .ok (.lneg, 1) := by decide +kernel
theorem dX11_size_8 : decode cX11_size 8 = .ok (.goto 4, 3) := by decide +kernel
theorem dX11_size_11 : decode cX11_size 11 = .ok (.lload_n 0, 1) := by decide +kernel
theorem dX11_size_12 : decode cX11_size 12 = .ok (.lreturn, 1) := by decide +kernel
set_option maxRecDepth 100000 in
set_option maxHeartbeats 4000000 in
theorem M_X11_size (G : zG) (l : Launch) {a0 : Int64} {σ : zS} {r : Int64} (hJ : J_X11_size a0 σ = some r) : zML G l yX11_size cX11_size 2 (some .long) (zrm 0 0) [.long a0] 137 (zen G σ) r 137 (zen G σ) := by
  unfold J_X11_size at hJ
  refine zentL (by decide +kernel) (Nat.le_of_ble_eq_true rfl) ?_
  intro p e s m args below meth c C hret
  refine zr_sub [0] [(0, .long a0)] rfl ?_
  refine zr_lload_n C 0 dX11_size_0 rfl ?_
  refine zr_lconst C dX11_size_1 (v := (0 : Int64)) (by decide) ?_
  refine zr_lcmp C dX11_size_2 ?_
  refine zr_if_ge C 11 dX11_size_3 (by decide) (fun hc1 => ?_) (fun hc1 => ?_)
  · have hJ := zif hc1 hJ
    refine zr_lload_n C 0 dX11_size_11 rfl ?_
    exact zr_lret C hret (zs_e hJ) rfl rfl dX11_size_12
  · have hJ := zif' hc1 hJ
    refine zr_lload_n C 0 dX11_size_6 rfl ?_
    refine zr_lneg C dX11_size_7 ?_
    refine zr_goto C 12 dX11_size_8 (by decide) ?_
    exact zr_lret C hret (zs_e hJ) rfl rfl dX11_size_12
theorem dX11_common_0 : decode cX11_common 0 = .ok (.lload_n 0, 1) := by decide +kernel
theorem dX11_common_1 : decode cX11_common 1 = .ok (.lstore 4, 2) := by decide +kernel
theorem dX11_common_3 : decode cX11_common 3 = .ok (.lload_n 2, 1) := by decide +kernel
theorem dX11_common_4 : decode cX11_common 4 = .ok (.lstore 6, 2) := by decide +kernel
theorem dX11_common_6 : decode cX11_common 6 = .ok (.lload 6, 2) := by decide +kernel
theorem dX11_common_8 : decode cX11_common 8 = .ok (.lconst 0, 1) := by decide +kernel
theorem dX11_common_9 : decode cX11_common 9 = .ok (.lcmp, 1) := by decide +kernel
theorem dX11_common_10 : decode cX11_common 10 = .ok (.ifCond .eq 21, 3) := by decide +kernel
theorem dX11_common_13 : decode cX11_common 13 = .ok (.lload 4, 2) := by decide +kernel
theorem dX11_common_15 : decode cX11_common 15 = .ok (.lload 6, 2) := by decide +kernel
theorem dX11_common_17 : decode cX11_common 17 = .ok (.lrem, 1) := by decide +kernel
theorem dX11_common_18 : decode cX11_common 18 = .ok (.lstore 8, 2) := by decide +kernel
theorem dX11_common_20 : decode cX11_common 20 = .ok (.lload 6, 2) := by decide +kernel
theorem dX11_common_22 : decode cX11_common 22 = .ok (.lstore 4, 2) := by decide +kernel
theorem dX11_common_24 : decode cX11_common 24 = .ok (.lload 8, 2) := by decide +kernel
theorem dX11_common_26 : decode cX11_common 26 = .ok (.lstore 6, 2) := by decide +kernel
theorem dX11_common_28 : decode cX11_common 28 = .ok (.goto (-22), 3) := by decide +kernel
theorem dX11_common_31 : decode cX11_common 31 = .ok (.lload 4, 2) := by decide +kernel
theorem dX11_common_33 : decode cX11_common 33 = .ok (.invokestatic 111, 3) := by decide +kernel
theorem dX11_common_36 : decode cX11_common 36 = .ok (.lreturn, 1) := by decide +kernel
set_option maxRecDepth 100000 in
set_option maxHeartbeats 4000000 in
theorem M_X11_common (G : zG) (l : Launch) {a0 : Int64} {a2 : Int64} {σ : zS} {r : Int64} (hJ : J_X11_common a0 a2 σ = some r) : zML G l yX11_common cX11_common 10 (some .long) (zrm 1 21) [.long a0, .long a2] 137 (zen G σ) r 137 (zen G σ) := by
  unfold J_X11_common at hJ
  refine zentL (by decide +kernel) (Nat.le_of_ble_eq_true rfl) ?_
  intro p e s m args below meth c C hret
  refine zr_sub [0, 1] [(0, .long a0), (2, .long a2)] rfl ?_
  refine zr_lload_n C 0 dX11_common_0 rfl ?_
  refine zr_lstore C [(4, .long a0), (0, .long a0), (2, .long a2)] dX11_common_1 (by decide) rfl ?_
  refine zr_lload_n C 2 dX11_common_3 rfl ?_
  refine zr_lstore C [(6, .long a2), (4, .long a0), (0, .long a0), (2, .long a2)] dX11_common_4 (by decide) rfl ?_
  obtain ⟨k31, hk31, hJ⟩ := zlet_e hJ
  have hj31 : ∀ (w4_31 : Int64), k31 w4_31 = some r → zU G 10 p l e (zrm 1 21) s m args below meth c (MQ below (va_Ql (fun x (_ : Unit) => x = r) (fun _ t => zok G 137 (zen G σ) t) (zA G)) args s 0 0 (zA G)) σ 31 [(4, .long w4_31)] [] := by
    intro w4_31 hJ
    rw [hk31] at hJ
    unfold D_X11_common_31 at hJ
    refine zr_lload C 0 dX11_common_31 rfl ?_
    obtain ⟨r1, hr1, hJ⟩ := zb_e hJ
    refine zr_callSL C (M_X11_size G l hr1) zin_X11_size zm_24_6 rfl rfl (Nat.le_of_ble_eq_true rfl) ⟨Nat.le_of_ble_eq_true rfl, Nat.le_of_ble_eq_true rfl⟩ ⟨Nat.le_of_ble_eq_true rfl, Nat.le_of_ble_eq_true rfl⟩ dX11_common_33 ?_
    exact zr_lret C hret (zs_e hJ) rfl rfl dX11_common_36
  have hl6 : ∀ (n : Nat) (w4_6 : Int64) (w6_6 : Int64), L_X11_common_6 k31 n w4_6 w6_6 = some r → zU G 10 p l e (zrm 1 21) s m args below meth c (MQ below (va_Ql (fun x (_ : Unit) => x = r) (fun _ t => zok G 137 (zen G σ) t) (zA G)) args s 0 0 (zA G)) σ 6 [(4, .long w4_6), (6, .long w6_6)] [] := by
    intro n
    induction n with
    | zero =>
      intro w4_6 w6_6 hJ
      rw [L_X11_common_6] at hJ
      cases hJ
    | succ n ih =>
      intro w4_6 w6_6 hJ
      rw [L_X11_common_6] at hJ
      obtain ⟨r_6, hr_6, hJ⟩ := zlet_e hJ
      have ih6 : ∀ (w4_6 : Int64) (w6_6 : Int64), r_6 w4_6 w6_6 = some r → zU G 10 p l e (zrm 1 21) s m args below meth c (MQ below (va_Ql (fun x (_ : Unit) => x = r) (fun _ t => zok G 137 (zen G σ) t) (zA G)) args s 0 0 (zA G)) σ 6 [(4, .long w4_6), (6, .long w6_6)] [] := by
        rw [hr_6]
        exact ih
      refine zr_lload C 1 dX11_common_6 rfl ?_
      refine zr_lconst C dX11_common_8 (v := (0 : Int64)) (by decide) ?_
      refine zr_lcmp C dX11_common_9 ?_
      refine zr_if_eq C 31 dX11_common_10 (by decide) (fun hc2 => ?_) (fun hc2 => ?_)
      · have hJ := zif hc2 hJ
        refine zr_sub [0] [(4, .long w4_6)] rfl ?_
        exact hj31 _ hJ
      · have hJ := zif' hc2 hJ
        refine zr_lload C 0 dX11_common_13 rfl ?_
        refine zr_lload C 1 dX11_common_15 rfl ?_
        obtain ⟨hn3, hJ⟩ := znl_e hJ
        refine zr_lrem C dX11_common_17 hn3 ?_
        obtain ⟨v4, hv4, hJ⟩ := zlet_e hJ
        refine zr_topl hv4 ?_
        refine zr_lstore C [(8, .long v4), (4, .long w4_6), (6, .long w6_6)] dX11_common_18 (by decide) rfl ?_
        refine zr_lload C 2 dX11_common_20 rfl ?_
        refine zr_lstore C [(4, .long w6_6), (8, .long v4), (6, .long w6_6)] dX11_common_22 (by decide) rfl ?_
        refine zr_lload C 1 dX11_common_24 rfl ?_
        refine zr_lstore C [(6, .long v4), (4, .long w6_6), (8, .long v4)] dX11_common_26 (by decide) rfl ?_
        refine zr_goto C 6 dX11_common_28 (by decide) ?_
        refine zr_sub [1, 0] [(4, .long w6_6), (6, .long v4)] rfl ?_
        exact ih6 _ _ hJ
  refine zr_sub [1, 0] [(4, .long a0), (6, .long a2)] rfl ?_
  exact hl6 _ _ _ hJ
theorem dX11_isEvent_0 : decode cX11_isEvent 0 = .ok (.iload_n 0, 1) := by decide +kernel
theorem dX11_isEvent_1 : decode cX11_isEvent 1 = .ok (.i2l, 1) := by decide +kernel
theorem dX11_isEvent_2 : decode cX11_isEvent 2 = .ok (.lconst 0, 1) := by decide +kernel
theorem dX11_isEvent_3 : decode cX11_isEvent 3 = .ok (.ldc2_w 169, 3) := by decide +kernel
theorem dX11_isEvent_6 : decode cX11_isEvent 6 = .ok (.invokestatic 124, 3) := by decide +kernel
theorem dX11_isEvent_9 : decode cX11_isEvent 9 = .ok (.ireturn, 1) := by decide +kernel
set_option maxRecDepth 100000 in
set_option maxHeartbeats 4000000 in
theorem M_X11_isEvent (G : zG) (l : Launch) {a0 : Int32} {σ : zS} {r : Int32} (hJ : J_X11_isEvent a0 σ = some r) : zMI G l yX11_isEvent cX11_isEvent 1 (some .boolean) (zrm 1 25) [.int a0] 137 (zen G σ) r 137 (zen G σ) := by
  unfold J_X11_isEvent at hJ
  refine zentI (by decide +kernel) (Nat.le_of_ble_eq_true rfl) ?_
  intro p e s m args below meth c C hret
  refine zr_sub [0] [(0, .int a0)] rfl ?_
  refine zr_iload_n C 0 dX11_isEvent_0 rfl ?_
  refine zr_i2l C dX11_isEvent_1 ?_
  refine zr_lconst C dX11_isEvent_2 (v := (0 : Int64)) (by decide) ?_
  refine zr_ldc2 C dX11_isEvent_3 zm_18_17 ?_
  obtain ⟨r1, hr1, hJ⟩ := zb_e hJ
  refine zr_callSI C (M_X11_in G l hr1) zin_X11_in zm_9_22 rfl rfl (Nat.le_of_ble_eq_true rfl) ⟨Nat.le_of_ble_eq_true rfl, Nat.le_of_ble_eq_true rfl⟩ ⟨Nat.le_of_ble_eq_true rfl, Nat.le_of_ble_eq_true rfl⟩ dX11_isEvent_6 ?_
  obtain ⟨hg2, hJ⟩ := zg_e hJ
  exact zr_zret C hret (zs_e hJ) (zbl_n hg2) rfl rfl dX11_isEvent_9
theorem dX11_isSampling_0 : decode cX11_isSampling 0 = .ok (.iload_n 0, 1) := by decide +kernel
theorem dX11_isSampling_1 : decode cX11_isSampling 1 = .ok (.invokestatic 260, 3) := by decide +kernel
theorem dX11_isSampling_4 : decode cX11_isSampling 4 = .ok (.ifCond .eq 44, 3) := by decide +kernel
theorem dX11_isSampling_7 : decode cX11_isSampling 7 = .ok (.iload_n 1, 1) := by decide +kernel
theorem dX11_isSampling_8 : decode cX11_isSampling 8 = .ok (.i2l, 1) := by decide +kernel
theorem dX11_isSampling_9 : decode cX11_isSampling 9 = .ok (.lconst 1, 1) := by decide +kernel
theorem dX11_isSampling_10 : decode cX11_isSampling 10 = .ok (.ldc2_w 331, 3) := by decide +kernel
theorem dX11_isSampling_13 : decode cX11_isSampling 13 = .ok (.invokestatic 124, 3) := by decide +kernel
theorem dX11_isSampling_16 : decode cX11_isSampling 16 = .ok (.ifCond .eq 32, 3) := by decide +kernel
theorem dX11_isSampling_19 : decode cX11_isSampling 19 = .ok (.iload_n 2, 1) := by decide +kernel
theorem dX11_isSampling_20 : decode cX11_isSampling 20 = .ok (.i2l, 1) := by decide +kernel
theorem dX11_isSampling_21 : decode cX11_isSampling 21 = .ok (.lconst 0, 1) := by decide +kernel
theorem dX11_isSampling_22 : decode cX11_isSampling 22 = .ok (.iload_n 1, 1) := by decide +kernel
theorem dX11_isSampling_23 : decode cX11_isSampling 23 = .ok (.iconst 1, 1) := by decide +kernel
theorem dX11_isSampling_24 : decode cX11_isSampling 24 = .ok (.isub, 1) := by decide +kernel
theorem dX11_isSampling_25 : decode cX11_isSampling 25 = .ok (.i2l, 1) := by decide +kernel
theorem dX11_isSampling_26 : decode cX11_isSampling 26 = .ok (.invokestatic 124, 3) := by decide +kernel
theorem dX11_isSampling_29 : decode cX11_isSampling 29 = .ok (.ifCond .eq 19, 3) := by decide +kernel
theorem dX11_isSampling_32 : decode cX11_isSampling 32 = .ok (.iload_n 3, 1) := by decide +kernel
theorem dX11_isSampling_33 : decode cX11_isSampling 33 = .ok (.i2l, 1) := by decide +kernel
theorem dX11_isSampling_34 : decode cX11_isSampling 34 = .ok (.lconst 0, 1) := by decide +kernel
theorem dX11_isSampling_35 : decode cX11_isSampling 35 = .ok (.ldc2_w 333, 3) := by decide +kernel
theorem dX11_isSampling_38 : decode cX11_isSampling 38 = .ok (.invokestatic 124, 3) := by decide +kernel
theorem dX11_isSampling_41 : decode cX11_isSampling 41 = .ok (.ifCond .eq 7, 3) := by decide +kernel
theorem dX11_isSampling_44 : decode cX11_isSampling 44 = .ok (.iconst 1, 1) := by decide +kernel
theorem dX11_isSampling_45 : decode cX11_isSampling 45 = .ok (.goto 4, 3) := by decide +kernel
theorem dX11_isSampling_48 : decode cX11_isSampling 48 = .ok (.iconst 0, 1) := by decide +kernel
theorem dX11_isSampling_49 : decode cX11_isSampling 49 = .ok (.ireturn, 1) := by decide +kernel
set_option maxRecDepth 100000 in
set_option maxHeartbeats 4000000 in
theorem M_X11_isSampling (G : zG) (l : Launch) {a0 : Int32} {a1 : Int32} {a2 : Int32} {a3 : Int32} {σ : zS} {r : Int32} (hJ : J_X11_isSampling a0 a1 a2 a3 σ = some r) : zMI G l yX11_isSampling cX11_isSampling 4 (some .boolean) (zrm 2 45) [.int a0, .int a1, .int a2, .int a3] 137 (zen G σ) r 137 (zen G σ) := by
  unfold J_X11_isSampling at hJ
  refine zentI (by decide +kernel) (Nat.le_of_ble_eq_true rfl) ?_
  intro p e s m args below meth c C hret
  refine zr_sub [0, 1, 2, 3] [(0, .int a0), (1, .int a1), (2, .int a2), (3, .int a3)] rfl ?_
  refine zr_iload_n C 0 dX11_isSampling_0 rfl ?_
  obtain ⟨r1, hr1, hJ⟩ := zb_e hJ
  refine zr_callSI C (M_X11_isEvent G l hr1) zin_X11_isEvent zm_24_0 rfl rfl (Nat.le_of_ble_eq_true rfl) ⟨Nat.le_of_ble_eq_true rfl, Nat.le_of_ble_eq_true rfl⟩ ⟨Nat.le_of_ble_eq_true rfl, Nat.le_of_ble_eq_true rfl⟩ dX11_isSampling_1 ?_
  refine zr_if_eq C 48 dX11_isSampling_4 (by decide) (fun hc2 => ?_) (fun hc2 => ?_)
  · have hJ := zif hc2 hJ
    refine zr_iconst C dX11_isSampling_48 (v := (0 : Int32)) (by decide) ?_
    exact zr_zret C hret (zs_e hJ) rfl rfl rfl dX11_isSampling_49
  · have hJ := zif' hc2 hJ
    refine zr_iload_n C 1 dX11_isSampling_7 rfl ?_
    refine zr_i2l C dX11_isSampling_8 ?_
    refine zr_lconst C dX11_isSampling_9 (v := (1 : Int64)) (by decide) ?_
    refine zr_ldc2 C dX11_isSampling_10 zm_38_10 ?_
    obtain ⟨r3, hr3, hJ⟩ := zb_e hJ
    refine zr_callSI C (M_X11_in G l hr3) zin_X11_in zm_9_22 rfl rfl (Nat.le_of_ble_eq_true rfl) ⟨Nat.le_of_ble_eq_true rfl, Nat.le_of_ble_eq_true rfl⟩ ⟨Nat.le_of_ble_eq_true rfl, Nat.le_of_ble_eq_true rfl⟩ dX11_isSampling_13 ?_
    refine zr_if_eq C 48 dX11_isSampling_16 (by decide) (fun hc4 => ?_) (fun hc4 => ?_)
    · have hJ := zif hc4 hJ
      refine zr_iconst C dX11_isSampling_48 (v := (0 : Int32)) (by decide) ?_
      exact zr_zret C hret (zs_e hJ) rfl rfl rfl dX11_isSampling_49
    · have hJ := zif' hc4 hJ
      refine zr_iload_n C 2 dX11_isSampling_19 rfl ?_
      refine zr_i2l C dX11_isSampling_20 ?_
      refine zr_lconst C dX11_isSampling_21 (v := (0 : Int64)) (by decide) ?_
      refine zr_iload_n C 1 dX11_isSampling_22 rfl ?_
      refine zr_iconst C dX11_isSampling_23 (v := (1 : Int32)) (by decide) ?_
      refine zr_isub C dX11_isSampling_24 ?_
      refine zr_i2l C dX11_isSampling_25 ?_
      obtain ⟨r5, hr5, hJ⟩ := zb_e hJ
      refine zr_callSI C (M_X11_in G l hr5) zin_X11_in zm_9_22 rfl rfl (Nat.le_of_ble_eq_true rfl) ⟨Nat.le_of_ble_eq_true rfl, Nat.le_of_ble_eq_true rfl⟩ ⟨Nat.le_of_ble_eq_true rfl, Nat.le_of_ble_eq_true rfl⟩ dX11_isSampling_26 ?_
      refine zr_if_eq C 48 dX11_isSampling_29 (by decide) (fun hc6 => ?_) (fun hc6 => ?_)
      · have hJ := zif hc6 hJ
        refine zr_iconst C dX11_isSampling_48 (v := (0 : Int32)) (by decide) ?_
        exact zr_zret C hret (zs_e hJ) rfl rfl rfl dX11_isSampling_49
      · have hJ := zif' hc6 hJ
        refine zr_iload_n C 3 dX11_isSampling_32 rfl ?_
        refine zr_i2l C dX11_isSampling_33 ?_
        refine zr_lconst C dX11_isSampling_34 (v := (0 : Int64)) (by decide) ?_
        refine zr_ldc2 C dX11_isSampling_35 zm_38_11 ?_
        obtain ⟨r7, hr7, hJ⟩ := zb_e hJ
        refine zr_callSI C (M_X11_in G l hr7) zin_X11_in zm_9_22 rfl rfl (Nat.le_of_ble_eq_true rfl) ⟨Nat.le_of_ble_eq_true rfl, Nat.le_of_ble_eq_true rfl⟩ ⟨Nat.le_of_ble_eq_true rfl, Nat.le_of_ble_eq_true rfl⟩ dX11_isSampling_38 ?_
        refine zr_if_eq C 48 dX11_isSampling_41 (by decide) (fun hc8 => ?_) (fun hc8 => ?_)
        · have hJ := zif hc8 hJ
          refine zr_iconst C dX11_isSampling_48 (v := (0 : Int32)) (by decide) ?_
          exact zr_zret C hret (zs_e hJ) rfl rfl rfl dX11_isSampling_49
        · have hJ := zif' hc8 hJ
          refine zr_iconst C dX11_isSampling_44 (v := (1 : Int32)) (by decide) ?_
          refine zr_goto C 49 dX11_isSampling_45 (by decide) ?_
          exact zr_zret C hret (zs_e hJ) rfl rfl rfl dX11_isSampling_49
theorem dX11_made_0 : decode cX11_made 0 = .ok (.aload_n 0, 1) := by decide +kernel
theorem dX11_made_1 : decode cX11_made 1 = .ok (.getfield 13, 3) := by decide +kernel
theorem dX11_made_4 : decode cX11_made 4 = .ok (.bipush 8, 2) := by decide +kernel
theorem dX11_made_6 : decode cX11_made 6 = .ok (.iload_n 1, 1) := by decide +kernel
theorem dX11_made_7 : decode cX11_made 7 = .ok (.imul, 1) := by decide +kernel
theorem dX11_made_8 : decode cX11_made 8 = .ok (.iload_n 2, 1) := by decide +kernel
theorem dX11_made_9 : decode cX11_made 9 = .ok (.iadd, 1) := by decide +kernel
theorem dX11_made_10 : decode cX11_made 10 = .ok (.iaload, 1) := by decide +kernel
theorem dX11_made_11 : decode cX11_made 11 = .ok (.ireturn, 1) := by decide +kernel
set_option maxRecDepth 100000 in
set_option maxHeartbeats 4000000 in
theorem M_X11_made (G : zG) (l : Launch) {a1 : Int32} {a2 : Int32} {σ : zS} {r : Int32} (hJ : J_X11_made a1 a2 σ = some r) : zMI G l yX11_made cX11_made 3 (some .int) (zrm 0 0) [.ref (G.1 + 105), .int a1, .int a2] 137 (zen G σ) r 137 (zen G σ) := by
  unfold J_X11_made at hJ
  refine zentI (by decide +kernel) (Nat.le_of_ble_eq_true rfl) ?_
  intro p e s m args below meth c C hret
  refine zr_sub [0, 1, 2] [(0, .ref (G.1 + 105)), (1, .int a1), (2, .int a2)] rfl ?_
  refine zr_aload_n C 0 dX11_made_0 rfl ?_
  refine zg_11_2 C 105 zk_105 zm_7_12 dX11_made_1 ?_
  refine zr_bipush C dX11_made_4 (v := (8 : Int32)) (by decide) ?_
  refine zr_iload_n C 1 dX11_made_6 rfl ?_
  refine zr_imul C dX11_made_7 ?_
  refine zr_iload_n C 2 dX11_made_8 rfl ?_
  refine zr_iadd C dX11_made_9 ?_
  obtain ⟨hg1, hJ⟩ := zg_e hJ
  refine zu_iald C 107 zk_107 hg1 dX11_made_10 ?_
  exact zr_iret C hret (zs_e hJ) rfl rfl dX11_made_11
theorem dX11_total_0 : decode cX11_total 0 = .ok (.iconst 0, 1) := by decide +kernel
theorem dX11_total_1 : decode cX11_total 1 = .ok (.istore_n 2, 1) := by decide +kernel
theorem dX11_total_2 : decode cX11_total 2 = .ok (.iconst 0, 1) := by decide +kernel
theorem dX11_total_3 : decode cX11_total 3 = .ok (.istore_n 3, 1) := by decide +kernel
theorem dX11_total_4 : decode cX11_total 4 = .ok (.iload_n 3, 1) := by decide +kernel
theorem dX11_total_5 : decode cX11_total 5 = .ok (.aload_n 0, 1) := by decide +kernel
theorem dX11_total_6 : decode cX11_total 6 = .ok (.getfield 203, 3) := by decide +kernel
theorem dX11_total_9 : decode cX11_total 9 = .ok (.if_icmp .ge 25, 3) := by decide +kernel
theorem dX11_total_12 : decode cX11_total 12 = .ok (.iload_n 2, 1) := by decide +kernel
theorem dX11_total_13 : decode cX11_total 13 = .ok (.aload_n 0, 1) := by decide +kernel
theorem dX11_total_14 : decode cX11_total 14 = .ok (.getfield 28, 3) := by decide +kernel
theorem dX11_total_17 : decode cX11_total 17 = .ok (.iload_n 3, 1) := by decide +kernel
theorem dX11_total_18 : decode cX11_total 18 = .ok (.iaload, 1) := by decide +kernel
theorem dX11_total_19 : decode cX11_total 19 = .ok (.aload_n 0, 1) := by decide +kernel
theorem dX11_total_20 : decode cX11_total 20 = .ok (.iload_n 3, 1) := by decide +kernel
theorem dX11_total_21 : decode cX11_total 21 = .ok (.iload_n 1, 1) := by decide +kernel
theorem dX11_total_22 : decode cX11_total 22 = .ok (.invokevirtual 251, 3) := by decide +kernel
theorem dX11_total_25 : decode cX11_total 25 = .ok (.imul, 1) := by decide +kernel
theorem dX11_total_26 : decode cX11_total 26 = .ok (.iadd, 1) := by decide +kernel
theorem dX11_total_27 : decode cX11_total 27 = .ok (.istore_n 2, 1) := by decide +kernel
theorem dX11_total_28 : decode cX11_total 28 = .ok (.iinc 3 1, 3) := by decide +kernel
theorem dX11_total_31 : decode cX11_total 31 = .ok (.goto (-27), 3) := by decide +kernel
theorem dX11_total_34 : decode cX11_total 34 = .ok (.iload_n 2, 1) := by decide +kernel
theorem dX11_total_35 : decode cX11_total 35 = .ok (.ireturn, 1) := by decide +kernel
set_option maxRecDepth 100000 in
set_option maxHeartbeats 4000000 in
theorem M_X11_total (G : zG) (l : Launch) {a1 : Int32} {σ : zS} {r : Int32} (hJ : J_X11_total a1 σ = some r) : zMI G l yX11_total cX11_total 4 (some .int) (zrm 1 22) [.ref (G.1 + 105), .int a1] 137 (zen G σ) r 137 (zen G σ) := by
  unfold J_X11_total at hJ
  refine zentI (by decide +kernel) (Nat.le_of_ble_eq_true rfl) ?_
  intro p e s m args below meth c C hret
  refine zr_sub [0, 1] [(0, .ref (G.1 + 105)), (1, .int a1)] rfl ?_
  refine zr_iconst C dX11_total_0 (v := (0 : Int32)) (by decide) ?_
  refine zr_istore_n C [(2, .int (0 : Int32)), (0, .ref (G.1 + 105)), (1, .int a1)] dX11_total_1 (by decide) rfl ?_
  refine zr_iconst C dX11_total_2 (v := (0 : Int32)) (by decide) ?_
  refine zr_istore_n C [(3, .int (0 : Int32)), (2, .int (0 : Int32)), (0, .ref (G.1 + 105)), (1, .int a1)] dX11_total_3 (by decide) rfl ?_
  have hl4 : ∀ (n : Nat) (w2_4 : Int32) (w3_4 : Int32), L_X11_total_4 a1 σ n w2_4 w3_4 = some r → zU G 4 p l e (zrm 1 22) s m args below meth c (MQ below (va_Qi (fun x (_ : Unit) => x = r) (fun _ t => zok G 137 (zen G σ) t) (zA G)) args s 0 0 (zA G)) σ 4 [(0, .ref (G.1 + 105)), (1, .int a1), (2, .int w2_4), (3, .int w3_4)] [] := by
    intro n
    induction n with
    | zero =>
      intro w2_4 w3_4 hJ
      rw [L_X11_total_4] at hJ
      cases hJ
    | succ n ih =>
      intro w2_4 w3_4 hJ
      rw [L_X11_total_4] at hJ
      obtain ⟨r_4, hr_4, hJ⟩ := zlet_e hJ
      have ih4 : ∀ (w2_4 : Int32) (w3_4 : Int32), r_4 w2_4 w3_4 = some r → zU G 4 p l e (zrm 1 22) s m args below meth c (MQ below (va_Qi (fun x (_ : Unit) => x = r) (fun _ t => zok G 137 (zen G σ) t) (zA G)) args s 0 0 (zA G)) σ 4 [(0, .ref (G.1 + 105)), (1, .int a1), (2, .int w2_4), (3, .int w3_4)] [] := by
        rw [hr_4]
        exact ih
      refine zr_iload_n C 3 dX11_total_4 rfl ?_
      refine zr_aload_n C 0 dX11_total_5 rfl ?_
      refine zg_11_0 C 105 zk_105 zm_16_22 dX11_total_6 ?_
      refine zr_icmp_ge C 34 dX11_total_9 (by decide) (fun hc1 => ?_) (fun hc1 => ?_)
      · have hJ := zif hc1 hJ
        refine zr_iload_n C 2 dX11_total_34 rfl ?_
        exact zr_iret C hret (zs_e hJ) rfl rfl dX11_total_35
      · have hJ := zif' hc1 hJ
        refine zr_iload_n C 2 dX11_total_12 rfl ?_
        refine zr_aload_n C 0 dX11_total_13 rfl ?_
        refine zg_11_9 C 105 zk_105 zm_7_17 dX11_total_14 ?_
        refine zr_iload_n C 3 dX11_total_17 rfl ?_
        obtain ⟨hg2, hJ⟩ := zg_e hJ
        refine zu_iald C 112 zk_112 hg2 dX11_total_18 ?_
        refine zr_aload_n C 0 dX11_total_19 rfl ?_
        refine zr_iload_n C 3 dX11_total_20 rfl ?_
        refine zr_iload_n C 1 dX11_total_21 rfl ?_
        obtain ⟨r3, hr3, hJ⟩ := zb_e hJ
        refine zr_callVI C 105 (zk_lt zk_105 (by decide)) (zen_obj zk_105) (rfl : zcl[11]? = some (RX11, TX11, 56)) (M_X11_made G l hr3) zin_X11_made zm_21_9 rfl rfl (Nat.le_of_ble_eq_true rfl) ⟨Nat.le_of_ble_eq_true rfl, Nat.le_of_ble_eq_true rfl⟩ ⟨Nat.le_of_ble_eq_true rfl, Nat.le_of_ble_eq_true rfl⟩ dX11_total_22 ?_
        refine zr_imul C dX11_total_25 ?_
        refine zr_iadd C dX11_total_26 ?_
        obtain ⟨v4, hv4, hJ⟩ := zlet_e hJ
        refine zr_topi hv4 ?_
        refine zr_istore_n C [(2, .int v4), (0, .ref (G.1 + 105)), (1, .int a1), (3, .int w3_4)] dX11_total_27 (by decide) rfl ?_
        obtain ⟨v5, hv5, hJ⟩ := zlet_e hJ
        refine zr_iinc C v5 3 [(3, .int v5), (2, .int v4), (0, .ref (G.1 + 105)), (1, .int a1)] dX11_total_28 rfl (hv5.trans (zinc (by decide))) (by decide) rfl ?_
        refine zr_goto C 4 dX11_total_31 (by decide) ?_
        refine zr_sub [2, 3, 1, 0] [(0, .ref (G.1 + 105)), (1, .int a1), (2, .int v4), (3, .int v5)] rfl ?_
        exact ih4 _ _ hJ
  refine zr_sub [2, 3, 1, 0] [(0, .ref (G.1 + 105)), (1, .int a1), (2, .int (0 : Int32)), (3, .int (0 : Int32))] rfl ?_
  exact hl4 _ _ _ hJ
theorem dX11_beats_0 : decode cX11_beats 0 = .ok (.iload_n 1, 1) := by decide +kernel
theorem dX11_beats_1 : decode cX11_beats 1 = .ok (.iload_n 2, 1) := by decide +kernel
theorem dX11_beats_2 : decode cX11_beats 2 = .ok (.iload_n 3, 1) := by decide +kernel
theorem dX11_beats_3 : decode cX11_beats 3 = .ok (.iconst 0, 1) := by decide +kernel
theorem dX11_beats_4 : decode cX11_beats 4 = .ok (.invokestatic 335, 3) := by decide +kernel
theorem dX11_beats_7 : decode cX11_beats 7 = .ok (.ifCond .eq 16, 3) := by decide +kernel
theorem dX11_beats_10 : decode cX11_beats 10 = .ok (.iload 4, 2) := by decide +kernel
theorem dX11_beats_12 : decode cX11_beats 12 = .ok (.i2l, 1) := by decide +kernel
theorem dX11_beats_13 : decode cX11_beats 13 = .ok (.lconst 0, 1) := by decide +kernel
theorem dX11_beats_14 : decode cX11_beats 14 = .ok (.ldc2_w 282, 3) := by decide +kernel
theorem dX11_beats_17 : decode cX11_beats 17 = .ok (.invokestatic 124, 3) := by decide +kernel
theorem dX11_beats_20 : decode cX11_beats 20 = .ok (.ifCond .ne 5, 3) := by decide +kernel
theorem dX11_beats_23 : decode cX11_beats 23 = .ok (.iconst (-1), 1) := by decide +kernel
theorem dX11_beats_24 : decode cX11_beats 24 = .ok (.ireturn, 1) := by decide +kernel
theorem dX11_beats_25 : decode cX11_beats 25 = .ok (.aload_n 0, 1) := by decide +kernel
theorem dX11_beats_26 : decode cX11_beats 26 = .ok (.iload_n 1, 1) := by decide +kernel
theorem dX11_beats_27 : decode cX11_beats 27 = .ok (.invokevirtual 257, 3) := by decide +kernel
theorem dX11_beats_30 : decode cX11_beats 30 = .ok (.istore 5, 2) := by decide +kernel
theorem dX11_beats_32 : decode cX11_beats 32 = .ok (.iload 5, 2) := by decide +kernel
theorem dX11_beats_34 : decode cX11_beats 34 = .ok (.ifCond .ne 5, 3) := by decide +kernel
theorem dX11_beats_37 : decode cX11_beats 37 = .ok (.iconst 0, 1) := by decide +kernel
theorem dX11_beats_38 : decode cX11_beats 38 = .ok (.ireturn, 1) := by decide +kernel
theorem dX11_beats_39 : decode cX11_beats 39 = .ok (.iload_n 2, 1) := by decide +kernel
theorem dX11_beats_40 : decode cX11_beats 40 = .ok (.i2l, 1) := by decide +kernel
theorem dX11_beats_41 : decode cX11_beats 41 = .ok (.iload 5, 2) := by decide +kernel
theorem dX11_beats_43 : decode cX11_beats 43 = .ok (.i2l, 1) := by decide +kernel
theorem dX11_beats_44 : decode cX11_beats 44 = .ok (.invokestatic 115, 3) := by decide +kernel
theorem dX11_beats_47 : decode cX11_beats 47 = .ok (.l2i, 1) := by decide +kernel
theorem dX11_beats_48 : decode cX11_beats 48 = .ok (.istore 6, 2) := by decide +kernel
theorem dX11_beats_50 : decode cX11_beats 50 = .ok (.iconst 0, 1) := by decide +kernel
theorem dX11_beats_51 : decode cX11_beats 51 = .ok (.istore 7, 2) := by decide +kernel
theorem dX11_beats_53 : decode cX11_beats 53 = .ok (.iconst 0, 1) := by decide +kernel
theorem dX11_beats_54 : decode cX11_beats 54 = .ok (.istore 8, 2) := by decide +kernel
theorem dX11_beats_56 : decode cX11_beats 56 = .ok (.iload_n 3, 1) := by decide +kernel
theorem dX11_beats_57 : decode cX11_beats 57 = .ok (.istore 9, 2) := by decide +kernel
theorem dX11_beats_59 : decode cX11_beats 59 = .ok (.iconst 0, 1) := by decide +kernel
theorem dX11_beats_60 : decode cX11_beats 60 = .ok (.istore 10, 2) := by decide +kernel
theorem dX11_beats_62 : decode cX11_beats 62 = .ok (.iload 10, 2) := by decide +kernel
theorem dX11_beats_64 : decode cX11_beats 64 = .ok (.aload_n 0, 1) := by decide +kernel
theorem dX11_beats_65 : decode cX11_beats 65 = .ok (.getfield 225, 3) := by decide +kernel
theorem dX11_beats_68 : decode cX11_beats 68 = .ok (.if_icmp .ge 94, 3) := by decide +kernel
theorem dX11_beats_71 : decode cX11_beats 71 = .ok (.aload_n 0, 1) := by decide +kernel
theorem dX11_beats_72 : decode cX11_beats 72 = .ok (.getfield 25, 3) := by decide +kernel
theorem dX11_beats_75 : decode cX11_beats 75 = .ok (.iload 10, 2) := by decide +kernel
theorem dX11_beats_77 : decode cX11_beats 77 = .ok (.iaload, 1) := by decide +kernel
theorem dX11_beats_78 : decode cX11_beats 78 = .ok (.istore 11, 2) := by decide +kernel
theorem dX11_beats_80 : decode cX11_beats 80 = .ok (.iload 8, 2) := by decide +kernel
theorem dX11_beats_82 : decode cX11_beats 82 = .ok (.aload_n 0, 1) := by decide +kernel
theorem dX11_beats_83 : decode cX11_beats 83 = .ok (.iload 11, 2) := by decide +kernel
theorem dX11_beats_85 : decode cX11_beats 85 = .ok (.iload_n 1, 1) := by decide +kernel
theorem dX11_beats_86 : decode cX11_beats 86 = .ok (.invokevirtual 251, 3) := by decide +kernel
theorem dX11_beats_89 : decode cX11_beats 89 = .ok (.ifCond .le 10, 3) := by decide +kernel
theorem dX11_beats_92 : decode cX11_beats 92 = .ok (.iconst 1, 1) := by decide +kernel
theorem dX11_beats_93 : decode cX11_beats 93 = .ok (.iload 11, 2) := by decide +kernel
theorem dX11_beats_95 : decode cX11_beats 95 = .ok (.ishl, 1) := by decide +kernel
theorem dX11_beats_96 : decode cX11_beats 96 = .ok (.goto 4, 3) := by decide +kernel
theorem dX11_beats_99 : decode cX11_beats 99 = .ok (.iconst 0, 1) := by decide +kernel
theorem dX11_beats_100 : decode cX11_beats 100 = .ok (.ior, 1) := by decide +kernel
theorem dX11_beats_101 : decode cX11_beats 101 = .ok (.istore 8, 2) := by decide +kernel
theorem dX11_beats_103 : decode cX11_beats 103 = .ok (.iload 7, 2) := by decide +kernel
theorem dX11_beats_105 : decode cX11_beats 105 = .ok (.aload_n 0, 1) := by decide +kernel
theorem dX11_beats_106 : decode cX11_beats 106 = .ok (.iload 11, 2) := by decide +kernel
theorem dX11_beats_108 : decode cX11_beats 108 = .ok (.iload_n 1, 1) := by decide +kernel
theorem dX11_beats_109 : decode cX11_beats 109 = .ok (.invokevirtual 251, 3) := by decide +kernel
theorem dX11_beats_112 : decode cX11_beats 112 = .ok (.ifCond .le 28, 3) := by decide +kernel
theorem dX11_beats_115 : decode cX11_beats 115 = .ok (.aload_n 0, 1) := by decide +kernel
theorem dX11_beats_116 : decode cX11_beats 116 = .ok (.iload 11, 2) := by decide +kernel
theorem dX11_beats_118 : decode cX11_beats 118 = .ok (.iload_n 1, 1) := by decide +kernel
theorem dX11_beats_119 : decode cX11_beats 119 = .ok (.invokevirtual 251, 3) := by decide +kernel
theorem dX11_beats_122 : decode cX11_beats 122 = .ok (.iload 6, 2) := by decide +kernel
theorem dX11_beats_124 : decode cX11_beats 124 = .ok (.iload 9, 2) := by decide +kernel
theorem dX11_beats_126 : decode cX11_beats 126 = .ok (.iload 6, 2) := by decide +kernel
theorem dX11_beats_128 : decode cX11_beats 128 = .ok (.irem, 1) := by decide +kernel
theorem dX11_beats_129 : decode cX11_beats 129 = .ok (.isub, 1) := by decide +kernel
theorem dX11_beats_130 : decode cX11_beats 130 = .ok (.if_icmp .lt 10, 3) := by decide +kernel
theorem dX11_beats_133 : decode cX11_beats 133 = .ok (.iconst 1, 1) := by decide +kernel
theorem dX11_beats_134 : decode cX11_beats 134 = .ok (.iload 11, 2) := by decide +kernel
theorem dX11_beats_136 : decode cX11_beats 136 = .ok (.ishl, 1) := by decide +kernel
theorem dX11_beats_137 : decode cX11_beats 137 = .ok (.goto 4, 3) := by decide +kernel
theorem dX11_beats_140 : decode cX11_beats 140 = .ok (.iconst 0, 1) := by decide +kernel
theorem dX11_beats_141 : decode cX11_beats 141 = .ok (.ior, 1) := by decide +kernel
theorem dX11_beats_142 : decode cX11_beats 142 = .ok (.istore 7, 2) := by decide +kernel
theorem dX11_beats_144 : decode cX11_beats 144 = .ok (.iload 9, 2) := by decide +kernel
theorem dX11_beats_146 : decode cX11_beats 146 = .ok (.aload_n 0, 1) := by decide +kernel
theorem dX11_beats_147 : decode cX11_beats 147 = .ok (.iload 11, 2) := by decide +kernel
theorem dX11_beats_149 : decode cX11_beats 149 = .ok (.iload_n 1, 1) := by decide +kernel
theorem dX11_beats_150 : decode cX11_beats 150 = .ok (.invokevirtual 251, 3) := by decide +kernel
theorem dX11_beats_153 : decode cX11_beats 153 = .ok (.iadd, 1) := by decide +kernel
theorem dX11_beats_154 : decode cX11_beats 154 = .ok (.istore 9, 2) := by decide +kernel
theorem dX11_beats_156 : decode cX11_beats 156 = .ok (.iinc 10 1, 3) := by decide +kernel
theorem dX11_beats_159 : decode cX11_beats 159 = .ok (.goto (-97), 3) := by decide +kernel
theorem dX11_beats_162 : decode cX11_beats 162 = .ok (.iload 4, 2) := by decide +kernel
theorem dX11_beats_164 : decode cX11_beats 164 = .ok (.ifCond .ne 8, 3) := by decide +kernel
theorem dX11_beats_167 : decode cX11_beats 167 = .ok (.iload 7, 2) := by decide +kernel
theorem dX11_beats_169 : decode cX11_beats 169 = .ok (.goto 23, 3) := by decide +kernel
theorem dX11_beats_172 : decode cX11_beats 172 = .ok (.iload 4, 2) := by decide +kernel
theorem dX11_beats_174 : decode cX11_beats 174 = .ok (.iconst 1, 1) := by decide +kernel
theorem dX11_beats_175 : decode cX11_beats 175 = .ok (.if_icmp .ne 13, 3) := by decide +kernel
theorem dX11_beats_178 : decode cX11_beats 178 = .ok (.iload 8, 2) := by decide +kernel
theorem dX11_beats_180 : decode cX11_beats 180 = .ok (.iload 7, 2) := by decide +kernel
theorem dX11_beats_182 : decode cX11_beats 182 = .ok (.iconst (-1), 1) := by decide +kernel
theorem dX11_beats_183 : decode cX11_beats 183 = .ok (.ixor, 1) := by decide +kernel
theorem dX11_beats_184 : decode cX11_beats 184 = .ok (.iand, 1) := by decide +kernel
theorem dX11_beats_185 : decode cX11_beats 185 = .ok (.goto 7, 3) := by decide +kernel
theorem dX11_beats_188 : decode cX11_beats 188 = .ok (.iload_n 2, 1) := by decide +kernel
theorem dX11_beats_189 : decode cX11_beats 189 = .ok (.iload 6, 2) := by decide +kernel
theorem dX11_beats_191 : decode cX11_beats 191 = .ok (.idiv, 1) := by decide +kernel
theorem dX11_beats_192 : decode cX11_beats 192 = .ok (.ireturn, 1) := by decide +kernel
set_option maxRecDepth 100000 in
set_option maxHeartbeats 4000000 in
theorem M_X11_beats (G : zG) (l : Launch) {a1 : Int32} {a2 : Int32} {a3 : Int32} {a4 : Int32} {σ : zS} {r : Int32} (hJ : J_X11_beats a1 a2 a3 a4 σ = some r) : zMI G l yX11_beats cX11_beats 12 (some .int) (zrm 3 68) [.ref (G.1 + 105), .int a1, .int a2, .int a3, .int a4] 137 (zen G σ) r 137 (zen G σ) := by
  unfold J_X11_beats at hJ
  refine zentI (by decide +kernel) (Nat.le_of_ble_eq_true rfl) ?_
  intro p e s m args below meth c C hret
  refine zr_sub [0, 1, 2, 3, 4] [(0, .ref (G.1 + 105)), (1, .int a1), (2, .int a2), (3, .int a3), (4, .int a4)] rfl ?_
  refine zr_iload_n C 1 dX11_beats_0 rfl ?_
  refine zr_iload_n C 2 dX11_beats_1 rfl ?_
  refine zr_iload_n C 3 dX11_beats_2 rfl ?_
  refine zr_iconst C dX11_beats_3 (v := (0 : Int32)) (by decide) ?_
  obtain ⟨r1, hr1, hJ⟩ := zb_e hJ
  refine zr_callSI C (M_X11_isSampling G l hr1) zin_X11_isSampling zm_38_7 rfl rfl (Nat.le_of_ble_eq_true rfl) ⟨Nat.le_of_ble_eq_true rfl, Nat.le_of_ble_eq_true rfl⟩ ⟨Nat.le_of_ble_eq_true rfl, Nat.le_of_ble_eq_true rfl⟩ dX11_beats_4 ?_
  refine zr_if_eq C 23 dX11_beats_7 (by decide) (fun hc2 => ?_) (fun hc2 => ?_)
  · have hJ := zif hc2 hJ
    refine zr_iconst C dX11_beats_23 (v := (-1 : Int32)) (by decide) ?_
    exact zr_iret C hret (zs_e hJ) rfl rfl dX11_beats_24
  · have hJ := zif' hc2 hJ
    refine zr_iload C 4 dX11_beats_10 rfl ?_
    refine zr_i2l C dX11_beats_12 ?_
    refine zr_lconst C dX11_beats_13 (v := (0 : Int64)) (by decide) ?_
    refine zr_ldc2 C dX11_beats_14 zm_30_16 ?_
    obtain ⟨r3, hr3, hJ⟩ := zb_e hJ
    refine zr_callSI C (M_X11_in G l hr3) zin_X11_in zm_9_22 rfl rfl (Nat.le_of_ble_eq_true rfl) ⟨Nat.le_of_ble_eq_true rfl, Nat.le_of_ble_eq_true rfl⟩ ⟨Nat.le_of_ble_eq_true rfl, Nat.le_of_ble_eq_true rfl⟩ dX11_beats_17 ?_
    refine zr_if_ne C 25 dX11_beats_20 (by decide) (fun hc4 => ?_) (fun hc4 => ?_)
    · have hJ := zif' hc4 hJ
      refine zr_aload_n C 0 dX11_beats_25 rfl ?_
      refine zr_iload_n C 1 dX11_beats_26 rfl ?_
      obtain ⟨r5, hr5, hJ⟩ := zb_e hJ
      refine zr_callVI C 105 (zk_lt zk_105 (by decide)) (zen_obj zk_105) (rfl : zcl[11]? = some (RX11, TX11, 56)) (M_X11_total G l hr5) zin_X11_total zm_22_23 rfl rfl (Nat.le_of_ble_eq_true rfl) ⟨Nat.le_of_ble_eq_true rfl, Nat.le_of_ble_eq_true rfl⟩ ⟨Nat.le_of_ble_eq_true rfl, Nat.le_of_ble_eq_true rfl⟩ dX11_beats_27 ?_
      refine zr_istore C [(5, .int r5), (0, .ref (G.1 + 105)), (1, .int a1), (2, .int a2), (3, .int a3), (4, .int a4)] dX11_beats_30 (by decide) rfl ?_
      refine zr_iload C 0 dX11_beats_32 rfl ?_
      refine zr_if_ne C 39 dX11_beats_34 (by decide) (fun hc6 => ?_) (fun hc6 => ?_)
      · have hJ := zif' hc6 hJ
        refine zr_iload_n C 3 dX11_beats_39 rfl ?_
        refine zr_i2l C dX11_beats_40 ?_
        refine zr_iload C 0 dX11_beats_41 rfl ?_
        refine zr_i2l C dX11_beats_43 ?_
        obtain ⟨r7, hr7, hJ⟩ := zb_e hJ
        refine zr_callSL C (M_X11_common G l hr7) zin_X11_common zm_24_9 rfl rfl (Nat.le_of_ble_eq_true rfl) ⟨Nat.le_of_ble_eq_true rfl, Nat.le_of_ble_eq_true rfl⟩ ⟨Nat.le_of_ble_eq_true rfl, Nat.le_of_ble_eq_true rfl⟩ dX11_beats_44 ?_
        refine zr_l2i C dX11_beats_47 ?_
        obtain ⟨v8, hv8, hJ⟩ := zlet_e hJ
        refine zr_topi hv8 ?_
        refine zr_istore C [(6, .int v8), (5, .int r5), (0, .ref (G.1 + 105)), (1, .int a1), (2, .int a2), (3, .int a3), (4, .int a4)] dX11_beats_48 (by decide) rfl ?_
        refine zr_iconst C dX11_beats_50 (v := (0 : Int32)) (by decide) ?_
        refine zr_istore C [(7, .int (0 : Int32)), (6, .int v8), (5, .int r5), (0, .ref (G.1 + 105)), (1, .int a1), (2, .int a2), (3, .int a3), (4, .int a4)] dX11_beats_51 (by decide) rfl ?_
        refine zr_iconst C dX11_beats_53 (v := (0 : Int32)) (by decide) ?_
        refine zr_istore C [(8, .int (0 : Int32)), (7, .int (0 : Int32)), (6, .int v8), (5, .int r5), (0, .ref (G.1 + 105)), (1, .int a1), (2, .int a2), (3, .int a3), (4, .int a4)] dX11_beats_54 (by decide) rfl ?_
        refine zr_iload_n C 7 dX11_beats_56 rfl ?_
        refine zr_istore C [(9, .int a3), (8, .int (0 : Int32)), (7, .int (0 : Int32)), (6, .int v8), (5, .int r5), (0, .ref (G.1 + 105)), (1, .int a1), (2, .int a2), (3, .int a3), (4, .int a4)] dX11_beats_57 (by decide) rfl ?_
        refine zr_iconst C dX11_beats_59 (v := (0 : Int32)) (by decide) ?_
        refine zr_istore C [(10, .int (0 : Int32)), (9, .int a3), (8, .int (0 : Int32)), (7, .int (0 : Int32)), (6, .int v8), (5, .int r5), (0, .ref (G.1 + 105)), (1, .int a1), (2, .int a2), (3, .int a3), (4, .int a4)] dX11_beats_60 (by decide) rfl ?_
        obtain ⟨k162, hk162, hJ⟩ := zlet_e hJ
        have hj162 : ∀ (w7_162 : Int32) (w8_162 : Int32), k162 w7_162 w8_162 = some r → zU G 12 p l e (zrm 3 68) s m args below meth c (MQ below (va_Qi (fun x (_ : Unit) => x = r) (fun _ t => zok G 137 (zen G σ) t) (zA G)) args s 0 0 (zA G)) σ 162 [(2, .int a2), (4, .int a4), (6, .int v8), (7, .int w7_162), (8, .int w8_162)] [] := by
          intro w7_162 w8_162 hJ
          rw [hk162] at hJ
          unfold D_X11_beats_162 at hJ
          refine zr_iload C 1 dX11_beats_162 rfl ?_
          refine zr_if_ne C 172 dX11_beats_164 (by decide) (fun hc9 => ?_) (fun hc9 => ?_)
          · have hJ := zif' hc9 hJ
            refine zr_iload C 1 dX11_beats_172 rfl ?_
            refine zr_iconst C dX11_beats_174 (v := (1 : Int32)) (by decide) ?_
            refine zr_icmp_ne C 188 dX11_beats_175 (by decide) (fun hc10 => ?_) (fun hc10 => ?_)
            · have hJ := zif' hc10 hJ
              refine zr_iload_n C 0 dX11_beats_188 rfl ?_
              refine zr_iload C 2 dX11_beats_189 rfl ?_
              obtain ⟨hn11, hJ⟩ := zn_e hJ
              refine zr_idiv C dX11_beats_191 hn11 ?_
              exact zr_iret C hret (zs_e hJ) rfl rfl dX11_beats_192
            · have hJ := zif hc10 hJ
              refine zr_iload C 4 dX11_beats_178 rfl ?_
              refine zr_iload C 3 dX11_beats_180 rfl ?_
              refine zr_iconst C dX11_beats_182 (v := (-1 : Int32)) (by decide) ?_
              refine zr_ixor C dX11_beats_183 ?_
              refine zr_iand C dX11_beats_184 ?_
              refine zr_goto C 192 dX11_beats_185 (by decide) ?_
              exact zr_iret C hret (zs_e hJ) rfl rfl dX11_beats_192
          · have hJ := zif hc9 hJ
            refine zr_iload C 3 dX11_beats_167 rfl ?_
            refine zr_goto C 192 dX11_beats_169 (by decide) ?_
            exact zr_iret C hret (zs_e hJ) rfl rfl dX11_beats_192
        have hl62 : ∀ (n : Nat) (w7_62 : Int32) (w8_62 : Int32) (w9_62 : Int32) (w10_62 : Int32), L_X11_beats_62 a1 σ v8 k162 n w7_62 w8_62 w9_62 w10_62 = some r → zU G 12 p l e (zrm 3 68) s m args below meth c (MQ below (va_Qi (fun x (_ : Unit) => x = r) (fun _ t => zok G 137 (zen G σ) t) (zA G)) args s 0 0 (zA G)) σ 62 [(0, .ref (G.1 + 105)), (1, .int a1), (2, .int a2), (4, .int a4), (6, .int v8), (7, .int w7_62), (8, .int w8_62), (9, .int w9_62), (10, .int w10_62)] [] := by
          intro n
          induction n with
          | zero =>
            intro w7_62 w8_62 w9_62 w10_62 hJ
            rw [L_X11_beats_62] at hJ
            cases hJ
          | succ n ih =>
            intro w7_62 w8_62 w9_62 w10_62 hJ
            rw [L_X11_beats_62] at hJ
            obtain ⟨r_62, hr_62, hJ⟩ := zlet_e hJ
            have ih62 : ∀ (w7_62 : Int32) (w8_62 : Int32) (w9_62 : Int32) (w10_62 : Int32), r_62 w7_62 w8_62 w9_62 w10_62 = some r → zU G 12 p l e (zrm 3 68) s m args below meth c (MQ below (va_Qi (fun x (_ : Unit) => x = r) (fun _ t => zok G 137 (zen G σ) t) (zA G)) args s 0 0 (zA G)) σ 62 [(0, .ref (G.1 + 105)), (1, .int a1), (2, .int a2), (4, .int a4), (6, .int v8), (7, .int w7_62), (8, .int w8_62), (9, .int w9_62), (10, .int w10_62)] [] := by
              rw [hr_62]
              exact ih
            refine zr_iload C 8 dX11_beats_62 rfl ?_
            refine zr_aload_n C 0 dX11_beats_64 rfl ?_
            refine zg_11_7 C 105 zk_105 zm_19_18 dX11_beats_65 ?_
            refine zr_icmp_ge C 162 dX11_beats_68 (by decide) (fun hc12 => ?_) (fun hc12 => ?_)
            · have hJ := zif hc12 hJ
              refine zr_sub [2, 3, 4, 5, 6] [(2, .int a2), (4, .int a4), (6, .int v8), (7, .int w7_62), (8, .int w8_62)] rfl ?_
              exact hj162 _ _ hJ
            · have hJ := zif' hc12 hJ
              refine zr_aload_n C 0 dX11_beats_71 rfl ?_
              refine zg_11_8 C 105 zk_105 zm_7_16 dX11_beats_72 ?_
              refine zr_iload C 8 dX11_beats_75 rfl ?_
              obtain ⟨hg13, hJ⟩ := zg_e hJ
              refine zu_iald C 111 zk_111 hg13 dX11_beats_77 ?_
              obtain ⟨v14, hv14, hJ⟩ := zlet_e hJ
              refine zr_topi hv14 ?_
              refine zr_istore C [(11, .int v14), (0, .ref (G.1 + 105)), (1, .int a1), (2, .int a2), (4, .int a4), (6, .int v8), (7, .int w7_62), (8, .int w8_62), (9, .int w9_62), (10, .int w10_62)] dX11_beats_78 (by decide) rfl ?_
              refine zr_iload C 7 dX11_beats_80 rfl ?_
              refine zr_aload_n C 1 dX11_beats_82 rfl ?_
              refine zr_iload C 0 dX11_beats_83 rfl ?_
              refine zr_iload_n C 2 dX11_beats_85 rfl ?_
              obtain ⟨r15, hr15, hJ⟩ := zb_e hJ
              refine zr_callVI C 105 (zk_lt zk_105 (by decide)) (zen_obj zk_105) (rfl : zcl[11]? = some (RX11, TX11, 56)) (M_X11_made G l hr15) zin_X11_made zm_21_9 rfl rfl (Nat.le_of_ble_eq_true rfl) ⟨Nat.le_of_ble_eq_true rfl, Nat.le_of_ble_eq_true rfl⟩ ⟨Nat.le_of_ble_eq_true rfl, Nat.le_of_ble_eq_true rfl⟩ dX11_beats_86 ?_
              obtain ⟨v16, hv16, hJ⟩ := zlet_e hJ
              have hf27 : zU G 12 p l e (zrm 3 68) s m args below meth c (MQ below (va_Qi (fun x (_ : Unit) => x = r) (fun _ t => zok G 137 (zen G σ) t) (zA G)) args s 0 0 (zA G)) σ 100 [(0, .ref (G.1 + 105)), (1, .int a1), (2, .int a2), (4, .int a4), (6, .int v8), (7, .int w7_62), (9, .int w9_62), (10, .int w10_62), (11, .int v14)] [.int v16, .int w8_62] := by
                refine zr_ior C dX11_beats_100 ?_
                obtain ⟨v17, hv17, hJ⟩ := zlet_e hJ
                refine zr_topi hv17 ?_
                refine zr_istore C [(8, .int v17), (0, .ref (G.1 + 105)), (1, .int a1), (2, .int a2), (4, .int a4), (6, .int v8), (7, .int w7_62), (9, .int w9_62), (10, .int w10_62), (11, .int v14)] dX11_beats_101 (by decide) rfl ?_
                refine zr_iload C 6 dX11_beats_103 rfl ?_
                refine zr_aload_n C 1 dX11_beats_105 rfl ?_
                refine zr_iload C 9 dX11_beats_106 rfl ?_
                refine zr_iload_n C 2 dX11_beats_108 rfl ?_
                obtain ⟨r18, hr18, hJ⟩ := zb_e hJ
                refine zr_callVI C 105 (zk_lt zk_105 (by decide)) (zen_obj zk_105) (rfl : zcl[11]? = some (RX11, TX11, 56)) (M_X11_made G l hr18) zin_X11_made zm_21_9 rfl rfl (Nat.le_of_ble_eq_true rfl) ⟨Nat.le_of_ble_eq_true rfl, Nat.le_of_ble_eq_true rfl⟩ ⟨Nat.le_of_ble_eq_true rfl, Nat.le_of_ble_eq_true rfl⟩ dX11_beats_109 ?_
                obtain ⟨k141, hk141, hJ⟩ := zlet_e hJ
                have hj141 : ∀ (x0_141 : Int32), k141 x0_141 = some r → zU G 12 p l e (zrm 3 68) s m args below meth c (MQ below (va_Qi (fun x (_ : Unit) => x = r) (fun _ t => zok G 137 (zen G σ) t) (zA G)) args s 0 0 (zA G)) σ 141 [(0, .ref (G.1 + 105)), (1, .int a1), (2, .int a2), (4, .int a4), (6, .int v8), (8, .int v17), (9, .int w9_62), (10, .int w10_62), (11, .int v14)] [.int x0_141, .int w7_62] := by
                  intro x0_141 hJ
                  rw [hk141] at hJ
                  unfold D_X11_beats_141 at hJ
                  refine zr_ior C dX11_beats_141 ?_
                  obtain ⟨v19, hv19, hJ⟩ := zlet_e hJ
                  refine zr_topi hv19 ?_
                  refine zr_istore C [(7, .int v19), (0, .ref (G.1 + 105)), (1, .int a1), (2, .int a2), (4, .int a4), (6, .int v8), (8, .int v17), (9, .int w9_62), (10, .int w10_62), (11, .int v14)] dX11_beats_142 (by decide) rfl ?_
                  refine zr_iload C 7 dX11_beats_144 rfl ?_
                  refine zr_aload_n C 1 dX11_beats_146 rfl ?_
                  refine zr_iload C 9 dX11_beats_147 rfl ?_
                  refine zr_iload_n C 2 dX11_beats_149 rfl ?_
                  obtain ⟨r20, hr20, hJ⟩ := zb_e hJ
                  refine zr_callVI C 105 (zk_lt zk_105 (by decide)) (zen_obj zk_105) (rfl : zcl[11]? = some (RX11, TX11, 56)) (M_X11_made G l hr20) zin_X11_made zm_21_9 rfl rfl (Nat.le_of_ble_eq_true rfl) ⟨Nat.le_of_ble_eq_true rfl, Nat.le_of_ble_eq_true rfl⟩ ⟨Nat.le_of_ble_eq_true rfl, Nat.le_of_ble_eq_true rfl⟩ dX11_beats_150 ?_
                  refine zr_iadd C dX11_beats_153 ?_
                  obtain ⟨v21, hv21, hJ⟩ := zlet_e hJ
                  refine zr_topi hv21 ?_
                  refine zr_istore C [(9, .int v21), (7, .int v19), (0, .ref (G.1 + 105)), (1, .int a1), (2, .int a2), (4, .int a4), (6, .int v8), (8, .int v17), (10, .int w10_62), (11, .int v14)] dX11_beats_154 (by decide) rfl ?_
                  obtain ⟨v22, hv22, hJ⟩ := zlet_e hJ
                  refine zr_iinc C v22 8 [(10, .int v22), (9, .int v21), (7, .int v19), (0, .ref (G.1 + 105)), (1, .int a1), (2, .int a2), (4, .int a4), (6, .int v8), (8, .int v17), (11, .int v14)] dX11_beats_156 rfl (hv22.trans (zinc (by decide))) (by decide) rfl ?_
                  refine zr_goto C 62 dX11_beats_159 (by decide) ?_
                  refine zr_sub [3, 4, 5, 6, 7, 2, 8, 1, 0] [(0, .ref (G.1 + 105)), (1, .int a1), (2, .int a2), (4, .int a4), (6, .int v8), (7, .int v19), (8, .int v17), (9, .int v21), (10, .int v22)] rfl ?_
                  exact ih62 _ _ _ _ hJ
                refine zr_if_le C 140 dX11_beats_112 (by decide) (fun hc23 => ?_) (fun hc23 => ?_)
                · have hJ := zif hc23 hJ
                  refine zr_iconst C dX11_beats_140 (v := (0 : Int32)) (by decide) ?_
                  refine zr_sub [1, 2, 3, 4, 5, 0, 7, 8, 9] [(0, .ref (G.1 + 105)), (1, .int a1), (2, .int a2), (4, .int a4), (6, .int v8), (8, .int v17), (9, .int w9_62), (10, .int w10_62), (11, .int v14)] rfl ?_
                  exact hj141 _ hJ
                · have hJ := zif' hc23 hJ
                  refine zr_aload_n C 1 dX11_beats_115 rfl ?_
                  refine zr_iload C 9 dX11_beats_116 rfl ?_
                  refine zr_iload_n C 2 dX11_beats_118 rfl ?_
                  obtain ⟨r24, hr24, hJ⟩ := zb_e hJ
                  refine zr_callVI C 105 (zk_lt zk_105 (by decide)) (zen_obj zk_105) (rfl : zcl[11]? = some (RX11, TX11, 56)) (M_X11_made G l hr24) zin_X11_made zm_21_9 rfl rfl (Nat.le_of_ble_eq_true rfl) ⟨Nat.le_of_ble_eq_true rfl, Nat.le_of_ble_eq_true rfl⟩ ⟨Nat.le_of_ble_eq_true rfl, Nat.le_of_ble_eq_true rfl⟩ dX11_beats_119 ?_
                  refine zr_iload C 5 dX11_beats_122 rfl ?_
                  refine zr_iload C 7 dX11_beats_124 rfl ?_
                  refine zr_iload C 5 dX11_beats_126 rfl ?_
                  obtain ⟨hn25, hJ⟩ := zn_e hJ
                  refine zr_irem C dX11_beats_128 hn25 ?_
                  refine zr_isub C dX11_beats_129 ?_
                  refine zr_icmp_lt C 140 dX11_beats_130 (by decide) (fun hc26 => ?_) (fun hc26 => ?_)
                  · have hJ := zif hc26 hJ
                    refine zr_iconst C dX11_beats_140 (v := (0 : Int32)) (by decide) ?_
                    refine zr_sub [1, 2, 3, 4, 5, 0, 7, 8, 9] [(0, .ref (G.1 + 105)), (1, .int a1), (2, .int a2), (4, .int a4), (6, .int v8), (8, .int v17), (9, .int w9_62), (10, .int w10_62), (11, .int v14)] rfl ?_
                    exact hj141 _ hJ
                  · have hJ := zif' hc26 hJ
                    refine zr_iconst C dX11_beats_133 (v := (1 : Int32)) (by decide) ?_
                    refine zr_iload C 9 dX11_beats_134 rfl ?_
                    refine zr_ishl C dX11_beats_136 ?_
                    refine zr_goto C 141 dX11_beats_137 (by decide) ?_
                    refine zr_sub [1, 2, 3, 4, 5, 0, 7, 8, 9] [(0, .ref (G.1 + 105)), (1, .int a1), (2, .int a2), (4, .int a4), (6, .int v8), (8, .int v17), (9, .int w9_62), (10, .int w10_62), (11, .int v14)] rfl ?_
                    exact hj141 _ hJ
              refine zr_if_le C 99 dX11_beats_89 (by decide) (fun hc28 => ?_) (fun hc28 => ?_)
              · have hv16 := hv16.trans (if_pos hc28)
                refine zr_iconst C dX11_beats_99 (v := (0 : Int32)) (by decide) ?_
                refine zr_sub [1, 2, 3, 4, 5, 6, 8, 9, 0] [(0, .ref (G.1 + 105)), (1, .int a1), (2, .int a2), (4, .int a4), (6, .int v8), (7, .int w7_62), (9, .int w9_62), (10, .int w10_62), (11, .int v14)] rfl ?_
                rw [hv16] at hf27
                exact hf27
              · have hv16 := hv16.trans (if_neg hc28)
                refine zr_iconst C dX11_beats_92 (v := (1 : Int32)) (by decide) ?_
                refine zr_iload C 0 dX11_beats_93 rfl ?_
                refine zr_ishl C dX11_beats_95 ?_
                refine zr_goto C 100 dX11_beats_96 (by decide) ?_
                refine zr_sub [1, 2, 3, 4, 5, 6, 8, 9, 0] [(0, .ref (G.1 + 105)), (1, .int a1), (2, .int a2), (4, .int a4), (6, .int v8), (7, .int w7_62), (9, .int w9_62), (10, .int w10_62), (11, .int v14)] rfl ?_
                rw [hv16] at hf27
                exact hf27
        refine zr_sub [6, 7, 8, 10, 4, 3, 2, 1, 0] [(0, .ref (G.1 + 105)), (1, .int a1), (2, .int a2), (4, .int a4), (6, .int v8), (7, .int (0 : Int32)), (8, .int (0 : Int32)), (9, .int a3), (10, .int (0 : Int32))] rfl ?_
        exact hl62 _ _ _ _ _ hJ
      · have hJ := zif hc6 hJ
        refine zr_iconst C dX11_beats_37 (v := (0 : Int32)) (by decide) ?_
        exact zr_iret C hret (zs_e hJ) rfl rfl dX11_beats_38
    · have hJ := zif hc4 hJ
      refine zr_iconst C dX11_beats_23 (v := (-1 : Int32)) (by decide) ?_
      exact zr_iret C hret (zs_e hJ) rfl rfl dX11_beats_24
theorem dX11_beside_0 : decode cX11_beside 0 = .ok (.iload_n 1, 1) := by decide +kernel
theorem dX11_beside_1 : decode cX11_beside 1 = .ok (.invokestatic 260, 3) := by decide +kernel
theorem dX11_beside_4 : decode cX11_beside 4 = .ok (.ifCond .eq 15, 3) := by decide +kernel
theorem dX11_beside_7 : decode cX11_beside 7 = .ok (.iload_n 2, 1) := by decide +kernel
theorem dX11_beside_8 : decode cX11_beside 8 = .ok (.i2l, 1) := by decide +kernel
theorem dX11_beside_9 : decode cX11_beside 9 = .ok (.lconst 0, 1) := by decide +kernel
theorem dX11_beside_10 : decode cX11_beside 10 = .ok (.ldc2_w 267, 3) := by decide +kernel
theorem dX11_beside_13 : decode cX11_beside 13 = .ok (.invokestatic 124, 3) := by decide +kernel
theorem dX11_beside_16 : decode cX11_beside 16 = .ok (.ifCond .ne 5, 3) := by decide +kernel
theorem dX11_beside_19 : decode cX11_beside 19 = .ok (.iconst (-1), 1) := by decide +kernel
theorem dX11_beside_20 : decode cX11_beside 20 = .ok (.ireturn, 1) := by decide +kernel
theorem dX11_beside_21 : decode cX11_beside 21 = .ok (.iconst 0, 1) := by decide +kernel
theorem dX11_beside_22 : decode cX11_beside 22 = .ok (.istore_n 3, 1) := by decide +kernel
theorem dX11_beside_23 : decode cX11_beside 23 = .ok (.iconst 0, 1) := by decide +kernel
theorem dX11_beside_24 : decode cX11_beside 24 = .ok (.istore 4, 2) := by decide +kernel
theorem dX11_beside_26 : decode cX11_beside 26 = .ok (.iconst 0, 1) := by decide +kernel
theorem dX11_beside_27 : decode cX11_beside 27 = .ok (.istore 5, 2) := by decide +kernel
theorem dX11_beside_29 : decode cX11_beside 29 = .ok (.bipush (-4), 2) := by decide +kernel
theorem dX11_beside_31 : decode cX11_beside 31 = .ok (.istore 6, 2) := by decide +kernel
theorem dX11_beside_33 : decode cX11_beside 33 = .ok (.iconst 0, 1) := by decide +kernel
theorem dX11_beside_34 : decode cX11_beside 34 = .ok (.istore 7, 2) := by decide +kernel
theorem dX11_beside_36 : decode cX11_beside 36 = .ok (.iconst 0, 1) := by decide +kernel
theorem dX11_beside_37 : decode cX11_beside 37 = .ok (.istore 8, 2) := by decide +kernel
theorem dX11_beside_39 : decode cX11_beside 39 = .ok (.iload 8, 2) := by decide +kernel
theorem dX11_beside_41 : decode cX11_beside 41 = .ok (.bipush 16, 2) := by decide +kernel
theorem dX11_beside_43 : decode cX11_beside 43 = .ok (.if_icmp .ge 152, 3) := by decide +kernel
theorem dX11_beside_46 : decode cX11_beside 46 = .ok (.iload 8, 2) := by decide +kernel
theorem dX11_beside_48 : decode cX11_beside 48 = .ok (.aload_n 0, 1) := by decide +kernel
theorem dX11_beside_49 : decode cX11_beside 49 = .ok (.getfield 203, 3) := by decide +kernel
theorem dX11_beside_52 : decode cX11_beside 52 = .ok (.if_icmp .ge 21, 3) := by decide +kernel
theorem dX11_beside_55 : decode cX11_beside 55 = .ok (.aload_n 0, 1) := by decide +kernel
theorem dX11_beside_56 : decode cX11_beside 56 = .ok (.getfield 28, 3) := by decide +kernel
theorem dX11_beside_59 : decode cX11_beside 59 = .ok (.iload 8, 2) := by decide +kernel
theorem dX11_beside_61 : decode cX11_beside 61 = .ok (.iaload, 1) := by decide +kernel
theorem dX11_beside_62 : decode cX11_beside 62 = .ok (.aload_n 0, 1) := by decide +kernel
theorem dX11_beside_63 : decode cX11_beside 63 = .ok (.iload 8, 2) := by decide +kernel
theorem dX11_beside_65 : decode cX11_beside 65 = .ok (.iload_n 1, 1) := by decide +kernel
theorem dX11_beside_66 : decode cX11_beside 66 = .ok (.invokevirtual 251, 3) := by decide +kernel
theorem dX11_beside_69 : decode cX11_beside 69 = .ok (.imul, 1) := by decide +kernel
theorem dX11_beside_70 : decode cX11_beside 70 = .ok (.goto 4, 3) := by decide +kernel
theorem dX11_beside_73 : decode cX11_beside 73 = .ok (.iconst 0, 1) := by decide +kernel
theorem dX11_beside_74 : decode cX11_beside 74 = .ok (.aload_n 0, 1) := by decide +kernel
theorem dX11_beside_75 : decode cX11_beside 75 = .ok (.getfield 64, 3) := by decide +kernel
theorem dX11_beside_78 : decode cX11_beside 78 = .ok (.bipush 8, 2) := by decide +kernel
theorem dX11_beside_80 : decode cX11_beside 80 = .ok (.iload 8, 2) := by decide +kernel
theorem dX11_beside_82 : decode cX11_beside 82 = .ok (.imul, 1) := by decide +kernel
theorem dX11_beside_83 : decode cX11_beside 83 = .ok (.iload_n 1, 1) := by decide +kernel
theorem dX11_beside_84 : decode cX11_beside 84 = .ok (.iadd, 1) := by decide +kernel
theorem dX11_beside_85 : decode cX11_beside 85 = .ok (.iaload, 1) := by decide +kernel
theorem dX11_beside_86 : decode cX11_beside 86 = .ok (.isub, 1) := by decide +kernel
theorem dX11_beside_87 : decode cX11_beside 87 = .ok (.istore 9, 2) := by decide +kernel
theorem dX11_beside_89 : decode cX11_beside 89 = .ok (.iload_n 3, 1) := by decide +kernel
theorem dX11_beside_90 : decode cX11_beside 90 = .ok (.aload_n 0, 1) := by decide +kernel
theorem dX11_beside_91 : decode cX11_beside 91 = .ok (.getfield 64, 3) := by decide +kernel
theorem dX11_beside_94 : decode cX11_beside 94 = .ok (.bipush 8, 2) := by decide +kernel
theorem dX11_beside_96 : decode cX11_beside 96 = .ok (.iload 8, 2) := by decide +kernel
theorem dX11_beside_98 : decode cX11_beside 98 = .ok (.imul, 1) := by decide +kernel
theorem dX11_beside_99 : decode cX11_beside 99 = .ok (.iload_n 1, 1) := by decide +kernel
theorem dX11_beside_100 : decode cX11_beside 100 = .ok (.iadd, 1) := by decide +kernel
theorem dX11_beside_101 : decode cX11_beside 101 = .ok (.iaload, 1) := by decide +kernel
theorem dX11_beside_102 : decode cX11_beside 102 = .ok (.iadd, 1) := by decide +kernel
theorem dX11_beside_103 : decode cX11_beside 103 = .ok (.istore_n 3, 1) := by decide +kernel
theorem dX11_beside_104 : decode cX11_beside 104 = .ok (.iload 4, 2) := by decide +kernel
theorem dX11_beside_106 : decode cX11_beside 106 = .ok (.iload 9, 2) := by decide +kernel
theorem dX11_beside_108 : decode cX11_beside 108 = .ok (.ifCond .le 10, 3) := by decide +kernel
theorem dX11_beside_111 : decode cX11_beside 111 = .ok (.iconst 1, 1) := by decide +kernel
theorem dX11_beside_112 : decode cX11_beside 112 = .ok (.iload 8, 2) := by decide +kernel
theorem dX11_beside_114 : decode cX11_beside 114 = .ok (.ishl, 1) := by decide +kernel
theorem dX11_beside_115 : decode cX11_beside 115 = .ok (.goto 4, 3) := by decide +kernel
theorem dX11_beside_118 : decode cX11_beside 118 = .ok (.iconst 0, 1) := by decide +kernel
theorem dX11_beside_119 : decode cX11_beside 119 = .ok (.ior, 1) := by decide +kernel
theorem dX11_beside_120 : decode cX11_beside 120 = .ok (.istore 4, 2) := by decide +kernel
theorem dX11_beside_122 : decode cX11_beside 122 = .ok (.iload 5, 2) := by decide +kernel
theorem dX11_beside_124 : decode cX11_beside 124 = .ok (.iload 9, 2) := by decide +kernel
theorem dX11_beside_126 : decode cX11_beside 126 = .ok (.ifCond .ge 10, 3) := by decide +kernel
theorem dX11_beside_129 : decode cX11_beside 129 = .ok (.iconst 1, 1) := by decide +kernel
theorem dX11_beside_130 : decode cX11_beside 130 = .ok (.iload 8, 2) := by decide +kernel
theorem dX11_beside_132 : decode cX11_beside 132 = .ok (.ishl, 1) := by decide +kernel
theorem dX11_beside_133 : decode cX11_beside 133 = .ok (.goto 4, 3) := by decide +kernel
theorem dX11_beside_136 : decode cX11_beside 136 = .ok (.iconst 0, 1) := by decide +kernel
theorem dX11_beside_137 : decode cX11_beside 137 = .ok (.ior, 1) := by decide +kernel
theorem dX11_beside_138 : decode cX11_beside 138 = .ok (.istore 5, 2) := by decide +kernel
theorem dX11_beside_140 : decode cX11_beside 140 = .ok (.iload 9, 2) := by decide +kernel
theorem dX11_beside_142 : decode cX11_beside 142 = .ok (.i2l, 1) := by decide +kernel
theorem dX11_beside_143 : decode cX11_beside 143 = .ok (.invokestatic 111, 3) := by decide +kernel
theorem dX11_beside_146 : decode cX11_beside 146 = .ok (.iload 7, 2) := by decide +kernel
theorem dX11_beside_148 : decode cX11_beside 148 = .ok (.i2l, 1) := by decide +kernel
theorem dX11_beside_149 : decode cX11_beside 149 = .ok (.lcmp, 1) := by decide +kernel
theorem dX11_beside_150 : decode cX11_beside 150 = .ok (.ifCond .le 8, 3) := by decide +kernel
theorem dX11_beside_153 : decode cX11_beside 153 = .ok (.iload 8, 2) := by decide +kernel
theorem dX11_beside_155 : decode cX11_beside 155 = .ok (.goto 5, 3) := by decide +kernel
theorem dX11_beside_158 : decode cX11_beside 158 = .ok (.iload 6, 2) := by decide +kernel
theorem dX11_beside_160 : decode cX11_beside 160 = .ok (.istore 6, 2) := by decide +kernel
theorem dX11_beside_162 : decode cX11_beside 162 = .ok (.iload 9, 2) := by decide +kernel
theorem dX11_beside_164 : decode cX11_beside 164 = .ok (.i2l, 1) := by decide +kernel
theorem dX11_beside_165 : decode cX11_beside 165 = .ok (.invokestatic 111, 3) := by decide +kernel
theorem dX11_beside_168 : decode cX11_beside 168 = .ok (.iload 7, 2) := by decide +kernel
theorem dX11_beside_170 : decode cX11_beside 170 = .ok (.i2l, 1) := by decide +kernel
theorem dX11_beside_171 : decode cX11_beside 171 = .ok (.lcmp, 1) := by decide +kernel
theorem dX11_beside_172 : decode cX11_beside 172 = .ok (.ifCond .le 13, 3) := by decide +kernel
theorem dX11_beside_175 : decode cX11_beside 175 = .ok (.iload 9, 2) := by decide +kernel
theorem dX11_beside_177 : decode cX11_beside 177 = .ok (.i2l, 1) := by decide +kernel
theorem dX11_beside_178 : decode cX11_beside 178 = .ok (.invokestatic 111, 3) := by decide +kernel
theorem dX11_beside_181 : decode cX11_beside 181 = .ok (.l2i, 1) := by decide +kernel
theorem dX11_beside_182 : decode cX11_beside 182 = .ok (.goto 5, 3) := by decide +kernel
theorem dX11_beside_185 : decode cX11_beside 185 = .ok (.iload 7, 2) := by decide +kernel
theorem dX11_beside_187 : decode cX11_beside 187 = .ok (.istore 7, 2) := by decide +kernel
theorem dX11_beside_189 : decode cX11_beside 189 = .ok (.iinc 8 1, 3) := by decide +kernel
theorem dX11_beside_192 : decode cX11_beside 192 = .ok (.goto (-153), 3) := by decide +kernel
theorem dX11_beside_195 : decode cX11_beside 195 = .ok (.iload_n 2, 1) := by decide +kernel
theorem dX11_beside_196 : decode cX11_beside 196 = .ok (.ifCond .ne 11, 3) := by decide +kernel
theorem dX11_beside_199 : decode cX11_beside 199 = .ok (.aload_n 0, 1) := by decide +kernel
theorem dX11_beside_200 : decode cX11_beside 200 = .ok (.iload_n 1, 1) := by decide +kernel
theorem dX11_beside_201 : decode cX11_beside 201 = .ok (.invokevirtual 257, 3) := by decide +kernel
theorem dX11_beside_204 : decode cX11_beside 204 = .ok (.goto 34, 3) := by decide +kernel
theorem dX11_beside_207 : decode cX11_beside 207 = .ok (.iload_n 2, 1) := by decide +kernel
theorem dX11_beside_208 : decode cX11_beside 208 = .ok (.iconst 1, 1) := by decide +kernel
theorem dX11_beside_209 : decode cX11_beside 209 = .ok (.if_icmp .ne 7, 3) := by decide +kernel
theorem dX11_beside_212 : decode cX11_beside 212 = .ok (.iload_n 3, 1) := by decide +kernel
theorem dX11_beside_213 : decode cX11_beside 213 = .ok (.goto 25, 3) := by decide +kernel
theorem dX11_beside_216 : decode cX11_beside 216 = .ok (.iload_n 2, 1) := by decide +kernel
theorem dX11_beside_217 : decode cX11_beside 217 = .ok (.iconst 2, 1) := by decide +kernel
theorem dX11_beside_218 : decode cX11_beside 218 = .ok (.if_icmp .ne 8, 3) := by decide +kernel
theorem dX11_beside_221 : decode cX11_beside 221 = .ok (.iload 4, 2) := by decide +kernel
theorem dX11_beside_223 : decode cX11_beside 223 = .ok (.goto 15, 3) := by decide +kernel
theorem dX11_beside_226 : decode cX11_beside 226 = .ok (.iload_n 2, 1) := by decide +kernel
theorem dX11_beside_227 : decode cX11_beside 227 = .ok (.iconst 3, 1) := by decide +kernel
theorem dX11_beside_228 : decode cX11_beside 228 = .ok (.if_icmp .ne 8, 3) := by decide +kernel
theorem dX11_beside_231 : decode cX11_beside 231 = .ok (.iload 5, 2) := by decide +kernel
theorem dX11_beside_233 : decode cX11_beside 233 = .ok (.goto 5, 3) := by decide +kernel
theorem dX11_beside_236 : decode cX11_beside 236 = .ok (.iload 6, 2) := by decide +kernel
theorem dX11_beside_238 : decode cX11_beside 238 = .ok (.ireturn, 1) := by decide +kernel
set_option maxRecDepth 100000 in
set_option maxHeartbeats 4000000 in
theorem M_X11_beside (G : zG) (l : Launch) {a1 : Int32} {a2 : Int32} {σ : zS} {r : Int32} (hJ : J_X11_beside a1 a2 σ = some r) : zMI G l yX11_beside cX11_beside 10 (some .int) (zrm 2 45) [.ref (G.1 + 105), .int a1, .int a2] 137 (zen G σ) r 137 (zen G σ) := by
  unfold J_X11_beside at hJ
  refine zentI (by decide +kernel) (Nat.le_of_ble_eq_true rfl) ?_
  intro p e s m args below meth c C hret
  refine zr_sub [0, 1, 2] [(0, .ref (G.1 + 105)), (1, .int a1), (2, .int a2)] rfl ?_
  refine zr_iload_n C 1 dX11_beside_0 rfl ?_
  obtain ⟨r1, hr1, hJ⟩ := zb_e hJ
  refine zr_callSI C (M_X11_isEvent G l hr1) zin_X11_isEvent zm_24_0 rfl rfl (Nat.le_of_ble_eq_true rfl) ⟨Nat.le_of_ble_eq_true rfl, Nat.le_of_ble_eq_true rfl⟩ ⟨Nat.le_of_ble_eq_true rfl, Nat.le_of_ble_eq_true rfl⟩ dX11_beside_1 ?_
  refine zr_if_eq C 19 dX11_beside_4 (by decide) (fun hc2 => ?_) (fun hc2 => ?_)
  · have hJ := zif hc2 hJ
    refine zr_iconst C dX11_beside_19 (v := (-1 : Int32)) (by decide) ?_
    exact zr_iret C hret (zs_e hJ) rfl rfl dX11_beside_20
  · have hJ := zif' hc2 hJ
    refine zr_iload_n C 2 dX11_beside_7 rfl ?_
    refine zr_i2l C dX11_beside_8 ?_
    refine zr_lconst C dX11_beside_9 (v := (0 : Int64)) (by decide) ?_
    refine zr_ldc2 C dX11_beside_10 zm_25_11 ?_
    obtain ⟨r3, hr3, hJ⟩ := zb_e hJ
    refine zr_callSI C (M_X11_in G l hr3) zin_X11_in zm_9_22 rfl rfl (Nat.le_of_ble_eq_true rfl) ⟨Nat.le_of_ble_eq_true rfl, Nat.le_of_ble_eq_true rfl⟩ ⟨Nat.le_of_ble_eq_true rfl, Nat.le_of_ble_eq_true rfl⟩ dX11_beside_13 ?_
    refine zr_if_ne C 21 dX11_beside_16 (by decide) (fun hc4 => ?_) (fun hc4 => ?_)
    · have hJ := zif' hc4 hJ
      refine zr_iconst C dX11_beside_21 (v := (0 : Int32)) (by decide) ?_
      refine zr_istore_n C [(3, .int (0 : Int32)), (0, .ref (G.1 + 105)), (1, .int a1), (2, .int a2)] dX11_beside_22 (by decide) rfl ?_
      refine zr_iconst C dX11_beside_23 (v := (0 : Int32)) (by decide) ?_
      refine zr_istore C [(4, .int (0 : Int32)), (3, .int (0 : Int32)), (0, .ref (G.1 + 105)), (1, .int a1), (2, .int a2)] dX11_beside_24 (by decide) rfl ?_
      refine zr_iconst C dX11_beside_26 (v := (0 : Int32)) (by decide) ?_
      refine zr_istore C [(5, .int (0 : Int32)), (4, .int (0 : Int32)), (3, .int (0 : Int32)), (0, .ref (G.1 + 105)), (1, .int a1), (2, .int a2)] dX11_beside_27 (by decide) rfl ?_
      refine zr_bipush C dX11_beside_29 (v := (-4 : Int32)) (by decide) ?_
      refine zr_istore C [(6, .int (-4 : Int32)), (5, .int (0 : Int32)), (4, .int (0 : Int32)), (3, .int (0 : Int32)), (0, .ref (G.1 + 105)), (1, .int a1), (2, .int a2)] dX11_beside_31 (by decide) rfl ?_
      refine zr_iconst C dX11_beside_33 (v := (0 : Int32)) (by decide) ?_
      refine zr_istore C [(7, .int (0 : Int32)), (6, .int (-4 : Int32)), (5, .int (0 : Int32)), (4, .int (0 : Int32)), (3, .int (0 : Int32)), (0, .ref (G.1 + 105)), (1, .int a1), (2, .int a2)] dX11_beside_34 (by decide) rfl ?_
      refine zr_iconst C dX11_beside_36 (v := (0 : Int32)) (by decide) ?_
      refine zr_istore C [(8, .int (0 : Int32)), (7, .int (0 : Int32)), (6, .int (-4 : Int32)), (5, .int (0 : Int32)), (4, .int (0 : Int32)), (3, .int (0 : Int32)), (0, .ref (G.1 + 105)), (1, .int a1), (2, .int a2)] dX11_beside_37 (by decide) rfl ?_
      obtain ⟨k195, hk195, hJ⟩ := zlet_e hJ
      have hj195 : ∀ (w3_195 : Int32) (w4_195 : Int32) (w5_195 : Int32) (w6_195 : Int32), k195 w3_195 w4_195 w5_195 w6_195 = some r → zU G 10 p l e (zrm 2 45) s m args below meth c (MQ below (va_Qi (fun x (_ : Unit) => x = r) (fun _ t => zok G 137 (zen G σ) t) (zA G)) args s 0 0 (zA G)) σ 195 [(0, .ref (G.1 + 105)), (1, .int a1), (2, .int a2), (3, .int w3_195), (4, .int w4_195), (5, .int w5_195), (6, .int w6_195)] [] := by
        intro w3_195 w4_195 w5_195 w6_195 hJ
        rw [hk195] at hJ
        unfold D_X11_beside_195 at hJ
        refine zr_iload_n C 2 dX11_beside_195 rfl ?_
        refine zr_if_ne C 207 dX11_beside_196 (by decide) (fun hc5 => ?_) (fun hc5 => ?_)
        · have hJ := zif' hc5 hJ
          refine zr_iload_n C 2 dX11_beside_207 rfl ?_
          refine zr_iconst C dX11_beside_208 (v := (1 : Int32)) (by decide) ?_
          refine zr_icmp_ne C 216 dX11_beside_209 (by decide) (fun hc6 => ?_) (fun hc6 => ?_)
          · have hJ := zif' hc6 hJ
            refine zr_iload_n C 2 dX11_beside_216 rfl ?_
            refine zr_iconst C dX11_beside_217 (v := (2 : Int32)) (by decide) ?_
            refine zr_icmp_ne C 226 dX11_beside_218 (by decide) (fun hc7 => ?_) (fun hc7 => ?_)
            · have hJ := zif' hc7 hJ
              refine zr_iload_n C 2 dX11_beside_226 rfl ?_
              refine zr_iconst C dX11_beside_227 (v := (3 : Int32)) (by decide) ?_
              refine zr_icmp_ne C 236 dX11_beside_228 (by decide) (fun hc8 => ?_) (fun hc8 => ?_)
              · have hJ := zif' hc8 hJ
                refine zr_iload C 6 dX11_beside_236 rfl ?_
                exact zr_iret C hret (zs_e hJ) rfl rfl dX11_beside_238
              · have hJ := zif hc8 hJ
                refine zr_iload C 5 dX11_beside_231 rfl ?_
                refine zr_goto C 238 dX11_beside_233 (by decide) ?_
                exact zr_iret C hret (zs_e hJ) rfl rfl dX11_beside_238
            · have hJ := zif hc7 hJ
              refine zr_iload C 4 dX11_beside_221 rfl ?_
              refine zr_goto C 238 dX11_beside_223 (by decide) ?_
              exact zr_iret C hret (zs_e hJ) rfl rfl dX11_beside_238
          · have hJ := zif hc6 hJ
            refine zr_iload_n C 3 dX11_beside_212 rfl ?_
            refine zr_goto C 238 dX11_beside_213 (by decide) ?_
            exact zr_iret C hret (zs_e hJ) rfl rfl dX11_beside_238
        · have hJ := zif hc5 hJ
          refine zr_aload_n C 0 dX11_beside_199 rfl ?_
          refine zr_iload_n C 1 dX11_beside_200 rfl ?_
          obtain ⟨r9, hr9, hJ⟩ := zb_e hJ
          refine zr_callVI C 105 (zk_lt zk_105 (by decide)) (zen_obj zk_105) (rfl : zcl[11]? = some (RX11, TX11, 56)) (M_X11_total G l hr9) zin_X11_total zm_22_23 rfl rfl (Nat.le_of_ble_eq_true rfl) ⟨Nat.le_of_ble_eq_true rfl, Nat.le_of_ble_eq_true rfl⟩ ⟨Nat.le_of_ble_eq_true rfl, Nat.le_of_ble_eq_true rfl⟩ dX11_beside_201 ?_
          refine zr_goto C 238 dX11_beside_204 (by decide) ?_
          exact zr_iret C hret (zs_e hJ) rfl rfl dX11_beside_238
      have hl39 : ∀ (n : Nat) (w3_39 : Int32) (w4_39 : Int32) (w5_39 : Int32) (w6_39 : Int32) (w7_39 : Int32) (w8_39 : Int32), L_X11_beside_39 a1 σ k195 n w3_39 w4_39 w5_39 w6_39 w7_39 w8_39 = some r → zU G 10 p l e (zrm 2 45) s m args below meth c (MQ below (va_Qi (fun x (_ : Unit) => x = r) (fun _ t => zok G 137 (zen G σ) t) (zA G)) args s 0 0 (zA G)) σ 39 [(0, .ref (G.1 + 105)), (1, .int a1), (2, .int a2), (3, .int w3_39), (4, .int w4_39), (5, .int w5_39), (6, .int w6_39), (7, .int w7_39), (8, .int w8_39)] [] := by
        intro n
        induction n with
        | zero =>
          intro w3_39 w4_39 w5_39 w6_39 w7_39 w8_39 hJ
          rw [L_X11_beside_39] at hJ
          cases hJ
        | succ n ih =>
          intro w3_39 w4_39 w5_39 w6_39 w7_39 w8_39 hJ
          rw [L_X11_beside_39] at hJ
          obtain ⟨r_39, hr_39, hJ⟩ := zlet_e hJ
          have ih39 : ∀ (w3_39 : Int32) (w4_39 : Int32) (w5_39 : Int32) (w6_39 : Int32) (w7_39 : Int32) (w8_39 : Int32), r_39 w3_39 w4_39 w5_39 w6_39 w7_39 w8_39 = some r → zU G 10 p l e (zrm 2 45) s m args below meth c (MQ below (va_Qi (fun x (_ : Unit) => x = r) (fun _ t => zok G 137 (zen G σ) t) (zA G)) args s 0 0 (zA G)) σ 39 [(0, .ref (G.1 + 105)), (1, .int a1), (2, .int a2), (3, .int w3_39), (4, .int w4_39), (5, .int w5_39), (6, .int w6_39), (7, .int w7_39), (8, .int w8_39)] [] := by
            rw [hr_39]
            exact ih
          refine zr_iload C 8 dX11_beside_39 rfl ?_
          refine zr_bipush C dX11_beside_41 (v := (16 : Int32)) (by decide) ?_
          refine zr_icmp_ge C 195 dX11_beside_43 (by decide) (fun hc10 => ?_) (fun hc10 => ?_)
          · have hJ := zif hc10 hJ
            refine zr_sub [0, 1, 2, 3, 4, 5, 6] [(0, .ref (G.1 + 105)), (1, .int a1), (2, .int a2), (3, .int w3_39), (4, .int w4_39), (5, .int w5_39), (6, .int w6_39)] rfl ?_
            exact hj195 _ _ _ _ hJ
          · have hJ := zif' hc10 hJ
            refine zr_iload C 8 dX11_beside_46 rfl ?_
            refine zr_aload_n C 0 dX11_beside_48 rfl ?_
            refine zg_11_0 C 105 zk_105 zm_16_22 dX11_beside_49 ?_
            obtain ⟨k74, hk74, hJ⟩ := zlet_e hJ
            have hj74 : ∀ (x0_74 : Int32), k74 x0_74 = some r → zU G 10 p l e (zrm 2 45) s m args below meth c (MQ below (va_Qi (fun x (_ : Unit) => x = r) (fun _ t => zok G 137 (zen G σ) t) (zA G)) args s 0 0 (zA G)) σ 74 [(0, .ref (G.1 + 105)), (1, .int a1), (2, .int a2), (3, .int w3_39), (4, .int w4_39), (5, .int w5_39), (6, .int w6_39), (7, .int w7_39), (8, .int w8_39)] [.int x0_74] := by
              intro x0_74 hJ
              rw [hk74] at hJ
              unfold D_X11_beside_74 at hJ
              refine zr_aload_n C 0 dX11_beside_74 rfl ?_
              refine zg_11_35 C 105 zk_105 zm_8_5 dX11_beside_75 ?_
              refine zr_bipush C dX11_beside_78 (v := (8 : Int32)) (by decide) ?_
              refine zr_iload C 8 dX11_beside_80 rfl ?_
              refine zr_imul C dX11_beside_82 ?_
              refine zr_iload_n C 1 dX11_beside_83 rfl ?_
              refine zr_iadd C dX11_beside_84 ?_
              obtain ⟨hg11, hJ⟩ := zg_e hJ
              refine zu_iald C 124 zk_124 hg11 dX11_beside_85 ?_
              refine zr_isub C dX11_beside_86 ?_
              obtain ⟨v12, hv12, hJ⟩ := zlet_e hJ
              refine zr_topi hv12 ?_
              refine zr_istore C [(9, .int v12), (0, .ref (G.1 + 105)), (1, .int a1), (2, .int a2), (3, .int w3_39), (4, .int w4_39), (5, .int w5_39), (6, .int w6_39), (7, .int w7_39), (8, .int w8_39)] dX11_beside_87 (by decide) rfl ?_
              refine zr_iload_n C 4 dX11_beside_89 rfl ?_
              refine zr_aload_n C 1 dX11_beside_90 rfl ?_
              refine zg_11_35 C 105 zk_105 zm_8_5 dX11_beside_91 ?_
              refine zr_bipush C dX11_beside_94 (v := (8 : Int32)) (by decide) ?_
              refine zr_iload C 9 dX11_beside_96 rfl ?_
              refine zr_imul C dX11_beside_98 ?_
              refine zr_iload_n C 2 dX11_beside_99 rfl ?_
              refine zr_iadd C dX11_beside_100 ?_
              obtain ⟨hg13, hJ⟩ := zg_e hJ
              refine zu_iald C 124 zk_124 hg13 dX11_beside_101 ?_
              refine zr_iadd C dX11_beside_102 ?_
              obtain ⟨v14, hv14, hJ⟩ := zlet_e hJ
              refine zr_topi hv14 ?_
              refine zr_istore_n C [(3, .int v14), (9, .int v12), (0, .ref (G.1 + 105)), (1, .int a1), (2, .int a2), (4, .int w4_39), (5, .int w5_39), (6, .int w6_39), (7, .int w7_39), (8, .int w8_39)] dX11_beside_103 (by decide) rfl ?_
              refine zr_iload C 5 dX11_beside_104 rfl ?_
              refine zr_iload C 1 dX11_beside_106 rfl ?_
              obtain ⟨v15, hv15, hJ⟩ := zlet_e hJ
              have hf31 : zU G 10 p l e (zrm 2 45) s m args below meth c (MQ below (va_Qi (fun x (_ : Unit) => x = r) (fun _ t => zok G 137 (zen G σ) t) (zA G)) args s 0 0 (zA G)) σ 119 [(0, .ref (G.1 + 105)), (1, .int a1), (2, .int a2), (3, .int v14), (5, .int w5_39), (6, .int w6_39), (7, .int w7_39), (8, .int w8_39), (9, .int v12)] [.int v15, .int w4_39] := by
                refine zr_ior C dX11_beside_119 ?_
                obtain ⟨v16, hv16, hJ⟩ := zlet_e hJ
                refine zr_topi hv16 ?_
                refine zr_istore C [(4, .int v16), (0, .ref (G.1 + 105)), (1, .int a1), (2, .int a2), (3, .int v14), (5, .int w5_39), (6, .int w6_39), (7, .int w7_39), (8, .int w8_39), (9, .int v12)] dX11_beside_120 (by decide) rfl ?_
                refine zr_iload C 5 dX11_beside_122 rfl ?_
                refine zr_iload C 9 dX11_beside_124 rfl ?_
                obtain ⟨v17, hv17, hJ⟩ := zlet_e hJ
                have hf29 : zU G 10 p l e (zrm 2 45) s m args below meth c (MQ below (va_Qi (fun x (_ : Unit) => x = r) (fun _ t => zok G 137 (zen G σ) t) (zA G)) args s 0 0 (zA G)) σ 137 [(0, .ref (G.1 + 105)), (1, .int a1), (2, .int a2), (3, .int v14), (4, .int v16), (6, .int w6_39), (7, .int w7_39), (8, .int w8_39), (9, .int v12)] [.int v17, .int w5_39] := by
                  refine zr_ior C dX11_beside_137 ?_
                  obtain ⟨v18, hv18, hJ⟩ := zlet_e hJ
                  refine zr_topi hv18 ?_
                  refine zr_istore C [(5, .int v18), (0, .ref (G.1 + 105)), (1, .int a1), (2, .int a2), (3, .int v14), (4, .int v16), (6, .int w6_39), (7, .int w7_39), (8, .int w8_39), (9, .int v12)] dX11_beside_138 (by decide) rfl ?_
                  refine zr_iload C 9 dX11_beside_140 rfl ?_
                  refine zr_i2l C dX11_beside_142 ?_
                  obtain ⟨r19, hr19, hJ⟩ := zb_e hJ
                  refine zr_callSL C (M_X11_size G l hr19) zin_X11_size zm_24_6 rfl rfl (Nat.le_of_ble_eq_true rfl) ⟨Nat.le_of_ble_eq_true rfl, Nat.le_of_ble_eq_true rfl⟩ ⟨Nat.le_of_ble_eq_true rfl, Nat.le_of_ble_eq_true rfl⟩ dX11_beside_143 ?_
                  refine zr_iload C 7 dX11_beside_146 rfl ?_
                  refine zr_i2l C dX11_beside_148 ?_
                  refine zr_lcmp C dX11_beside_149 ?_
                  obtain ⟨v20, hv20, hJ⟩ := zlet_e hJ
                  have hf27 : zU G 10 p l e (zrm 2 45) s m args below meth c (MQ below (va_Qi (fun x (_ : Unit) => x = r) (fun _ t => zok G 137 (zen G σ) t) (zA G)) args s 0 0 (zA G)) σ 160 [(0, .ref (G.1 + 105)), (1, .int a1), (2, .int a2), (3, .int v14), (4, .int v16), (5, .int v18), (7, .int w7_39), (8, .int w8_39), (9, .int v12)] [.int v20] := by
                    refine zr_istore C [(6, .int v20), (0, .ref (G.1 + 105)), (1, .int a1), (2, .int a2), (3, .int v14), (4, .int v16), (5, .int v18), (7, .int w7_39), (8, .int w8_39), (9, .int v12)] dX11_beside_160 (by decide) rfl ?_
                    refine zr_iload C 9 dX11_beside_162 rfl ?_
                    refine zr_i2l C dX11_beside_164 ?_
                    obtain ⟨r21, hr21, hJ⟩ := zb_e hJ
                    refine zr_callSL C (M_X11_size G l hr21) zin_X11_size zm_24_6 rfl rfl (Nat.le_of_ble_eq_true rfl) ⟨Nat.le_of_ble_eq_true rfl, Nat.le_of_ble_eq_true rfl⟩ ⟨Nat.le_of_ble_eq_true rfl, Nat.le_of_ble_eq_true rfl⟩ dX11_beside_165 ?_
                    refine zr_iload C 7 dX11_beside_168 rfl ?_
                    refine zr_i2l C dX11_beside_170 ?_
                    refine zr_lcmp C dX11_beside_171 ?_
                    refine zr_if_le C 185 dX11_beside_172 (by decide) (fun hc22 => ?_) (fun hc22 => ?_)
                    · have hJ := zif hc22 hJ
                      refine zr_iload C 7 dX11_beside_185 rfl ?_
                      refine zr_istore C [(7, .int w7_39), (6, .int v20), (0, .ref (G.1 + 105)), (1, .int a1), (2, .int a2), (3, .int v14), (4, .int v16), (5, .int v18), (8, .int w8_39), (9, .int v12)] dX11_beside_187 (by decide) rfl ?_
                      obtain ⟨v23, hv23, hJ⟩ := zlet_e hJ
                      refine zr_iinc C v23 8 [(8, .int v23), (7, .int w7_39), (6, .int v20), (0, .ref (G.1 + 105)), (1, .int a1), (2, .int a2), (3, .int v14), (4, .int v16), (5, .int v18), (9, .int v12)] dX11_beside_189 rfl (hv23.trans (zinc (by decide))) (by decide) rfl ?_
                      refine zr_goto C 39 dX11_beside_192 (by decide) ?_
                      refine zr_sub [3, 4, 5, 6, 7, 8, 2, 1, 0] [(0, .ref (G.1 + 105)), (1, .int a1), (2, .int a2), (3, .int v14), (4, .int v16), (5, .int v18), (6, .int v20), (7, .int w7_39), (8, .int v23)] rfl ?_
                      exact ih39 _ _ _ _ _ _ hJ
                    · have hJ := zif' hc22 hJ
                      refine zr_iload C 9 dX11_beside_175 rfl ?_
                      refine zr_i2l C dX11_beside_177 ?_
                      obtain ⟨r24, hr24, hJ⟩ := zb_e hJ
                      refine zr_callSL C (M_X11_size G l hr24) zin_X11_size zm_24_6 rfl rfl (Nat.le_of_ble_eq_true rfl) ⟨Nat.le_of_ble_eq_true rfl, Nat.le_of_ble_eq_true rfl⟩ ⟨Nat.le_of_ble_eq_true rfl, Nat.le_of_ble_eq_true rfl⟩ dX11_beside_178 ?_
                      refine zr_l2i C dX11_beside_181 ?_
                      refine zr_goto C 187 dX11_beside_182 (by decide) ?_
                      obtain ⟨v25, hv25, hJ⟩ := zlet_e hJ
                      refine zr_topi hv25 ?_
                      refine zr_istore C [(7, .int v25), (6, .int v20), (0, .ref (G.1 + 105)), (1, .int a1), (2, .int a2), (3, .int v14), (4, .int v16), (5, .int v18), (8, .int w8_39), (9, .int v12)] dX11_beside_187 (by decide) rfl ?_
                      obtain ⟨v26, hv26, hJ⟩ := zlet_e hJ
                      refine zr_iinc C v26 8 [(8, .int v26), (7, .int v25), (6, .int v20), (0, .ref (G.1 + 105)), (1, .int a1), (2, .int a2), (3, .int v14), (4, .int v16), (5, .int v18), (9, .int v12)] dX11_beside_189 rfl (hv26.trans (zinc (by decide))) (by decide) rfl ?_
                      refine zr_goto C 39 dX11_beside_192 (by decide) ?_
                      refine zr_sub [3, 4, 5, 6, 7, 8, 2, 1, 0] [(0, .ref (G.1 + 105)), (1, .int a1), (2, .int a2), (3, .int v14), (4, .int v16), (5, .int v18), (6, .int v20), (7, .int v25), (8, .int v26)] rfl ?_
                      exact ih39 _ _ _ _ _ _ hJ
                  refine zr_if_le C 158 dX11_beside_150 (by decide) (fun hc28 => ?_) (fun hc28 => ?_)
                  · have hv20 := hv20.trans (if_pos hc28)
                    refine zr_iload C 6 dX11_beside_158 rfl ?_
                    refine zr_sub [1, 2, 3, 4, 5, 0, 7, 8, 9] [(0, .ref (G.1 + 105)), (1, .int a1), (2, .int a2), (3, .int v14), (4, .int v16), (5, .int v18), (7, .int w7_39), (8, .int w8_39), (9, .int v12)] rfl ?_
                    rw [hv20] at hf27
                    exact hf27
                  · have hv20 := hv20.trans (if_neg hc28)
                    refine zr_iload C 8 dX11_beside_153 rfl ?_
                    refine zr_goto C 160 dX11_beside_155 (by decide) ?_
                    refine zr_sub [1, 2, 3, 4, 5, 0, 7, 8, 9] [(0, .ref (G.1 + 105)), (1, .int a1), (2, .int a2), (3, .int v14), (4, .int v16), (5, .int v18), (7, .int w7_39), (8, .int w8_39), (9, .int v12)] rfl ?_
                    rw [hv20] at hf27
                    exact hf27
                refine zr_if_ge C 136 dX11_beside_126 (by decide) (fun hc30 => ?_) (fun hc30 => ?_)
                · have hv17 := hv17.trans (if_pos hc30)
                  refine zr_iconst C dX11_beside_136 (v := (0 : Int32)) (by decide) ?_
                  refine zr_sub [1, 2, 3, 4, 0, 6, 7, 8, 9] [(0, .ref (G.1 + 105)), (1, .int a1), (2, .int a2), (3, .int v14), (4, .int v16), (6, .int w6_39), (7, .int w7_39), (8, .int w8_39), (9, .int v12)] rfl ?_
                  rw [hv17] at hf29
                  exact hf29
                · have hv17 := hv17.trans (if_neg hc30)
                  refine zr_iconst C dX11_beside_129 (v := (1 : Int32)) (by decide) ?_
                  refine zr_iload C 8 dX11_beside_130 rfl ?_
                  refine zr_ishl C dX11_beside_132 ?_
                  refine zr_goto C 137 dX11_beside_133 (by decide) ?_
                  refine zr_sub [1, 2, 3, 4, 0, 6, 7, 8, 9] [(0, .ref (G.1 + 105)), (1, .int a1), (2, .int a2), (3, .int v14), (4, .int v16), (6, .int w6_39), (7, .int w7_39), (8, .int w8_39), (9, .int v12)] rfl ?_
                  rw [hv17] at hf29
                  exact hf29
              refine zr_if_le C 118 dX11_beside_108 (by decide) (fun hc32 => ?_) (fun hc32 => ?_)
              · have hv15 := hv15.trans (if_pos hc32)
                refine zr_iconst C dX11_beside_118 (v := (0 : Int32)) (by decide) ?_
                refine zr_sub [2, 3, 4, 0, 6, 7, 8, 9, 1] [(0, .ref (G.1 + 105)), (1, .int a1), (2, .int a2), (3, .int v14), (5, .int w5_39), (6, .int w6_39), (7, .int w7_39), (8, .int w8_39), (9, .int v12)] rfl ?_
                rw [hv15] at hf31
                exact hf31
              · have hv15 := hv15.trans (if_neg hc32)
                refine zr_iconst C dX11_beside_111 (v := (1 : Int32)) (by decide) ?_
                refine zr_iload C 9 dX11_beside_112 rfl ?_
                refine zr_ishl C dX11_beside_114 ?_
                refine zr_goto C 119 dX11_beside_115 (by decide) ?_
                refine zr_sub [2, 3, 4, 0, 6, 7, 8, 9, 1] [(0, .ref (G.1 + 105)), (1, .int a1), (2, .int a2), (3, .int v14), (5, .int w5_39), (6, .int w6_39), (7, .int w7_39), (8, .int w8_39), (9, .int v12)] rfl ?_
                rw [hv15] at hf31
                exact hf31
            refine zr_icmp_ge C 73 dX11_beside_52 (by decide) (fun hc33 => ?_) (fun hc33 => ?_)
            · have hJ := zif hc33 hJ
              refine zr_iconst C dX11_beside_73 (v := (0 : Int32)) (by decide) ?_
              exact hj74 _ hJ
            · have hJ := zif' hc33 hJ
              refine zr_aload_n C 0 dX11_beside_55 rfl ?_
              refine zg_11_9 C 105 zk_105 zm_7_17 dX11_beside_56 ?_
              refine zr_iload C 8 dX11_beside_59 rfl ?_
              obtain ⟨hg34, hJ⟩ := zg_e hJ
              refine zu_iald C 112 zk_112 hg34 dX11_beside_61 ?_
              refine zr_aload_n C 0 dX11_beside_62 rfl ?_
              refine zr_iload C 8 dX11_beside_63 rfl ?_
              refine zr_iload_n C 1 dX11_beside_65 rfl ?_
              obtain ⟨r35, hr35, hJ⟩ := zb_e hJ
              refine zr_callVI C 105 (zk_lt zk_105 (by decide)) (zen_obj zk_105) (rfl : zcl[11]? = some (RX11, TX11, 56)) (M_X11_made G l hr35) zin_X11_made zm_21_9 rfl rfl (Nat.le_of_ble_eq_true rfl) ⟨Nat.le_of_ble_eq_true rfl, Nat.le_of_ble_eq_true rfl⟩ ⟨Nat.le_of_ble_eq_true rfl, Nat.le_of_ble_eq_true rfl⟩ dX11_beside_66 ?_
              refine zr_imul C dX11_beside_69 ?_
              refine zr_goto C 74 dX11_beside_70 (by decide) ?_
              exact hj74 _ hJ
      refine zr_sub [6, 7, 8, 5, 4, 3, 2, 1, 0] [(0, .ref (G.1 + 105)), (1, .int a1), (2, .int a2), (3, .int (0 : Int32)), (4, .int (0 : Int32)), (5, .int (0 : Int32)), (6, .int (-4 : Int32)), (7, .int (0 : Int32)), (8, .int (0 : Int32))] rfl ?_
      exact hl39 _ _ _ _ _ _ _ hJ
    · have hJ := zif hc4 hJ
      refine zr_iconst C dX11_beside_19 (v := (-1 : Int32)) (by decide) ?_
      exact zr_iret C hret (zs_e hJ) rfl rfl dX11_beside_20
theorem dX11_isCounter_0 : decode cX11_isCounter 0 = .ok (.iload_n 1, 1) := by decide +kernel
theorem dX11_isCounter_1 : decode cX11_isCounter 1 = .ok (.i2l, 1) := by decide +kernel
theorem dX11_isCounter_2 : decode cX11_isCounter 2 = .ok (.lconst 0, 1) := by decide +kernel
theorem dX11_isCounter_3 : decode cX11_isCounter 3 = .ok (.aload_n 0, 1) := by decide +kernel
theorem dX11_isCounter_4 : decode cX11_isCounter 4 = .ok (.getfield 67, 3) := by decide +kernel
theorem dX11_isCounter_7 : decode cX11_isCounter 7 = .ok (.iconst 1, 1) := by decide +kernel
theorem dX11_isCounter_8 : decode cX11_isCounter 8 = .ok (.isub, 1) := by decide +kernel
theorem dX11_isCounter_9 : decode cX11_isCounter 9 = .ok (.i2l, 1) := by decide +kernel
theorem dX11_isCounter_10 : decode cX11_isCounter 10 = .ok (.invokestatic 124, 3) := by decide +kernel
theorem dX11_isCounter_13 : decode cX11_isCounter 13 = .ok (.ireturn, 1) := by decide +kernel
set_option maxRecDepth 100000 in
set_option maxHeartbeats 4000000 in
theorem M_X11_isCounter (G : zG) (l : Launch) {a1 : Int32} {σ : zS} {r : Int32} (hJ : J_X11_isCounter a1 σ = some r) : zMI G l yX11_isCounter cX11_isCounter 2 (some .boolean) (zrm 1 25) [.ref (G.1 + 105), .int a1] 137 (zen G σ) r 137 (zen G σ) := by
  unfold J_X11_isCounter at hJ
  refine zentI (by decide +kernel) (Nat.le_of_ble_eq_true rfl) ?_
  intro p e s m args below meth c C hret
  refine zr_sub [0, 1] [(0, .ref (G.1 + 105)), (1, .int a1)] rfl ?_
  refine zr_iload_n C 1 dX11_isCounter_0 rfl ?_
  refine zr_i2l C dX11_isCounter_1 ?_
  refine zr_lconst C dX11_isCounter_2 (v := (0 : Int64)) (by decide) ?_
  refine zr_aload_n C 0 dX11_isCounter_3 rfl ?_
  refine zg_11_36 C 105 zk_105 zm_8_6 dX11_isCounter_4 ?_
  refine zr_iconst C dX11_isCounter_7 (v := (1 : Int32)) (by decide) ?_
  refine zr_isub C dX11_isCounter_8 ?_
  refine zr_i2l C dX11_isCounter_9 ?_
  obtain ⟨r1, hr1, hJ⟩ := zb_e hJ
  refine zr_callSI C (M_X11_in G l hr1) zin_X11_in zm_9_22 rfl rfl (Nat.le_of_ble_eq_true rfl) ⟨Nat.le_of_ble_eq_true rfl, Nat.le_of_ble_eq_true rfl⟩ ⟨Nat.le_of_ble_eq_true rfl, Nat.le_of_ble_eq_true rfl⟩ dX11_isCounter_10 ?_
  obtain ⟨hg2, hJ⟩ := zg_e hJ
  exact zr_zret C hret (zs_e hJ) (zbl_n hg2) rfl rfl dX11_isCounter_13
theorem dX11_canCount_0 : decode cX11_canCount 0 = .ok (.aload_n 0, 1) := by decide +kernel
theorem dX11_canCount_1 : decode cX11_canCount 1 = .ok (.iload_n 1, 1) := by decide +kernel
theorem dX11_canCount_2 : decode cX11_canCount 2 = .ok (.invokevirtual 279, 3) := by decide +kernel
theorem dX11_canCount_5 : decode cX11_canCount 5 = .ok (.ifCond .eq 28, 3) := by decide +kernel
theorem dX11_canCount_8 : decode cX11_canCount 8 = .ok (.iload_n 2, 1) := by decide +kernel
theorem dX11_canCount_9 : decode cX11_canCount 9 = .ok (.invokestatic 260, 3) := by decide +kernel
theorem dX11_canCount_12 : decode cX11_canCount 12 = .ok (.ifCond .eq 21, 3) := by decide +kernel
theorem dX11_canCount_15 : decode cX11_canCount 15 = .ok (.aload_n 0, 1) := by decide +kernel
theorem dX11_canCount_16 : decode cX11_canCount 16 = .ok (.getfield 71, 3) := by decide +kernel
theorem dX11_canCount_19 : decode cX11_canCount 19 = .ok (.iload_n 1, 1) := by decide +kernel
theorem dX11_canCount_20 : decode cX11_canCount 20 = .ok (.iaload, 1) := by decide +kernel
theorem dX11_canCount_21 : decode cX11_canCount 21 = .ok (.iload_n 2, 1) := by decide +kernel
theorem dX11_canCount_22 : decode cX11_canCount 22 = .ok (.ishr, 1) := by decide +kernel
theorem dX11_canCount_23 : decode cX11_canCount 23 = .ok (.iconst 1, 1) := by decide +kernel
theorem dX11_canCount_24 : decode cX11_canCount 24 = .ok (.iand, 1) := by decide +kernel
theorem dX11_canCount_25 : decode cX11_canCount 25 = .ok (.iconst 1, 1) := by decide +kernel
theorem dX11_canCount_26 : decode cX11_canCount 26 = .ok (.if_icmp .ne 7, 3) := by decide +kernel
theorem dX11_canCount_29 : decode cX11_canCount 29 = .ok (.iconst 1, 1) := by decide +kernel
theorem dX11_canCount_30 : decode cX11_canCount 30 = .ok (.goto 4, 3) := by decide +kernel
theorem dX11_canCount_33 : decode cX11_canCount 33 = .ok (.iconst 0, 1) := by decide +kernel
theorem dX11_canCount_34 : decode cX11_canCount 34 = .ok (.ireturn, 1) := by decide +kernel
set_option maxRecDepth 100000 in
set_option maxHeartbeats 4000000 in
theorem M_X11_canCount (G : zG) (l : Launch) {a1 : Int32} {a2 : Int32} {σ : zS} {r : Int32} (hJ : J_X11_canCount a1 a2 σ = some r) : zMI G l yX11_canCount cX11_canCount 3 (some .boolean) (zrm 2 46) [.ref (G.1 + 105), .int a1, .int a2] 137 (zen G σ) r 137 (zen G σ) := by
  unfold J_X11_canCount at hJ
  refine zentI (by decide +kernel) (Nat.le_of_ble_eq_true rfl) ?_
  intro p e s m args below meth c C hret
  refine zr_sub [0, 1, 2] [(0, .ref (G.1 + 105)), (1, .int a1), (2, .int a2)] rfl ?_
  refine zr_aload_n C 0 dX11_canCount_0 rfl ?_
  refine zr_iload_n C 1 dX11_canCount_1 rfl ?_
  obtain ⟨r1, hr1, hJ⟩ := zb_e hJ
  refine zr_callVI C 105 (zk_lt zk_105 (by decide)) (zen_obj zk_105) (rfl : zcl[11]? = some (RX11, TX11, 56)) (M_X11_isCounter G l hr1) zin_X11_isCounter zm_30_3 rfl rfl (Nat.le_of_ble_eq_true rfl) ⟨Nat.le_of_ble_eq_true rfl, Nat.le_of_ble_eq_true rfl⟩ ⟨Nat.le_of_ble_eq_true rfl, Nat.le_of_ble_eq_true rfl⟩ dX11_canCount_2 ?_
  refine zr_if_eq C 33 dX11_canCount_5 (by decide) (fun hc2 => ?_) (fun hc2 => ?_)
  · have hJ := zif hc2 hJ
    refine zr_iconst C dX11_canCount_33 (v := (0 : Int32)) (by decide) ?_
    exact zr_zret C hret (zs_e hJ) rfl rfl rfl dX11_canCount_34
  · have hJ := zif' hc2 hJ
    refine zr_iload_n C 2 dX11_canCount_8 rfl ?_
    obtain ⟨r3, hr3, hJ⟩ := zb_e hJ
    refine zr_callSI C (M_X11_isEvent G l hr3) zin_X11_isEvent zm_24_0 rfl rfl (Nat.le_of_ble_eq_true rfl) ⟨Nat.le_of_ble_eq_true rfl, Nat.le_of_ble_eq_true rfl⟩ ⟨Nat.le_of_ble_eq_true rfl, Nat.le_of_ble_eq_true rfl⟩ dX11_canCount_9 ?_
    refine zr_if_eq C 33 dX11_canCount_12 (by decide) (fun hc4 => ?_) (fun hc4 => ?_)
    · have hJ := zif hc4 hJ
      refine zr_iconst C dX11_canCount_33 (v := (0 : Int32)) (by decide) ?_
      exact zr_zret C hret (zs_e hJ) rfl rfl rfl dX11_canCount_34
    · have hJ := zif' hc4 hJ
      refine zr_aload_n C 0 dX11_canCount_15 rfl ?_
      refine zg_11_37 C 105 zk_105 zm_8_7 dX11_canCount_16 ?_
      refine zr_iload_n C 1 dX11_canCount_19 rfl ?_
      obtain ⟨hg5, hJ⟩ := zg_e hJ
      refine zu_iald C 125 zk_125 hg5 dX11_canCount_20 ?_
      refine zr_iload_n C 2 dX11_canCount_21 rfl ?_
      refine zr_ishr C dX11_canCount_22 ?_
      refine zr_iconst C dX11_canCount_23 (v := (1 : Int32)) (by decide) ?_
      refine zr_iand C dX11_canCount_24 ?_
      refine zr_iconst C dX11_canCount_25 (v := (1 : Int32)) (by decide) ?_
      refine zr_icmp_ne C 33 dX11_canCount_26 (by decide) (fun hc6 => ?_) (fun hc6 => ?_)
      · have hJ := zif' hc6 hJ
        refine zr_iconst C dX11_canCount_33 (v := (0 : Int32)) (by decide) ?_
        exact zr_zret C hret (zs_e hJ) rfl rfl rfl dX11_canCount_34
      · have hJ := zif hc6 hJ
        refine zr_iconst C dX11_canCount_29 (v := (1 : Int32)) (by decide) ?_
        refine zr_goto C 34 dX11_canCount_30 (by decide) ?_
        exact zr_zret C hret (zs_e hJ) rfl rfl rfl dX11_canCount_34
theorem dX11_count_0 : decode cX11_count 0 = .ok (.iload_n 1, 1) := by decide +kernel
theorem dX11_count_1 : decode cX11_count 1 = .ok (.i2l, 1) := by decide +kernel
theorem dX11_count_2 : decode cX11_count 2 = .ok (.ldc2_w 247, 3) := by decide +kernel
theorem dX11_count_5 : decode cX11_count 5 = .ok (.bipush 9, 2) := by decide +kernel
theorem dX11_count_7 : decode cX11_count 7 = .ok (.aload_n 0, 1) := by decide +kernel
theorem dX11_count_8 : decode cX11_count 8 = .ok (.getfield 67, 3) := by decide +kernel
theorem dX11_count_11 : decode cX11_count 11 = .ok (.iadd, 1) := by decide +kernel
theorem dX11_count_12 : decode cX11_count 12 = .ok (.i2l, 1) := by decide +kernel
theorem dX11_count_13 : decode cX11_count 13 = .ok (.invokestatic 124, 3) := by decide +kernel
theorem dX11_count_16 : decode cX11_count 16 = .ok (.ifCond .eq 13, 3) := by decide +kernel
theorem dX11_count_19 : decode cX11_count 19 = .ok (.aload_n 0, 1) := by decide +kernel
theorem dX11_count_20 : decode cX11_count 20 = .ok (.getfield 71, 3) := by decide +kernel
theorem dX11_count_23 : decode cX11_count 23 = .ok (.iload_n 1, 1) := by decide +kernel
theorem dX11_count_24 : decode cX11_count 24 = .ok (.bipush 10, 2) := by decide +kernel
theorem dX11_count_26 : decode cX11_count 26 = .ok (.isub, 1) := by decide +kernel
theorem dX11_count_27 : decode cX11_count 27 = .ok (.iaload, 1) := by decide +kernel
theorem dX11_count_28 : decode cX11_count 28 = .ok (.ireturn, 1) := by decide +kernel
theorem dX11_count_29 : decode cX11_count 29 = .ok (.iload_n 1, 1) := by decide +kernel
theorem dX11_count_30 : decode cX11_count 30 = .ok (.i2l, 1) := by decide +kernel
theorem dX11_count_31 : decode cX11_count 31 = .ok (.ldc2_w 371, 3) := by decide +kernel
theorem dX11_count_34 : decode cX11_count 34 = .ok (.bipush 19, 2) := by decide +kernel
theorem dX11_count_36 : decode cX11_count 36 = .ok (.aload_n 0, 1) := by decide +kernel
theorem dX11_count_37 : decode cX11_count 37 = .ok (.getfield 67, 3) := by decide +kernel
theorem dX11_count_40 : decode cX11_count 40 = .ok (.iadd, 1) := by decide +kernel
theorem dX11_count_41 : decode cX11_count 41 = .ok (.i2l, 1) := by decide +kernel
theorem dX11_count_42 : decode cX11_count 42 = .ok (.invokestatic 124, 3) := by decide +kernel
theorem dX11_count_45 : decode cX11_count 45 = .ok (.ifCond .eq 13, 3) := by decide +kernel
theorem dX11_count_48 : decode cX11_count 48 = .ok (.aload_n 0, 1) := by decide +kernel
theorem dX11_count_49 : decode cX11_count 49 = .ok (.getfield 74, 3) := by decide +kernel
theorem dX11_count_52 : decode cX11_count 52 = .ok (.iload_n 1, 1) := by decide +kernel
theorem dX11_count_53 : decode cX11_count 53 = .ok (.bipush 20, 2) := by decide +kernel
theorem dX11_count_55 : decode cX11_count 55 = .ok (.isub, 1) := by decide +kernel
theorem dX11_count_56 : decode cX11_count 56 = .ok (.iaload, 1) := by decide +kernel
theorem dX11_count_57 : decode cX11_count 57 = .ok (.ireturn, 1) := by decide +kernel
theorem dX11_count_58 : decode cX11_count 58 = .ok (.iload_n 1, 1) := by decide +kernel
theorem dX11_count_59 : decode cX11_count 59 = .ok (.tableswitch 85 0 5 #[37, 42, 47, 52, 57, 80], 37) := by decide +kernel
theorem dX11_count_96 : decode cX11_count 96 = .ok (.aload_n 0, 1) := by decide +kernel
theorem dX11_count_97 : decode cX11_count 97 = .ok (.getfield 203, 3) := by decide +kernel
theorem dX11_count_100 : decode cX11_count 100 = .ok (.ireturn, 1) := by decide +kernel
theorem dX11_count_101 : decode cX11_count 101 = .ok (.aload_n 0, 1) := by decide +kernel
theorem dX11_count_102 : decode cX11_count 102 = .ok (.getfield 67, 3) := by decide +kernel
theorem dX11_count_105 : decode cX11_count 105 = .ok (.ireturn, 1) := by decide +kernel
theorem dX11_count_106 : decode cX11_count 106 = .ok (.aload_n 0, 1) := by decide +kernel
theorem dX11_count_107 : decode cX11_count 107 = .ok (.getfield 222, 3) := by decide +kernel
theorem dX11_count_110 : decode cX11_count 110 = .ok (.ireturn, 1) := by decide +kernel
theorem dX11_count_111 : decode cX11_count 111 = .ok (.aload_n 0, 1) := by decide +kernel
theorem dX11_count_112 : decode cX11_count 112 = .ok (.getfield 119, 3) := by decide +kernel
theorem dX11_count_115 : decode cX11_count 115 = .ok (.ireturn, 1) := by decide +kernel
theorem dX11_count_116 : decode cX11_count 116 = .ok (.aload_n 0, 1) := by decide +kernel
theorem dX11_count_117 : decode cX11_count 117 = .ok (.getfield 99, 3) := by decide +kernel
theorem dX11_count_120 : decode cX11_count 120 = .ok (.iconst 0, 1) := by decide +kernel
theorem dX11_count_121 : decode cX11_count 121 = .ok (.iaload, 1) := by decide +kernel
theorem dX11_count_122 : decode cX11_count 122 = .ok (.bipush (-4), 2) := by decide +kernel
theorem dX11_count_124 : decode cX11_count 124 = .ok (.if_icmp .ne 8, 3) := by decide +kernel
theorem dX11_count_127 : decode cX11_count 127 = .ok (.bipush (-4), 2) := by decide +kernel
theorem dX11_count_129 : decode cX11_count 129 = .ok (.goto 9, 3) := by decide +kernel
theorem dX11_count_132 : decode cX11_count 132 = .ok (.aload_n 0, 1) := by decide +kernel
theorem dX11_count_133 : decode cX11_count 133 = .ok (.getfield 102, 3) := by decide +kernel
theorem dX11_count_136 : decode cX11_count 136 = .ok (.iconst 0, 1) := by decide +kernel
theorem dX11_count_137 : decode cX11_count 137 = .ok (.iaload, 1) := by decide +kernel
theorem dX11_count_138 : decode cX11_count 138 = .ok (.ireturn, 1) := by decide +kernel
theorem dX11_count_139 : decode cX11_count 139 = .ok (.aload_n 0, 1) := by decide +kernel
theorem dX11_count_140 : decode cX11_count 140 = .ok (.getfield 206, 3) := by decide +kernel
theorem dX11_count_143 : decode cX11_count 143 = .ok (.ireturn, 1) := by decide +kernel
theorem dX11_count_144 : decode cX11_count 144 = .ok (.iconst (-1), 1) := by decide +kernel
theorem dX11_count_145 : decode cX11_count 145 = .ok (.ireturn, 1) := by decide +kernel
set_option maxRecDepth 100000 in
set_option maxHeartbeats 4000000 in
theorem M_X11_count (G : zG) (l : Launch) {a1 : Int32} {σ : zS} {r : Int32} (hJ : J_X11_count a1 σ = some r) : zMI G l yX11_count cX11_count 2 (some .int) (zrm 1 25) [.ref (G.1 + 105), .int a1] 137 (zen G σ) r 137 (zen G σ) := by
  unfold J_X11_count at hJ
  refine zentI (by decide +kernel) (Nat.le_of_ble_eq_true rfl) ?_
  intro p e s m args below meth c C hret
  refine zr_sub [0, 1] [(0, .ref (G.1 + 105)), (1, .int a1)] rfl ?_
  refine zr_iload_n C 1 dX11_count_0 rfl ?_
  refine zr_i2l C dX11_count_1 ?_
  refine zr_ldc2 C dX11_count_2 zm_21_3 ?_
  refine zr_bipush C dX11_count_5 (v := (9 : Int32)) (by decide) ?_
  refine zr_aload_n C 0 dX11_count_7 rfl ?_
  refine zg_11_36 C 105 zk_105 zm_8_6 dX11_count_8 ?_
  refine zr_iadd C dX11_count_11 ?_
  refine zr_i2l C dX11_count_12 ?_
  obtain ⟨r1, hr1, hJ⟩ := zb_e hJ
  refine zr_callSI C (M_X11_in G l hr1) zin_X11_in zm_9_22 rfl rfl (Nat.le_of_ble_eq_true rfl) ⟨Nat.le_of_ble_eq_true rfl, Nat.le_of_ble_eq_true rfl⟩ ⟨Nat.le_of_ble_eq_true rfl, Nat.le_of_ble_eq_true rfl⟩ dX11_count_13 ?_
  refine zr_if_eq C 29 dX11_count_16 (by decide) (fun hc2 => ?_) (fun hc2 => ?_)
  · have hJ := zif hc2 hJ
    refine zr_iload_n C 1 dX11_count_29 rfl ?_
    refine zr_i2l C dX11_count_30 ?_
    refine zr_ldc2 C dX11_count_31 zm_49_9 ?_
    refine zr_bipush C dX11_count_34 (v := (19 : Int32)) (by decide) ?_
    refine zr_aload_n C 0 dX11_count_36 rfl ?_
    refine zg_11_36 C 105 zk_105 zm_8_6 dX11_count_37 ?_
    refine zr_iadd C dX11_count_40 ?_
    refine zr_i2l C dX11_count_41 ?_
    obtain ⟨r3, hr3, hJ⟩ := zb_e hJ
    refine zr_callSI C (M_X11_in G l hr3) zin_X11_in zm_9_22 rfl rfl (Nat.le_of_ble_eq_true rfl) ⟨Nat.le_of_ble_eq_true rfl, Nat.le_of_ble_eq_true rfl⟩ ⟨Nat.le_of_ble_eq_true rfl, Nat.le_of_ble_eq_true rfl⟩ dX11_count_42 ?_
    refine zr_if_eq C 58 dX11_count_45 (by decide) (fun hc4 => ?_) (fun hc4 => ?_)
    · have hJ := zif hc4 hJ
      refine zr_iload_n C 1 dX11_count_58 rfl ?_
      by_cases hs5 : a1 = (0 : Int32)
      · have hJ := zif hs5 hJ
        refine zr_tin C 96 dX11_count_59 (by rw [hs5]; decide) (by rw [hs5]; decide) (by rw [hs5]; rfl) (by decide) ?_
        refine zr_aload_n C 0 dX11_count_96 rfl ?_
        refine zg_11_0 C 105 zk_105 zm_16_22 dX11_count_97 ?_
        exact zr_iret C hret (zs_e hJ) rfl rfl dX11_count_100
      have hJ := zif' hs5 hJ
      by_cases hs6 : a1 = (1 : Int32)
      · have hJ := zif hs6 hJ
        refine zr_tin C 101 dX11_count_59 (by rw [hs6]; decide) (by rw [hs6]; decide) (by rw [hs6]; rfl) (by decide) ?_
        refine zr_aload_n C 0 dX11_count_101 rfl ?_
        refine zg_11_36 C 105 zk_105 zm_8_6 dX11_count_102 ?_
        exact zr_iret C hret (zs_e hJ) rfl rfl dX11_count_105
      have hJ := zif' hs6 hJ
      by_cases hs7 : a1 = (2 : Int32)
      · have hJ := zif hs7 hJ
        refine zr_tin C 106 dX11_count_59 (by rw [hs7]; decide) (by rw [hs7]; decide) (by rw [hs7]; rfl) (by decide) ?_
        refine zr_aload_n C 0 dX11_count_106 rfl ?_
        refine zg_11_49 C 105 zk_105 zm_19_13 dX11_count_107 ?_
        exact zr_iret C hret (zs_e hJ) rfl rfl dX11_count_110
      have hJ := zif' hs7 hJ
      by_cases hs8 : a1 = (3 : Int32)
      · have hJ := zif hs8 hJ
        refine zr_tin C 111 dX11_count_59 (by rw [hs8]; decide) (by rw [hs8]; decide) (by rw [hs8]; rfl) (by decide) ?_
        refine zr_aload_n C 0 dX11_count_111 rfl ?_
        refine zg_11_25 C 105 zk_105 zm_9_12 dX11_count_112 ?_
        exact zr_iret C hret (zs_e hJ) rfl rfl dX11_count_115
      have hJ := zif' hs8 hJ
      by_cases hs9 : a1 = (4 : Int32)
      · have hJ := zif hs9 hJ
        refine zr_tin C 116 dX11_count_59 (by rw [hs9]; decide) (by rw [hs9]; decide) (by rw [hs9]; rfl) (by decide) ?_
        refine zr_aload_n C 0 dX11_count_116 rfl ?_
        refine zg_11_53 C 105 zk_105 zm_8_16 dX11_count_117 ?_
        refine zr_iconst C dX11_count_120 (v := (0 : Int32)) (by decide) ?_
        obtain ⟨hg10, hJ⟩ := zg_e hJ
        refine zu_iald C 134 zk_134 hg10 dX11_count_121 ?_
        refine zr_bipush C dX11_count_122 (v := (-4 : Int32)) (by decide) ?_
        refine zr_icmp_ne C 132 dX11_count_124 (by decide) (fun hc11 => ?_) (fun hc11 => ?_)
        · have hJ := zif' hc11 hJ
          refine zr_aload_n C 0 dX11_count_132 rfl ?_
          refine zg_11_54 C 105 zk_105 zm_8_17 dX11_count_133 ?_
          refine zr_iconst C dX11_count_136 (v := (0 : Int32)) (by decide) ?_
          obtain ⟨hg12, hJ⟩ := zg_e hJ
          refine zu_iald C 135 zk_135 hg12 dX11_count_137 ?_
          exact zr_iret C hret (zs_e hJ) rfl rfl dX11_count_138
        · have hJ := zif hc11 hJ
          refine zr_bipush C dX11_count_127 (v := (-4 : Int32)) (by decide) ?_
          refine zr_goto C 138 dX11_count_129 (by decide) ?_
          exact zr_iret C hret (zs_e hJ) rfl rfl dX11_count_138
      have hJ := zif' hs9 hJ
      by_cases hs13 : a1 = (5 : Int32)
      · have hJ := zif hs13 hJ
        refine zr_tin C 139 dX11_count_59 (by rw [hs13]; decide) (by rw [hs13]; decide) (by rw [hs13]; rfl) (by decide) ?_
        refine zr_aload_n C 0 dX11_count_139 rfl ?_
        refine zg_11_4 C 105 zk_105 zm_19_10 dX11_count_140 ?_
        exact zr_iret C hret (zs_e hJ) rfl rfl dX11_count_143
      have hJ := zif' hs13 hJ
      refine zr_tout C 144 dX11_count_59 (by have ghs5 := lv_neT hs5 (show ((0 : Int32)).toInt = 0 by decide); have ghs6 := lv_neT hs6 (show ((1 : Int32)).toInt = 1 by decide); have ghs7 := lv_neT hs7 (show ((2 : Int32)).toInt = 2 by decide); have ghs8 := lv_neT hs8 (show ((3 : Int32)).toInt = 3 by decide); have ghs9 := lv_neT hs9 (show ((4 : Int32)).toInt = 4 by decide); have ghs13 := lv_neT hs13 (show ((5 : Int32)).toInt = 5 by decide); omega) (by decide) ?_
      refine zr_iconst C dX11_count_144 (v := (-1 : Int32)) (by decide) ?_
      exact zr_iret C hret (zs_e hJ) rfl rfl dX11_count_145
    · have hJ := zif' hc4 hJ
      refine zr_aload_n C 0 dX11_count_48 rfl ?_
      refine zg_11_38 C 105 zk_105 zm_8_8 dX11_count_49 ?_
      refine zr_iload_n C 1 dX11_count_52 rfl ?_
      refine zr_bipush C dX11_count_53 (v := (20 : Int32)) (by decide) ?_
      refine zr_isub C dX11_count_55 ?_
      obtain ⟨hg14, hJ⟩ := zg_e hJ
      refine zu_iald C 126 zk_126 hg14 dX11_count_56 ?_
      exact zr_iret C hret (zs_e hJ) rfl rfl dX11_count_57
  · have hJ := zif' hc2 hJ
    refine zr_aload_n C 0 dX11_count_19 rfl ?_
    refine zg_11_37 C 105 zk_105 zm_8_7 dX11_count_20 ?_
    refine zr_iload_n C 1 dX11_count_23 rfl ?_
    refine zr_bipush C dX11_count_24 (v := (10 : Int32)) (by decide) ?_
    refine zr_isub C dX11_count_26 ?_
    obtain ⟨hg15, hJ⟩ := zg_e hJ
    refine zu_iald C 125 zk_125 hg15 dX11_count_27 ?_
    exact zr_iret C hret (zs_e hJ) rfl rfl dX11_count_28
theorem dX11_countOf_0 : decode cX11_countOf 0 = .ok (.iconst 0, 1) := by decide +kernel
theorem dX11_countOf_1 : decode cX11_countOf 1 = .ok (.istore_n 1, 1) := by decide +kernel
theorem dX11_countOf_2 : decode cX11_countOf 2 = .ok (.iconst 0, 1) := by decide +kernel
theorem dX11_countOf_3 : decode cX11_countOf 3 = .ok (.istore_n 2, 1) := by decide +kernel
theorem dX11_countOf_4 : decode cX11_countOf 4 = .ok (.iload_n 2, 1) := by decide +kernel
theorem dX11_countOf_5 : decode cX11_countOf 5 = .ok (.bipush 16, 2) := by decide +kernel
theorem dX11_countOf_7 : decode cX11_countOf 7 = .ok (.if_icmp .ge 17, 3) := by decide +kernel
theorem dX11_countOf_10 : decode cX11_countOf 10 = .ok (.iload_n 1, 1) := by decide +kernel
theorem dX11_countOf_11 : decode cX11_countOf 11 = .ok (.iload_n 0, 1) := by decide +kernel
theorem dX11_countOf_12 : decode cX11_countOf 12 = .ok (.iload_n 2, 1) := by decide +kernel
theorem dX11_countOf_13 : decode cX11_countOf 13 = .ok (.ishr, 1) := by decide +kernel
theorem dX11_countOf_14 : decode cX11_countOf 14 = .ok (.iconst 1, 1) := by decide +kernel
theorem dX11_countOf_15 : decode cX11_countOf 15 = .ok (.iand, 1) := by decide +kernel
theorem dX11_countOf_16 : decode cX11_countOf 16 = .ok (.iadd, 1) := by decide +kernel
theorem dX11_countOf_17 : decode cX11_countOf 17 = .ok (.istore_n 1, 1) := by decide +kernel
theorem dX11_countOf_18 : decode cX11_countOf 18 = .ok (.iinc 2 1, 3) := by decide +kernel
theorem dX11_countOf_21 : decode cX11_countOf 21 = .ok (.goto (-17), 3) := by decide +kernel
theorem dX11_countOf_24 : decode cX11_countOf 24 = .ok (.iload_n 1, 1) := by decide +kernel
theorem dX11_countOf_25 : decode cX11_countOf 25 = .ok (.ireturn, 1) := by decide +kernel
set_option maxRecDepth 100000 in
set_option maxHeartbeats 4000000 in
theorem M_X11_countOf (G : zG) (l : Launch) {a0 : Int32} {σ : zS} {r : Int32} (hJ : J_X11_countOf a0 σ = some r) : zMI G l yX11_countOf cX11_countOf 3 (some .int) (zrm 0 0) [.int a0] 137 (zen G σ) r 137 (zen G σ) := by
  unfold J_X11_countOf at hJ
  refine zentI (by decide +kernel) (Nat.le_of_ble_eq_true rfl) ?_
  intro p e s m args below meth c C hret
  refine zr_sub [0] [(0, .int a0)] rfl ?_
  refine zr_iconst C dX11_countOf_0 (v := (0 : Int32)) (by decide) ?_
  refine zr_istore_n C [(1, .int (0 : Int32)), (0, .int a0)] dX11_countOf_1 (by decide) rfl ?_
  refine zr_iconst C dX11_countOf_2 (v := (0 : Int32)) (by decide) ?_
  refine zr_istore_n C [(2, .int (0 : Int32)), (1, .int (0 : Int32)), (0, .int a0)] dX11_countOf_3 (by decide) rfl ?_
  have hl4 : ∀ (n : Nat) (w1_4 : Int32) (w2_4 : Int32), L_X11_countOf_4 a0 n w1_4 w2_4 = some r → zU G 3 p l e (zrm 0 0) s m args below meth c (MQ below (va_Qi (fun x (_ : Unit) => x = r) (fun _ t => zok G 137 (zen G σ) t) (zA G)) args s 0 0 (zA G)) σ 4 [(0, .int a0), (1, .int w1_4), (2, .int w2_4)] [] := by
    intro n
    induction n with
    | zero =>
      intro w1_4 w2_4 hJ
      rw [L_X11_countOf_4] at hJ
      cases hJ
    | succ n ih =>
      intro w1_4 w2_4 hJ
      rw [L_X11_countOf_4] at hJ
      obtain ⟨r_4, hr_4, hJ⟩ := zlet_e hJ
      have ih4 : ∀ (w1_4 : Int32) (w2_4 : Int32), r_4 w1_4 w2_4 = some r → zU G 3 p l e (zrm 0 0) s m args below meth c (MQ below (va_Qi (fun x (_ : Unit) => x = r) (fun _ t => zok G 137 (zen G σ) t) (zA G)) args s 0 0 (zA G)) σ 4 [(0, .int a0), (1, .int w1_4), (2, .int w2_4)] [] := by
        rw [hr_4]
        exact ih
      refine zr_iload_n C 2 dX11_countOf_4 rfl ?_
      refine zr_bipush C dX11_countOf_5 (v := (16 : Int32)) (by decide) ?_
      refine zr_icmp_ge C 24 dX11_countOf_7 (by decide) (fun hc1 => ?_) (fun hc1 => ?_)
      · have hJ := zif hc1 hJ
        refine zr_iload_n C 1 dX11_countOf_24 rfl ?_
        exact zr_iret C hret (zs_e hJ) rfl rfl dX11_countOf_25
      · have hJ := zif' hc1 hJ
        refine zr_iload_n C 1 dX11_countOf_10 rfl ?_
        refine zr_iload_n C 0 dX11_countOf_11 rfl ?_
        refine zr_iload_n C 2 dX11_countOf_12 rfl ?_
        refine zr_ishr C dX11_countOf_13 ?_
        refine zr_iconst C dX11_countOf_14 (v := (1 : Int32)) (by decide) ?_
        refine zr_iand C dX11_countOf_15 ?_
        refine zr_iadd C dX11_countOf_16 ?_
        obtain ⟨v2, hv2, hJ⟩ := zlet_e hJ
        refine zr_topi hv2 ?_
        refine zr_istore_n C [(1, .int v2), (0, .int a0), (2, .int w2_4)] dX11_countOf_17 (by decide) rfl ?_
        obtain ⟨v3, hv3, hJ⟩ := zlet_e hJ
        refine zr_iinc C v3 2 [(2, .int v3), (1, .int v2), (0, .int a0)] dX11_countOf_18 rfl (hv3.trans (zinc (by decide))) (by decide) rfl ?_
        refine zr_goto C 4 dX11_countOf_21 (by decide) ?_
        refine zr_sub [2, 1, 0] [(0, .int a0), (1, .int v2), (2, .int v3)] rfl ?_
        exact ih4 _ _ hJ
  refine zr_sub [2, 1, 0] [(0, .int a0), (1, .int (0 : Int32)), (2, .int (0 : Int32))] rfl ?_
  exact hl4 _ _ _ hJ
theorem dX11_freshCounters_0 : decode cX11_freshCounters 0 = .ok (.iconst 0, 1) := by decide +kernel
theorem dX11_freshCounters_1 : decode cX11_freshCounters 1 = .ok (.istore_n 1, 1) := by decide +kernel
theorem dX11_freshCounters_2 : decode cX11_freshCounters 2 = .ok (.iload_n 1, 1) := by decide +kernel
theorem dX11_freshCounters_3 : decode cX11_freshCounters 3 = .ok (.iconst 4, 1) := by decide +kernel
theorem dX11_freshCounters_4 : decode cX11_freshCounters 4 = .ok (.if_icmp .ge 26, 3) := by decide +kernel
theorem dX11_freshCounters_7 : decode cX11_freshCounters 7 = .ok (.aload_n 0, 1) := by decide +kernel
theorem dX11_freshCounters_8 : decode cX11_freshCounters 8 = .ok (.getfield 71, 3) := by decide +kernel
theorem dX11_freshCounters_11 : decode cX11_freshCounters 11 = .ok (.iload_n 1, 1) := by decide +kernel
theorem dX11_freshCounters_12 : decode cX11_freshCounters 12 = .ok (.sipush 255, 3) := by decide +kernel
theorem dX11_freshCounters_15 : decode cX11_freshCounters 15 = .ok (.iastore, 1) := by decide +kernel
theorem dX11_freshCounters_16 : decode cX11_freshCounters 16 = .ok (.aload_n 0, 1) := by decide +kernel
theorem dX11_freshCounters_17 : decode cX11_freshCounters 17 = .ok (.getfield 74, 3) := by decide +kernel
theorem dX11_freshCounters_20 : decode cX11_freshCounters 20 = .ok (.iload_n 1, 1) := by decide +kernel
theorem dX11_freshCounters_21 : decode cX11_freshCounters 21 = .ok (.bipush 8, 2) := by decide +kernel
theorem dX11_freshCounters_23 : decode cX11_freshCounters 23 = .ok (.iastore, 1) := by decide +kernel
theorem dX11_freshCounters_24 : decode cX11_freshCounters 24 = .ok (.iinc 1 1, 3) := by decide +kernel
theorem dX11_freshCounters_27 : decode cX11_freshCounters 27 = .ok (.goto (-25), 3) := by decide +kernel
theorem dX11_freshCounters_30 : decode cX11_freshCounters 30 = .ok (.return_, 1) := by decide +kernel
set_option maxRecDepth 100000 in
set_option maxHeartbeats 4000000 in
theorem M_X11_freshCounters (G : zG) (l : Launch) {σ : zS} {σ' : zS} (hJ : J_X11_freshCounters σ = some σ') : zMV G l yX11_freshCounters cX11_freshCounters 2 none (zrm 0 0) [.ref (G.1 + 105)] 137 (zen G σ) 137 (zen G σ') := by
  unfold J_X11_freshCounters at hJ
  refine zentV (by decide +kernel) (Nat.le_of_ble_eq_true rfl) ?_
  intro p e s m args below meth c C hret
  refine zr_sub [0] [(0, .ref (G.1 + 105))] rfl ?_
  refine zr_iconst C dX11_freshCounters_0 (v := (0 : Int32)) (by decide) ?_
  refine zr_istore_n C [(1, .int (0 : Int32)), (0, .ref (G.1 + 105))] dX11_freshCounters_1 (by decide) rfl ?_
  have hl2 : ∀ (n : Nat) (w1_2 : Int32) (σ_2 : zS), L_X11_freshCounters_2 n w1_2 σ_2 = some σ' → zU G 2 p l e (zrm 0 0) s m args below meth c (MQ below (va_Qv (fun (_ : Unit) => True) (fun _ t => zok G 137 (zen G σ') t) (zA G)) args s 0 0 (zA G)) σ_2 2 [(0, .ref (G.1 + 105)), (1, .int w1_2)] [] := by
    intro n
    induction n with
    | zero =>
      intro w1_2 σ_2 hJ
      rw [L_X11_freshCounters_2] at hJ
      cases hJ
    | succ n ih =>
      intro w1_2 σ_2 hJ
      rw [L_X11_freshCounters_2] at hJ
      obtain ⟨r_2, hr_2, hJ⟩ := zlet_e hJ
      have ih2 : ∀ (w1_2 : Int32) (σ_2 : zS), r_2 w1_2 σ_2 = some σ' → zU G 2 p l e (zrm 0 0) s m args below meth c (MQ below (va_Qv (fun (_ : Unit) => True) (fun _ t => zok G 137 (zen G σ') t) (zA G)) args s 0 0 (zA G)) σ_2 2 [(0, .ref (G.1 + 105)), (1, .int w1_2)] [] := by
        rw [hr_2]
        exact ih
      refine zr_iload_n C 1 dX11_freshCounters_2 rfl ?_
      refine zr_iconst C dX11_freshCounters_3 (v := (4 : Int32)) (by decide) ?_
      refine zr_icmp_ge C 30 dX11_freshCounters_4 (by decide) (fun hc1 => ?_) (fun hc1 => ?_)
      · have hJ := zif hc1 hJ
        exact zr_vret C hret rfl (congrArg (zen G) (zs_e hJ)) dX11_freshCounters_30
      · have hJ := zif' hc1 hJ
        refine zr_aload_n C 0 dX11_freshCounters_7 rfl ?_
        refine zg_11_37 C 105 zk_105 zm_8_7 dX11_freshCounters_8 ?_
        refine zr_iload_n C 1 dX11_freshCounters_11 rfl ?_
        refine zr_sipush C dX11_freshCounters_12 (v := (255 : Int32)) (by decide) ?_
        obtain ⟨hg2, hJ⟩ := zg_e hJ
        obtain ⟨σ3, hσ3, hJ⟩ := zlet_e hJ
        refine zv_iast C 125 zk_125 hg2 hσ3 dX11_freshCounters_15 ?_
        refine zr_aload_n C 0 dX11_freshCounters_16 rfl ?_
        refine zg_11_38 C 105 zk_105 zm_8_8 dX11_freshCounters_17 ?_
        refine zr_iload_n C 1 dX11_freshCounters_20 rfl ?_
        refine zr_bipush C dX11_freshCounters_21 (v := (8 : Int32)) (by decide) ?_
        obtain ⟨hg4, hJ⟩ := zg_e hJ
        obtain ⟨σ5, hσ5, hJ⟩ := zlet_e hJ
        refine zv_iast C 126 zk_126 hg4 hσ5 dX11_freshCounters_23 ?_
        obtain ⟨v6, hv6, hJ⟩ := zlet_e hJ
        refine zr_iinc C v6 1 [(1, .int v6), (0, .ref (G.1 + 105))] dX11_freshCounters_24 rfl (hv6.trans (zinc (by decide))) (by decide) rfl ?_
        refine zr_goto C 2 dX11_freshCounters_27 (by decide) ?_
        refine zr_sub [1, 0] [(0, .ref (G.1 + 105)), (1, .int v6)] rfl ?_
        exact ih2 _ _ hJ
  refine zr_sub [1, 0] [(0, .ref (G.1 + 105)), (1, .int (0 : Int32))] rfl ?_
  exact hl2 _ _ _ hJ
theorem dX11_counters_0 : decode cX11_counters 0 = .ok (.iload_n 1, 1) := by decide +kernel
theorem dX11_counters_1 : decode cX11_counters 1 = .ok (.i2l, 1) := by decide +kernel
theorem dX11_counters_2 : decode cX11_counters 2 = .ok (.lconst 1, 1) := by decide +kernel
theorem dX11_counters_3 : decode cX11_counters 3 = .ok (.ldc2_w 267, 3) := by decide +kernel
theorem dX11_counters_6 : decode cX11_counters 6 = .ok (.invokestatic 124, 3) := by decide +kernel
theorem dX11_counters_9 : decode cX11_counters 9 = .ok (.ifCond .ne 5, 3) := by decide +kernel
theorem dX11_counters_12 : decode cX11_counters 12 = .ok (.iconst (-1), 1) := by decide +kernel
theorem dX11_counters_13 : decode cX11_counters 13 = .ok (.ireturn, 1) := by decide +kernel
theorem dX11_counters_14 : decode cX11_counters 14 = .ok (.aload_n 0, 1) := by decide +kernel
theorem dX11_counters_15 : decode cX11_counters 15 = .ok (.getfield 67, 3) := by decide +kernel
theorem dX11_counters_18 : decode cX11_counters 18 = .ok (.istore_n 2, 1) := by decide +kernel
theorem dX11_counters_19 : decode cX11_counters 19 = .ok (.aload_n 0, 1) := by decide +kernel
theorem dX11_counters_20 : decode cX11_counters 20 = .ok (.iload_n 1, 1) := by decide +kernel
theorem dX11_counters_21 : decode cX11_counters 21 = .ok (.putfield 67, 3) := by decide +kernel
theorem dX11_counters_24 : decode cX11_counters 24 = .ok (.aload_n 0, 1) := by decide +kernel
theorem dX11_counters_25 : decode cX11_counters 25 = .ok (.invokevirtual 108, 3) := by decide +kernel
theorem dX11_counters_28 : decode cX11_counters 28 = .ok (.aload_n 0, 1) := by decide +kernel
theorem dX11_counters_29 : decode cX11_counters 29 = .ok (.iconst 0, 1) := by decide +kernel
theorem dX11_counters_30 : decode cX11_counters 30 = .ok (.putfield 222, 3) := by decide +kernel
theorem dX11_counters_33 : decode cX11_counters 33 = .ok (.iload_n 2, 1) := by decide +kernel
theorem dX11_counters_34 : decode cX11_counters 34 = .ok (.ireturn, 1) := by decide +kernel
set_option maxRecDepth 100000 in
set_option maxHeartbeats 4000000 in
theorem M_X11_counters (G : zG) (l : Launch) {a1 : Int32} {σ : zS} {r : Int32} {σ' : zS} (hJ : J_X11_counters a1 σ = some (r, σ')) : zMI G l yX11_counters cX11_counters 3 (some .int) (zrm 1 25) [.ref (G.1 + 105), .int a1] 137 (zen G σ) r 137 (zen G σ') := by
  unfold J_X11_counters at hJ
  refine zentI (by decide +kernel) (Nat.le_of_ble_eq_true rfl) ?_
  intro p e s m args below meth c C hret
  refine zr_sub [0, 1] [(0, .ref (G.1 + 105)), (1, .int a1)] rfl ?_
  refine zr_iload_n C 1 dX11_counters_0 rfl ?_
  refine zr_i2l C dX11_counters_1 ?_
  refine zr_lconst C dX11_counters_2 (v := (1 : Int64)) (by decide) ?_
  refine zr_ldc2 C dX11_counters_3 zm_25_11 ?_
  obtain ⟨r1, hr1, hJ⟩ := zb_e hJ
  refine zr_callSI C (M_X11_in G l hr1) zin_X11_in zm_9_22 rfl rfl (Nat.le_of_ble_eq_true rfl) ⟨Nat.le_of_ble_eq_true rfl, Nat.le_of_ble_eq_true rfl⟩ ⟨Nat.le_of_ble_eq_true rfl, Nat.le_of_ble_eq_true rfl⟩ dX11_counters_6 ?_
  refine zr_if_ne C 14 dX11_counters_9 (by decide) (fun hc2 => ?_) (fun hc2 => ?_)
  · have hJ := zif' hc2 hJ
    refine zr_aload_n C 0 dX11_counters_14 rfl ?_
    refine zg_11_36 C 105 zk_105 zm_8_6 dX11_counters_15 ?_
    obtain ⟨v3, hv3, hJ⟩ := zlet_e hJ
    refine zr_topi hv3 ?_
    refine zr_istore_n C [(2, .int v3), (0, .ref (G.1 + 105)), (1, .int a1)] dX11_counters_18 (by decide) rfl ?_
    refine zr_aload_n C 1 dX11_counters_19 rfl ?_
    refine zr_iload_n C 2 dX11_counters_20 rfl ?_
    obtain ⟨σ4, hσ4, hJ⟩ := zlet_e hJ
    refine zp_11_36 C 105 zk_105 zm_8_6 hσ4 dX11_counters_21 ?_
    refine zr_aload_n C 1 dX11_counters_24 rfl ?_
    obtain ⟨σ6, hr5, hJ⟩ := zb_e hJ
    refine zr_callVV C 105 (zk_lt zk_105 (by decide)) (zen_obj zk_105) (rfl : zcl[11]? = some (RX11, TX11, 56)) (M_X11_freshCounters G l hr5) zin_X11_freshCounters zm_8_19 rfl rfl (Nat.le_of_ble_eq_true rfl) ⟨Nat.le_of_ble_eq_true rfl, Nat.le_of_ble_eq_true rfl⟩ ⟨Nat.le_of_ble_eq_true rfl, Nat.le_of_ble_eq_true rfl⟩ dX11_counters_25 ?_
    refine zr_aload_n C 1 dX11_counters_28 rfl ?_
    refine zr_iconst C dX11_counters_29 (v := (0 : Int32)) (by decide) ?_
    obtain ⟨σ7, hσ7, hJ⟩ := zlet_e hJ
    refine zp_11_49 C 105 zk_105 zm_19_13 hσ7 dX11_counters_30 ?_
    refine zr_iload_n C 0 dX11_counters_33 rfl ?_
    exact zr_iret C hret (Prod.mk.inj (zs_e hJ)).1 rfl (congrArg (zen G) (Prod.mk.inj (zs_e hJ)).2) dX11_counters_34
  · have hJ := zif hc2 hJ
    refine zr_iconst C dX11_counters_12 (v := (-1 : Int32)) (by decide) ?_
    exact zr_iret C hret (Prod.mk.inj (zs_e hJ)).1 rfl (congrArg (zen G) (Prod.mk.inj (zs_e hJ)).2) dX11_counters_13
theorem dX11_countsIn_0 : decode cX11_countsIn 0 = .ok (.iconst 0, 1) := by decide +kernel
theorem dX11_countsIn_1 : decode cX11_countsIn 1 = .ok (.istore_n 3, 1) := by decide +kernel
theorem dX11_countsIn_2 : decode cX11_countsIn 2 = .ok (.aload_n 0, 1) := by decide +kernel
theorem dX11_countsIn_3 : decode cX11_countsIn 3 = .ok (.getfield 84, 3) := by decide +kernel
theorem dX11_countsIn_6 : decode cX11_countsIn 6 = .ok (.iload_n 3, 1) := by decide +kernel
theorem dX11_countsIn_7 : decode cX11_countsIn 7 = .ok (.iaload, 1) := by decide +kernel
theorem dX11_countsIn_8 : decode cX11_countsIn 8 = .ok (.iload_n 2, 1) := by decide +kernel
theorem dX11_countsIn_9 : decode cX11_countsIn 9 = .ok (.ishr, 1) := by decide +kernel
theorem dX11_countsIn_10 : decode cX11_countsIn 10 = .ok (.iconst 1, 1) := by decide +kernel
theorem dX11_countsIn_11 : decode cX11_countsIn 11 = .ok (.iand, 1) := by decide +kernel
theorem dX11_countsIn_12 : decode cX11_countsIn 12 = .ok (.ifCond .ne 9, 3) := by decide +kernel
theorem dX11_countsIn_15 : decode cX11_countsIn 15 = .ok (.iinc 3 1, 3) := by decide +kernel
theorem dX11_countsIn_18 : decode cX11_countsIn 18 = .ok (.goto (-16), 3) := by decide +kernel
theorem dX11_countsIn_21 : decode cX11_countsIn 21 = .ok (.aload_n 0, 1) := by decide +kernel
theorem dX11_countsIn_22 : decode cX11_countsIn 22 = .ok (.lconst 0, 1) := by decide +kernel
theorem dX11_countsIn_23 : decode cX11_countsIn 23 = .ok (.putfield 303, 3) := by decide +kernel
theorem dX11_countsIn_26 : decode cX11_countsIn 26 = .ok (.aload_n 0, 1) := by decide +kernel
theorem dX11_countsIn_27 : decode cX11_countsIn 27 = .ok (.lconst 0, 1) := by decide +kernel
theorem dX11_countsIn_28 : decode cX11_countsIn 28 = .ok (.putfield 307, 3) := by decide +kernel
theorem dX11_countsIn_31 : decode cX11_countsIn 31 = .ok (.iconst 0, 1) := by decide +kernel
theorem dX11_countsIn_32 : decode cX11_countsIn 32 = .ok (.istore 4, 2) := by decide +kernel
theorem dX11_countsIn_34 : decode cX11_countsIn 34 = .ok (.iconst 0, 1) := by decide +kernel
theorem dX11_countsIn_35 : decode cX11_countsIn 35 = .ok (.istore 5, 2) := by decide +kernel
theorem dX11_countsIn_37 : decode cX11_countsIn 37 = .ok (.iload 5, 2) := by decide +kernel
theorem dX11_countsIn_39 : decode cX11_countsIn 39 = .ok (.aload_n 0, 1) := by decide +kernel
theorem dX11_countsIn_40 : decode cX11_countsIn 40 = .ok (.getfield 225, 3) := by decide +kernel
theorem dX11_countsIn_43 : decode cX11_countsIn 43 = .ok (.if_icmp .ge 83, 3) := by decide +kernel
theorem dX11_countsIn_46 : decode cX11_countsIn 46 = .ok (.iload 4, 2) := by decide +kernel
theorem dX11_countsIn_48 : decode cX11_countsIn 48 = .ok (.iload_n 1, 1) := by decide +kernel
theorem dX11_countsIn_49 : decode cX11_countsIn 49 = .ok (.idiv, 1) := by decide +kernel
theorem dX11_countsIn_50 : decode cX11_countsIn 50 = .ok (.aload_n 0, 1) := by decide +kernel
theorem dX11_countsIn_51 : decode cX11_countsIn 51 = .ok (.getfield 292, 3) := by decide +kernel
theorem dX11_countsIn_54 : decode cX11_countsIn 54 = .ok (.irem, 1) := by decide +kernel
theorem dX11_countsIn_55 : decode cX11_countsIn 55 = .ok (.iload_n 3, 1) := by decide +kernel
theorem dX11_countsIn_56 : decode cX11_countsIn 56 = .ok (.if_icmp .ne 47, 3) := by decide +kernel
theorem dX11_countsIn_59 : decode cX11_countsIn 59 = .ok (.aload_n 0, 1) := by decide +kernel
theorem dX11_countsIn_60 : decode cX11_countsIn 60 = .ok (.dup, 1) := by decide +kernel
theorem dX11_countsIn_61 : decode cX11_countsIn 61 = .ok (.getfield 303, 3) := by decide +kernel
theorem dX11_countsIn_64 : decode cX11_countsIn 64 = .ok (.aload_n 0, 1) := by decide +kernel
theorem dX11_countsIn_65 : decode cX11_countsIn 65 = .ok (.aload_n 0, 1) := by decide +kernel
theorem dX11_countsIn_66 : decode cX11_countsIn 66 = .ok (.getfield 25, 3) := by decide +kernel
theorem dX11_countsIn_69 : decode cX11_countsIn 69 = .ok (.iload 5, 2) := by decide +kernel
theorem dX11_countsIn_71 : decode cX11_countsIn 71 = .ok (.iaload, 1) := by decide +kernel
theorem dX11_countsIn_72 : decode cX11_countsIn 72 = .ok (.iload_n 2, 1) := by decide +kernel
theorem dX11_countsIn_73 : decode cX11_countsIn 73 = .ok (.invokevirtual 251, 3) := by decide +kernel
theorem dX11_countsIn_76 : decode cX11_countsIn 76 = .ok (.i2l, 1) := by decide +kernel
theorem dX11_countsIn_77 : decode cX11_countsIn 77 = .ok (.ladd, 1) := by decide +kernel
theorem dX11_countsIn_78 : decode cX11_countsIn 78 = .ok (.putfield 303, 3) := by decide +kernel
theorem dX11_countsIn_81 : decode cX11_countsIn 81 = .ok (.aload_n 0, 1) := by decide +kernel
theorem dX11_countsIn_82 : decode cX11_countsIn 82 = .ok (.dup, 1) := by decide +kernel
theorem dX11_countsIn_83 : decode cX11_countsIn 83 = .ok (.getfield 307, 3) := by decide +kernel
theorem dX11_countsIn_86 : decode cX11_countsIn 86 = .ok (.aload_n 0, 1) := by decide +kernel
theorem dX11_countsIn_87 : decode cX11_countsIn 87 = .ok (.getfield 7, 3) := by decide +kernel
theorem dX11_countsIn_90 : decode cX11_countsIn 90 = .ok (.aload_n 0, 1) := by decide +kernel
theorem dX11_countsIn_91 : decode cX11_countsIn 91 = .ok (.getfield 25, 3) := by decide +kernel
theorem dX11_countsIn_94 : decode cX11_countsIn 94 = .ok (.iload 5, 2) := by decide +kernel
theorem dX11_countsIn_96 : decode cX11_countsIn 96 = .ok (.iaload, 1) := by decide +kernel
theorem dX11_countsIn_97 : decode cX11_countsIn 97 = .ok (.iaload, 1) := by decide +kernel
theorem dX11_countsIn_98 : decode cX11_countsIn 98 = .ok (.i2l, 1) := by decide +kernel
theorem dX11_countsIn_99 : decode cX11_countsIn 99 = .ok (.ladd, 1) := by decide +kernel
theorem dX11_countsIn_100 : decode cX11_countsIn 100 = .ok (.putfield 307, 3) := by decide +kernel
theorem dX11_countsIn_103 : decode cX11_countsIn 103 = .ok (.iload 4, 2) := by decide +kernel
theorem dX11_countsIn_105 : decode cX11_countsIn 105 = .ok (.aload_n 0, 1) := by decide +kernel
theorem dX11_countsIn_106 : decode cX11_countsIn 106 = .ok (.getfield 7, 3) := by decide +kernel
theorem dX11_countsIn_109 : decode cX11_countsIn 109 = .ok (.aload_n 0, 1) := by decide +kernel
theorem dX11_countsIn_110 : decode cX11_countsIn 110 = .ok (.getfield 25, 3) := by decide +kernel
theorem dX11_countsIn_113 : decode cX11_countsIn 113 = .ok (.iload 5, 2) := by decide +kernel
theorem dX11_countsIn_115 : decode cX11_countsIn 115 = .ok (.iaload, 1) := by decide +kernel
theorem dX11_countsIn_116 : decode cX11_countsIn 116 = .ok (.iaload, 1) := by decide +kernel
theorem dX11_countsIn_117 : decode cX11_countsIn 117 = .ok (.iadd, 1) := by decide +kernel
theorem dX11_countsIn_118 : decode cX11_countsIn 118 = .ok (.istore 4, 2) := by decide +kernel
theorem dX11_countsIn_120 : decode cX11_countsIn 120 = .ok (.iinc 5 1, 3) := by decide +kernel
theorem dX11_countsIn_123 : decode cX11_countsIn 123 = .ok (.goto (-86), 3) := by decide +kernel
theorem dX11_countsIn_126 : decode cX11_countsIn 126 = .ok (.return_, 1) := by decide +kernel
set_option maxRecDepth 100000 in
set_option maxHeartbeats 4000000 in
theorem M_X11_countsIn (G : zG) (l : Launch) {a1 : Int32} {a2 : Int32} {σ : zS} {σ' : zS} (hJ : J_X11_countsIn a1 a2 σ = some σ') : zMV G l yX11_countsIn cX11_countsIn 6 none (zrm 1 22) [.ref (G.1 + 105), .int a1, .int a2] 137 (zen G σ) 137 (zen G σ') := by
  unfold J_X11_countsIn at hJ
  refine zentV (by decide +kernel) (Nat.le_of_ble_eq_true rfl) ?_
  intro p e s m args below meth c C hret
  refine zr_sub [0, 1, 2] [(0, .ref (G.1 + 105)), (1, .int a1), (2, .int a2)] rfl ?_
  refine zr_iconst C dX11_countsIn_0 (v := (0 : Int32)) (by decide) ?_
  refine zr_istore_n C [(3, .int (0 : Int32)), (0, .ref (G.1 + 105)), (1, .int a1), (2, .int a2)] dX11_countsIn_1 (by decide) rfl ?_
  obtain ⟨k21, hk21, hJ⟩ := zlet_e hJ
  have hj21 : ∀ (w3_21 : Int32), k21 w3_21 = some σ' → zU G 6 p l e (zrm 1 22) s m args below meth c (MQ below (va_Qv (fun (_ : Unit) => True) (fun _ t => zok G 137 (zen G σ') t) (zA G)) args s 0 0 (zA G)) σ 21 [(0, .ref (G.1 + 105)), (1, .int a1), (2, .int a2), (3, .int w3_21)] [] := by
    intro w3_21 hJ
    rw [hk21] at hJ
    unfold D_X11_countsIn_21 at hJ
    refine zr_aload_n C 0 dX11_countsIn_21 rfl ?_
    refine zr_lconst C dX11_countsIn_22 (v := (0 : Int64)) (by decide) ?_
    obtain ⟨σ1, hσ1, hJ⟩ := zlet_e hJ
    refine zp_11_43 C 105 zk_105 zm_35_4 hσ1 dX11_countsIn_23 ?_
    refine zr_aload_n C 0 dX11_countsIn_26 rfl ?_
    refine zr_lconst C dX11_countsIn_27 (v := (0 : Int64)) (by decide) ?_
    obtain ⟨σ2, hσ2, hJ⟩ := zlet_e hJ
    refine zp_11_44 C 105 zk_105 zm_35_5 hσ2 dX11_countsIn_28 ?_
    refine zr_iconst C dX11_countsIn_31 (v := (0 : Int32)) (by decide) ?_
    refine zr_istore C [(4, .int (0 : Int32)), (0, .ref (G.1 + 105)), (1, .int a1), (2, .int a2), (3, .int w3_21)] dX11_countsIn_32 (by decide) rfl ?_
    refine zr_iconst C dX11_countsIn_34 (v := (0 : Int32)) (by decide) ?_
    refine zr_istore C [(5, .int (0 : Int32)), (4, .int (0 : Int32)), (0, .ref (G.1 + 105)), (1, .int a1), (2, .int a2), (3, .int w3_21)] dX11_countsIn_35 (by decide) rfl ?_
    have hl37 : ∀ (n : Nat) (w4_37 : Int32) (w5_37 : Int32) (σ_37 : zS), L_X11_countsIn_37 a1 a2 w3_21 n w4_37 w5_37 σ_37 = some σ' → zU G 6 p l e (zrm 1 22) s m args below meth c (MQ below (va_Qv (fun (_ : Unit) => True) (fun _ t => zok G 137 (zen G σ') t) (zA G)) args s 0 0 (zA G)) σ_37 37 [(0, .ref (G.1 + 105)), (1, .int a1), (2, .int a2), (3, .int w3_21), (4, .int w4_37), (5, .int w5_37)] [] := by
      intro n
      induction n with
      | zero =>
        intro w4_37 w5_37 σ_37 hJ
        rw [L_X11_countsIn_37] at hJ
        cases hJ
      | succ n ih =>
        intro w4_37 w5_37 σ_37 hJ
        rw [L_X11_countsIn_37] at hJ
        obtain ⟨r_37, hr_37, hJ⟩ := zlet_e hJ
        have ih37 : ∀ (w4_37 : Int32) (w5_37 : Int32) (σ_37 : zS), r_37 w4_37 w5_37 σ_37 = some σ' → zU G 6 p l e (zrm 1 22) s m args below meth c (MQ below (va_Qv (fun (_ : Unit) => True) (fun _ t => zok G 137 (zen G σ') t) (zA G)) args s 0 0 (zA G)) σ_37 37 [(0, .ref (G.1 + 105)), (1, .int a1), (2, .int a2), (3, .int w3_21), (4, .int w4_37), (5, .int w5_37)] [] := by
          rw [hr_37]
          exact ih
        refine zr_iload C 5 dX11_countsIn_37 rfl ?_
        refine zr_aload_n C 0 dX11_countsIn_39 rfl ?_
        refine zg_11_7 C 105 zk_105 zm_19_18 dX11_countsIn_40 ?_
        refine zr_icmp_ge C 126 dX11_countsIn_43 (by decide) (fun hc3 => ?_) (fun hc3 => ?_)
        · have hJ := zif hc3 hJ
          exact zr_vret C hret rfl (congrArg (zen G) (zs_e hJ)) dX11_countsIn_126
        · have hJ := zif' hc3 hJ
          refine zr_iload C 4 dX11_countsIn_46 rfl ?_
          refine zr_iload_n C 1 dX11_countsIn_48 rfl ?_
          obtain ⟨hn4, hJ⟩ := zn_e hJ
          refine zr_idiv C dX11_countsIn_49 hn4 ?_
          refine zr_aload_n C 0 dX11_countsIn_50 rfl ?_
          refine zg_11_41 C 105 zk_105 zm_33_17 dX11_countsIn_51 ?_
          obtain ⟨v5, hv5, hJ⟩ := zlet_e hJ
          refine zr_steq [.int (σ_37.1 105 41), .int v5] (by rw [hv5]) ?_
          obtain ⟨v6, hv6, hJ⟩ := zlet_e hJ
          refine zr_topi hv6 ?_
          obtain ⟨hn7, hJ⟩ := zn_e hJ
          refine zr_irem C dX11_countsIn_54 hn7 ?_
          refine zr_iload_n C 3 dX11_countsIn_55 rfl ?_
          obtain ⟨k103, hk103, hJ⟩ := zlet_e hJ
          have hj103 : ∀ (σ_103 : zS), k103 σ_103 = some σ' → zU G 6 p l e (zrm 1 22) s m args below meth c (MQ below (va_Qv (fun (_ : Unit) => True) (fun _ t => zok G 137 (zen G σ') t) (zA G)) args s 0 0 (zA G)) σ_103 103 [(0, .ref (G.1 + 105)), (1, .int a1), (2, .int a2), (3, .int w3_21), (4, .int w4_37), (5, .int w5_37)] [] := by
            intro σ_103 hJ
            rw [hk103] at hJ
            unfold D_X11_countsIn_103 at hJ
            refine zr_iload C 4 dX11_countsIn_103 rfl ?_
            refine zr_aload_n C 0 dX11_countsIn_105 rfl ?_
            refine zg_11_1 C 105 zk_105 zm_7_11 dX11_countsIn_106 ?_
            refine zr_aload_n C 0 dX11_countsIn_109 rfl ?_
            refine zg_11_8 C 105 zk_105 zm_7_16 dX11_countsIn_110 ?_
            refine zr_iload C 5 dX11_countsIn_113 rfl ?_
            obtain ⟨hg8, hJ⟩ := zg_e hJ
            refine zu_iald C 111 zk_111 hg8 dX11_countsIn_115 ?_
            obtain ⟨hg9, hJ⟩ := zg_e hJ
            refine zu_iald C 106 zk_106 hg9 dX11_countsIn_116 ?_
            refine zr_iadd C dX11_countsIn_117 ?_
            obtain ⟨v10, hv10, hJ⟩ := zlet_e hJ
            refine zr_topi hv10 ?_
            refine zr_istore C [(4, .int v10), (0, .ref (G.1 + 105)), (1, .int a1), (2, .int a2), (3, .int w3_21), (5, .int w5_37)] dX11_countsIn_118 (by decide) rfl ?_
            obtain ⟨v11, hv11, hJ⟩ := zlet_e hJ
            refine zr_iinc C v11 5 [(5, .int v11), (4, .int v10), (0, .ref (G.1 + 105)), (1, .int a1), (2, .int a2), (3, .int w3_21)] dX11_countsIn_120 rfl (hv11.trans (zinc (by decide))) (by decide) rfl ?_
            refine zr_goto C 37 dX11_countsIn_123 (by decide) ?_
            refine zr_sub [2, 3, 4, 5, 1, 0] [(0, .ref (G.1 + 105)), (1, .int a1), (2, .int a2), (3, .int w3_21), (4, .int v10), (5, .int v11)] rfl ?_
            exact ih37 _ _ _ hJ
          refine zr_icmp_ne C 103 dX11_countsIn_56 (by decide) (fun hc12 => ?_) (fun hc12 => ?_)
          · have hJ := zif' hc12 hJ
            exact hj103 _ hJ
          · have hJ := zif hc12 hJ
            refine zr_aload_n C 0 dX11_countsIn_59 rfl ?_
            refine zr_dup C dX11_countsIn_60 rfl ?_
            refine zg_11_43 C 105 zk_105 zm_35_4 dX11_countsIn_61 ?_
            refine zr_aload_n C 0 dX11_countsIn_64 rfl ?_
            refine zr_aload_n C 0 dX11_countsIn_65 rfl ?_
            refine zg_11_8 C 105 zk_105 zm_7_16 dX11_countsIn_66 ?_
            refine zr_iload C 5 dX11_countsIn_69 rfl ?_
            obtain ⟨hg13, hJ⟩ := zg_e hJ
            refine zu_iald C 111 zk_111 hg13 dX11_countsIn_71 ?_
            refine zr_iload_n C 2 dX11_countsIn_72 rfl ?_
            obtain ⟨r14, hr14, hJ⟩ := zb_e hJ
            refine zr_callVI C 105 (zk_lt zk_105 (by decide)) (zen_obj zk_105) (rfl : zcl[11]? = some (RX11, TX11, 56)) (M_X11_made G l hr14) zin_X11_made zm_21_9 rfl rfl (Nat.le_of_ble_eq_true rfl) ⟨Nat.le_of_ble_eq_true rfl, Nat.le_of_ble_eq_true rfl⟩ ⟨Nat.le_of_ble_eq_true rfl, Nat.le_of_ble_eq_true rfl⟩ dX11_countsIn_73 ?_
            refine zr_i2l C dX11_countsIn_76 ?_
            refine zr_ladd C dX11_countsIn_77 ?_
            obtain ⟨σ15, hσ15, hJ⟩ := zlet_e hJ
            refine zp_11_43 C 105 zk_105 zm_35_4 hσ15 dX11_countsIn_78 ?_
            refine zr_aload_n C 0 dX11_countsIn_81 rfl ?_
            refine zr_dup C dX11_countsIn_82 rfl ?_
            refine zg_11_44 C 105 zk_105 zm_35_5 dX11_countsIn_83 ?_
            refine zr_aload_n C 0 dX11_countsIn_86 rfl ?_
            refine zg_11_1 C 105 zk_105 zm_7_11 dX11_countsIn_87 ?_
            refine zr_aload_n C 0 dX11_countsIn_90 rfl ?_
            refine zg_11_8 C 105 zk_105 zm_7_16 dX11_countsIn_91 ?_
            refine zr_iload C 5 dX11_countsIn_94 rfl ?_
            obtain ⟨hg16, hJ⟩ := zg_e hJ
            refine zu_iald C 111 zk_111 hg16 dX11_countsIn_96 ?_
            obtain ⟨hg17, hJ⟩ := zg_e hJ
            refine zu_iald C 106 zk_106 hg17 dX11_countsIn_97 ?_
            refine zr_i2l C dX11_countsIn_98 ?_
            refine zr_ladd C dX11_countsIn_99 ?_
            obtain ⟨σ18, hσ18, hJ⟩ := zlet_e hJ
            refine zp_11_44 C 105 zk_105 zm_35_5 hσ18 dX11_countsIn_100 ?_
            exact hj103 _ hJ
    refine zr_sub [2, 3, 4, 5, 1, 0] [(0, .ref (G.1 + 105)), (1, .int a1), (2, .int a2), (3, .int w3_21), (4, .int (0 : Int32)), (5, .int (0 : Int32))] rfl ?_
    exact hl37 _ _ _ _ hJ
  have hl2 : ∀ (n : Nat) (w3_2 : Int32), L_X11_countsIn_2 a2 σ k21 n w3_2 = some σ' → zU G 6 p l e (zrm 1 22) s m args below meth c (MQ below (va_Qv (fun (_ : Unit) => True) (fun _ t => zok G 137 (zen G σ') t) (zA G)) args s 0 0 (zA G)) σ 2 [(0, .ref (G.1 + 105)), (1, .int a1), (2, .int a2), (3, .int w3_2)] [] := by
    intro n
    induction n with
    | zero =>
      intro w3_2 hJ
      rw [L_X11_countsIn_2] at hJ
      cases hJ
    | succ n ih =>
      intro w3_2 hJ
      rw [L_X11_countsIn_2] at hJ
      obtain ⟨r_2, hr_2, hJ⟩ := zlet_e hJ
      have ih2 : ∀ (w3_2 : Int32), r_2 w3_2 = some σ' → zU G 6 p l e (zrm 1 22) s m args below meth c (MQ below (va_Qv (fun (_ : Unit) => True) (fun _ t => zok G 137 (zen G σ') t) (zA G)) args s 0 0 (zA G)) σ 2 [(0, .ref (G.1 + 105)), (1, .int a1), (2, .int a2), (3, .int w3_2)] [] := by
        rw [hr_2]
        exact ih
      refine zr_aload_n C 0 dX11_countsIn_2 rfl ?_
      refine zg_11_42 C 105 zk_105 zm_8_11 dX11_countsIn_3 ?_
      refine zr_iload_n C 3 dX11_countsIn_6 rfl ?_
      obtain ⟨hg19, hJ⟩ := zg_e hJ
      refine zu_iald C 129 zk_129 hg19 dX11_countsIn_7 ?_
      refine zr_iload_n C 2 dX11_countsIn_8 rfl ?_
      refine zr_ishr C dX11_countsIn_9 ?_
      refine zr_iconst C dX11_countsIn_10 (v := (1 : Int32)) (by decide) ?_
      refine zr_iand C dX11_countsIn_11 ?_
      refine zr_if_ne C 21 dX11_countsIn_12 (by decide) (fun hc20 => ?_) (fun hc20 => ?_)
      · have hJ := zif' hc20 hJ
        exact hj21 _ hJ
      · have hJ := zif hc20 hJ
        obtain ⟨v21, hv21, hJ⟩ := zlet_e hJ
        refine zr_iinc C v21 3 [(3, .int v21), (0, .ref (G.1 + 105)), (1, .int a1), (2, .int a2)] dX11_countsIn_15 rfl (hv21.trans (zinc (by decide))) (by decide) rfl ?_
        refine zr_goto C 2 dX11_countsIn_18 (by decide) ?_
        refine zr_sub [1, 2, 3, 0] [(0, .ref (G.1 + 105)), (1, .int a1), (2, .int a2), (3, .int v21)] rfl ?_
        exact ih2 _ hJ
  refine zr_sub [1, 2, 3, 0] [(0, .ref (G.1 + 105)), (1, .int a1), (2, .int a2), (3, .int (0 : Int32))] rfl ?_
  exact hl2 _ _ hJ
