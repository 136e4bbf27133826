theorem dX11_loop_0 : decode cX11_loop 0 = .ok (.iload_n 1, 1) := by decide +kernel
theorem dX11_loop_1 : decode cX11_loop 1 = .ok (.i2l, 1) := by decide +kernel
theorem dX11_loop_2 : decode cX11_loop 2 = .ok (.lconst 0, 1) := by decide +kernel
theorem dX11_loop_3 : decode cX11_loop 3 = .ok (.aload_n 0, 1) := by decide +kernel
theorem dX11_loop_4 : decode cX11_loop 4 = .ok (.getfield 206, 3) := by decide +kernel
theorem dX11_loop_7 : decode cX11_loop 7 = .ok (.iconst 1, 1) := by decide +kernel
theorem dX11_loop_8 : decode cX11_loop 8 = .ok (.isub, 1) := by decide +kernel
theorem dX11_loop_9 : decode cX11_loop 9 = .ok (.i2l, 1) := by decide +kernel
theorem dX11_loop_10 : decode cX11_loop 10 = .ok (.invokestatic 124, 3) := by decide +kernel
theorem dX11_loop_13 : decode cX11_loop 13 = .ok (.ifCond .eq 15, 3) := by decide +kernel
theorem dX11_loop_16 : decode cX11_loop 16 = .ok (.iload_n 2, 1) := by decide +kernel
theorem dX11_loop_17 : decode cX11_loop 17 = .ok (.i2l, 1) := by decide +kernel
theorem dX11_loop_18 : decode cX11_loop 18 = .ok (.lconst 0, 1) := by decide +kernel
theorem dX11_loop_19 : decode cX11_loop 19 = .ok (.ldc2_w 267, 3) := by decide +kernel
theorem dX11_loop_22 : decode cX11_loop 22 = .ok (.invokestatic 124, 3) := by decide +kernel
theorem dX11_loop_25 : decode cX11_loop 25 = .ok (.ifCond .ne 5, 3) := by decide +kernel
theorem dX11_loop_28 : decode cX11_loop 28 = .ok (.iconst (-1), 1) := by decide +kernel
theorem dX11_loop_29 : decode cX11_loop 29 = .ok (.ireturn, 1) := by decide +kernel
theorem dX11_loop_30 : decode cX11_loop 30 = .ok (.iconst 1, 1) := by decide +kernel
theorem dX11_loop_31 : decode cX11_loop 31 = .ok (.istore_n 3, 1) := by decide +kernel
theorem dX11_loop_32 : decode cX11_loop 32 = .ok (.aload_n 0, 1) := by decide +kernel
theorem dX11_loop_33 : decode cX11_loop 33 = .ok (.getfield 22, 3) := by decide +kernel
theorem dX11_loop_36 : decode cX11_loop 36 = .ok (.iload_n 1, 1) := by decide +kernel
theorem dX11_loop_37 : decode cX11_loop 37 = .ok (.iaload, 1) := by decide +kernel
theorem dX11_loop_38 : decode cX11_loop 38 = .ok (.istore 4, 2) := by decide +kernel
theorem dX11_loop_40 : decode cX11_loop 40 = .ok (.iload 4, 2) := by decide +kernel
theorem dX11_loop_42 : decode cX11_loop 42 = .ok (.bipush (-4), 2) := by decide +kernel
theorem dX11_loop_44 : decode cX11_loop 44 = .ok (.if_icmp .eq 25, 3) := by decide +kernel
theorem dX11_loop_47 : decode cX11_loop 47 = .ok (.iload_n 3, 1) := by decide +kernel
theorem dX11_loop_48 : decode cX11_loop 48 = .ok (.aload_n 0, 1) := by decide +kernel
theorem dX11_loop_49 : decode cX11_loop 49 = .ok (.getfield 19, 3) := by decide +kernel
theorem dX11_loop_52 : decode cX11_loop 52 = .ok (.iload 4, 2) := by decide +kernel
theorem dX11_loop_54 : decode cX11_loop 54 = .ok (.iaload, 1) := by decide +kernel
theorem dX11_loop_55 : decode cX11_loop 55 = .ok (.imul, 1) := by decide +kernel
theorem dX11_loop_56 : decode cX11_loop 56 = .ok (.istore_n 3, 1) := by decide +kernel
theorem dX11_loop_57 : decode cX11_loop 57 = .ok (.aload_n 0, 1) := by decide +kernel
theorem dX11_loop_58 : decode cX11_loop 58 = .ok (.getfield 22, 3) := by decide +kernel
theorem dX11_loop_61 : decode cX11_loop 61 = .ok (.iload 4, 2) := by decide +kernel
theorem dX11_loop_63 : decode cX11_loop 63 = .ok (.iaload, 1) := by decide +kernel
theorem dX11_loop_64 : decode cX11_loop 64 = .ok (.istore 4, 2) := by decide +kernel
theorem dX11_loop_66 : decode cX11_loop 66 = .ok (.goto (-26), 3) := by decide +kernel
theorem dX11_loop_69 : decode cX11_loop 69 = .ok (.aload_n 0, 1) := by decide +kernel
theorem dX11_loop_70 : decode cX11_loop 70 = .ok (.iload_n 1, 1) := by decide +kernel
theorem dX11_loop_71 : decode cX11_loop 71 = .ok (.invokevirtual 228, 3) := by decide +kernel
theorem dX11_loop_74 : decode cX11_loop 74 = .ok (.istore 4, 2) := by decide +kernel
theorem dX11_loop_76 : decode cX11_loop 76 = .ok (.iconst 0, 1) := by decide +kernel
theorem dX11_loop_77 : decode cX11_loop 77 = .ok (.istore 5, 2) := by decide +kernel
theorem dX11_loop_79 : decode cX11_loop 79 = .ok (.iconst 0, 1) := by decide +kernel
theorem dX11_loop_80 : decode cX11_loop 80 = .ok (.istore 6, 2) := by decide +kernel
theorem dX11_loop_82 : decode cX11_loop 82 = .ok (.iload 6, 2) := by decide +kernel
theorem dX11_loop_84 : decode cX11_loop 84 = .ok (.aload_n 0, 1) := by decide +kernel
theorem dX11_loop_85 : decode cX11_loop 85 = .ok (.getfield 203, 3) := by decide +kernel
theorem dX11_loop_88 : decode cX11_loop 88 = .ok (.if_icmp .ge 36, 3) := by decide +kernel
theorem dX11_loop_91 : decode cX11_loop 91 = .ok (.iload 5, 2) := by decide +kernel
theorem dX11_loop_93 : decode cX11_loop 93 = .ok (.iload 4, 2) := by decide +kernel
theorem dX11_loop_95 : decode cX11_loop 95 = .ok (.iload 6, 2) := by decide +kernel
theorem dX11_loop_97 : decode cX11_loop 97 = .ok (.ishr, 1) := by decide +kernel
theorem dX11_loop_98 : decode cX11_loop 98 = .ok (.iconst 1, 1) := by decide +kernel
theorem dX11_loop_99 : decode cX11_loop 99 = .ok (.iand, 1) := by decide +kernel
theorem dX11_loop_100 : decode cX11_loop 100 = .ok (.iconst 1, 1) := by decide +kernel
theorem dX11_loop_101 : decode cX11_loop 101 = .ok (.if_icmp .ne 13, 3) := by decide +kernel
theorem dX11_loop_104 : decode cX11_loop 104 = .ok (.aload_n 0, 1) := by decide +kernel
theorem dX11_loop_105 : decode cX11_loop 105 = .ok (.getfield 28, 3) := by decide +kernel
theorem dX11_loop_108 : decode cX11_loop 108 = .ok (.iload 6, 2) := by decide +kernel
theorem dX11_loop_110 : decode cX11_loop 110 = .ok (.iaload, 1) := by decide +kernel
theorem dX11_loop_111 : decode cX11_loop 111 = .ok (.goto 4, 3) := by decide +kernel
theorem dX11_loop_114 : decode cX11_loop 114 = .ok (.iconst 0, 1) := by decide +kernel
theorem dX11_loop_115 : decode cX11_loop 115 = .ok (.iadd, 1) := by decide +kernel
theorem dX11_loop_116 : decode cX11_loop 116 = .ok (.istore 5, 2) := by decide +kernel
theorem dX11_loop_118 : decode cX11_loop 118 = .ok (.iinc 6 1, 3) := by decide +kernel
theorem dX11_loop_121 : decode cX11_loop 121 = .ok (.goto (-39), 3) := by decide +kernel
theorem dX11_loop_124 : decode cX11_loop 124 = .ok (.iload_n 2, 1) := by decide +kernel
theorem dX11_loop_125 : decode cX11_loop 125 = .ok (.ifCond .ne 12, 3) := by decide +kernel
theorem dX11_loop_128 : decode cX11_loop 128 = .ok (.aload_n 0, 1) := by decide +kernel
theorem dX11_loop_129 : decode cX11_loop 129 = .ok (.getfield 19, 3) := by decide +kernel
theorem dX11_loop_132 : decode cX11_loop 132 = .ok (.iload_n 1, 1) := by decide +kernel
theorem dX11_loop_133 : decode cX11_loop 133 = .ok (.iaload, 1) := by decide +kernel
theorem dX11_loop_134 : decode cX11_loop 134 = .ok (.goto 42, 3) := by decide +kernel
theorem dX11_loop_137 : decode cX11_loop 137 = .ok (.iload_n 2, 1) := by decide +kernel
theorem dX11_loop_138 : decode cX11_loop 138 = .ok (.iconst 1, 1) := by decide +kernel
theorem dX11_loop_139 : decode cX11_loop 139 = .ok (.if_icmp .ne 16, 3) := by decide +kernel
theorem dX11_loop_142 : decode cX11_loop 142 = .ok (.aload_n 0, 1) := by decide +kernel
theorem dX11_loop_143 : decode cX11_loop 143 = .ok (.aload_n 0, 1) := by decide +kernel
theorem dX11_loop_144 : decode cX11_loop 144 = .ok (.getfield 22, 3) := by decide +kernel
theorem dX11_loop_147 : decode cX11_loop 147 = .ok (.iload_n 1, 1) := by decide +kernel
theorem dX11_loop_148 : decode cX11_loop 148 = .ok (.iaload, 1) := by decide +kernel
theorem dX11_loop_149 : decode cX11_loop 149 = .ok (.invokevirtual 254, 3) := by decide +kernel
theorem dX11_loop_152 : decode cX11_loop 152 = .ok (.goto 24, 3) := by decide +kernel
theorem dX11_loop_155 : decode cX11_loop 155 = .ok (.iload_n 2, 1) := by decide +kernel
theorem dX11_loop_156 : decode cX11_loop 156 = .ok (.iconst 2, 1) := by decide +kernel
theorem dX11_loop_157 : decode cX11_loop 157 = .ok (.if_icmp .ne 8, 3) := by decide +kernel
theorem dX11_loop_160 : decode cX11_loop 160 = .ok (.iload 4, 2) := by decide +kernel
theorem dX11_loop_162 : decode cX11_loop 162 = .ok (.goto 14, 3) := by decide +kernel
theorem dX11_loop_165 : decode cX11_loop 165 = .ok (.iload_n 2, 1) := by decide +kernel
theorem dX11_loop_166 : decode cX11_loop 166 = .ok (.iconst 3, 1) := by decide +kernel
theorem dX11_loop_167 : decode cX11_loop 167 = .ok (.if_icmp .ne 7, 3) := by decide +kernel
theorem dX11_loop_170 : decode cX11_loop 170 = .ok (.iload_n 3, 1) := by decide +kernel
theorem dX11_loop_171 : decode cX11_loop 171 = .ok (.goto 5, 3) := by decide +kernel
theorem dX11_loop_174 : decode cX11_loop 174 = .ok (.iload 5, 2) := by decide +kernel
theorem dX11_loop_176 : decode cX11_loop 176 = .ok (.ireturn, 1) := by decide +kernel
set_option maxRecDepth 100000 in
set_option maxHeartbeats 4000000 in
theorem M_X11_loop (G : zG) (l : Launch) {a1 : Int32} {a2 : Int32} {σ : zS} {r : Int32} (hJ : J_X11_loop a1 a2 σ = some r) : zMI G l yX11_loop cX11_loop 7 (some .int) (zrm 2 47) [.ref (G.1 + 105), .int a1, .int a2] 137 (zen G σ) r 137 (zen G σ) := by
  unfold J_X11_loop at hJ
  refine zentI (by decide +kernel) (Nat.le_of_ble_eq_true rfl) ?_
  intro p e s m args below meth c C hret
  refine zr_sub [0, 1, 2] [(0, .ref (G.1 + 105)), (1, .int a1), (2, .int a2)] rfl ?_
  refine zr_iload_n C 1 dX11_loop_0 rfl ?_
  refine zr_i2l C dX11_loop_1 ?_
  refine zr_lconst C dX11_loop_2 (v := (0 : Int64)) (by decide) ?_
  refine zr_aload_n C 0 dX11_loop_3 rfl ?_
  refine zg_11_4 C 105 zk_105 zm_19_10 dX11_loop_4 ?_
  refine zr_iconst C dX11_loop_7 (v := (1 : Int32)) (by decide) ?_
  refine zr_isub C dX11_loop_8 ?_
  refine zr_i2l C dX11_loop_9 ?_
  obtain ⟨r1, hr1, hJ⟩ := zb_e hJ
  refine zr_callSI C (M_X11_in G l hr1) zin_X11_in zm_9_22 rfl rfl (Nat.le_of_ble_eq_true rfl) ⟨Nat.le_of_ble_eq_true rfl, Nat.le_of_ble_eq_true rfl⟩ ⟨Nat.le_of_ble_eq_true rfl, Nat.le_of_ble_eq_true rfl⟩ dX11_loop_10 ?_
  refine zr_if_eq C 28 dX11_loop_13 (by decide) (fun hc2 => ?_) (fun hc2 => ?_)
  · have hJ := zif hc2 hJ
    refine zr_iconst C dX11_loop_28 (v := (-1 : Int32)) (by decide) ?_
    exact zr_iret C hret (zs_e hJ) rfl rfl dX11_loop_29
  · have hJ := zif' hc2 hJ
    refine zr_iload_n C 2 dX11_loop_16 rfl ?_
    refine zr_i2l C dX11_loop_17 ?_
    refine zr_lconst C dX11_loop_18 (v := (0 : Int64)) (by decide) ?_
    refine zr_ldc2 C dX11_loop_19 zm_25_11 ?_
    obtain ⟨r3, hr3, hJ⟩ := zb_e hJ
    refine zr_callSI C (M_X11_in G l hr3) zin_X11_in zm_9_22 rfl rfl (Nat.le_of_ble_eq_true rfl) ⟨Nat.le_of_ble_eq_true rfl, Nat.le_of_ble_eq_true rfl⟩ ⟨Nat.le_of_ble_eq_true rfl, Nat.le_of_ble_eq_true rfl⟩ dX11_loop_22 ?_
    refine zr_if_ne C 30 dX11_loop_25 (by decide) (fun hc4 => ?_) (fun hc4 => ?_)
    · have hJ := zif' hc4 hJ
      refine zr_iconst C dX11_loop_30 (v := (1 : Int32)) (by decide) ?_
      refine zr_istore_n C [(3, .int (1 : Int32)), (0, .ref (G.1 + 105)), (1, .int a1), (2, .int a2)] dX11_loop_31 (by decide) rfl ?_
      refine zr_aload_n C 1 dX11_loop_32 rfl ?_
      refine zg_11_6 C 105 zk_105 zm_7_15 dX11_loop_33 ?_
      refine zr_iload_n C 2 dX11_loop_36 rfl ?_
      obtain ⟨hg5, hJ⟩ := zg_e hJ
      refine zu_iald C 110 zk_110 hg5 dX11_loop_37 ?_
      obtain ⟨v6, hv6, hJ⟩ := zlet_e hJ
      refine zr_topi hv6 ?_
      refine zr_istore C [(4, .int v6), (3, .int (1 : Int32)), (0, .ref (G.1 + 105)), (1, .int a1), (2, .int a2)] dX11_loop_38 (by decide) rfl ?_
      obtain ⟨k69, hk69, hJ⟩ := zlet_e hJ
      have hj69 : ∀ (w3_69 : Int32), k69 w3_69 = some r → zU G 7 p l e (zrm 2 47) s m args below meth c (MQ below (va_Qi (fun x (_ : Unit) => x = r) (fun _ t => zok G 137 (zen G σ) t) (zA G)) args s 0 0 (zA G)) σ 69 [(0, .ref (G.1 + 105)), (1, .int a1), (2, .int a2), (3, .int w3_69)] [] := by
        intro w3_69 hJ
        rw [hk69] at hJ
        unfold D_X11_loop_69 at hJ
        refine zr_aload_n C 0 dX11_loop_69 rfl ?_
        refine zr_iload_n C 1 dX11_loop_70 rfl ?_
        obtain ⟨r7, hr7, hJ⟩ := zb_e hJ
        refine zr_callVI C 105 (zk_lt zk_105 (by decide)) (zen_obj zk_105) (rfl : zcl[11]? = some (RX11, TX11, 56)) (M_X11_linesIn G l hr7) zin_X11_linesIn zm_19_19 rfl rfl (Nat.le_of_ble_eq_true rfl) ⟨Nat.le_of_ble_eq_true rfl, Nat.le_of_ble_eq_true rfl⟩ ⟨Nat.le_of_ble_eq_true rfl, Nat.le_of_ble_eq_true rfl⟩ dX11_loop_71 ?_
        refine zr_istore C [(4, .int r7), (0, .ref (G.1 + 105)), (1, .int a1), (2, .int a2), (3, .int w3_69)] dX11_loop_74 (by decide) rfl ?_
        refine zr_iconst C dX11_loop_76 (v := (0 : Int32)) (by decide) ?_
        refine zr_istore C [(5, .int (0 : Int32)), (4, .int r7), (0, .ref (G.1 + 105)), (1, .int a1), (2, .int a2), (3, .int w3_69)] dX11_loop_77 (by decide) rfl ?_
        refine zr_iconst C dX11_loop_79 (v := (0 : Int32)) (by decide) ?_
        refine zr_istore C [(6, .int (0 : Int32)), (5, .int (0 : Int32)), (4, .int r7), (0, .ref (G.1 + 105)), (1, .int a1), (2, .int a2), (3, .int w3_69)] dX11_loop_80 (by decide) rfl ?_
        obtain ⟨k124, hk124, hJ⟩ := zlet_e hJ
        have hj124 : ∀ (w5_124 : Int32), k124 w5_124 = some r → zU G 7 p l e (zrm 2 47) s m args below meth c (MQ below (va_Qi (fun x (_ : Unit) => x = r) (fun _ t => zok G 137 (zen G σ) t) (zA G)) args s 0 0 (zA G)) σ 124 [(0, .ref (G.1 + 105)), (1, .int a1), (2, .int a2), (3, .int w3_69), (4, .int r7), (5, .int w5_124)] [] := by
          intro w5_124 hJ
          rw [hk124] at hJ
          unfold D_X11_loop_124 at hJ
          refine zr_iload_n C 2 dX11_loop_124 rfl ?_
          refine zr_if_ne C 137 dX11_loop_125 (by decide) (fun hc8 => ?_) (fun hc8 => ?_)
          · have hJ := zif' hc8 hJ
            refine zr_iload_n C 2 dX11_loop_137 rfl ?_
            refine zr_iconst C dX11_loop_138 (v := (1 : Int32)) (by decide) ?_
            refine zr_icmp_ne C 155 dX11_loop_139 (by decide) (fun hc9 => ?_) (fun hc9 => ?_)
            · have hJ := zif' hc9 hJ
              refine zr_iload_n C 2 dX11_loop_155 rfl ?_
              refine zr_iconst C dX11_loop_156 (v := (2 : Int32)) (by decide) ?_
              refine zr_icmp_ne C 165 dX11_loop_157 (by decide) (fun hc10 => ?_) (fun hc10 => ?_)
              · have hJ := zif' hc10 hJ
                refine zr_iload_n C 2 dX11_loop_165 rfl ?_
                refine zr_iconst C dX11_loop_166 (v := (3 : Int32)) (by decide) ?_
                refine zr_icmp_ne C 174 dX11_loop_167 (by decide) (fun hc11 => ?_) (fun hc11 => ?_)
                · have hJ := zif' hc11 hJ
                  refine zr_iload C 5 dX11_loop_174 rfl ?_
                  exact zr_iret C hret (zs_e hJ) rfl rfl dX11_loop_176
                · have hJ := zif hc11 hJ
                  refine zr_iload_n C 3 dX11_loop_170 rfl ?_
                  refine zr_goto C 176 dX11_loop_171 (by decide) ?_
                  exact zr_iret C hret (zs_e hJ) rfl rfl dX11_loop_176
              · have hJ := zif hc10 hJ
                refine zr_iload C 4 dX11_loop_160 rfl ?_
                refine zr_goto C 176 dX11_loop_162 (by decide) ?_
                exact zr_iret C hret (zs_e hJ) rfl rfl dX11_loop_176
            · have hJ := zif hc9 hJ
              refine zr_aload_n C 0 dX11_loop_142 rfl ?_
              refine zr_aload_n C 0 dX11_loop_143 rfl ?_
              refine zg_11_6 C 105 zk_105 zm_7_15 dX11_loop_144 ?_
              refine zr_iload_n C 1 dX11_loop_147 rfl ?_
              obtain ⟨hg12, hJ⟩ := zg_e hJ
              refine zu_iald C 110 zk_110 hg12 dX11_loop_148 ?_
              obtain ⟨r13, hr13, hJ⟩ := zb_e hJ
              refine zr_callVI C 105 (zk_lt zk_105 (by decide)) (zen_obj zk_105) (rfl : zcl[11]? = some (RX11, TX11, 56)) (M_X11_depthOf G l hr13) zin_X11_depthOf zm_21_13 rfl rfl (Nat.le_of_ble_eq_true rfl) ⟨Nat.le_of_ble_eq_true rfl, Nat.le_of_ble_eq_true rfl⟩ ⟨Nat.le_of_ble_eq_true rfl, Nat.le_of_ble_eq_true rfl⟩ dX11_loop_149 ?_
              refine zr_goto C 176 dX11_loop_152 (by decide) ?_
              exact zr_iret C hret (zs_e hJ) rfl rfl dX11_loop_176
          · have hJ := zif hc8 hJ
            refine zr_aload_n C 0 dX11_loop_128 rfl ?_
            refine zg_11_5 C 105 zk_105 zm_7_14 dX11_loop_129 ?_
            refine zr_iload_n C 1 dX11_loop_132 rfl ?_
            obtain ⟨hg14, hJ⟩ := zg_e hJ
            refine zu_iald C 109 zk_109 hg14 dX11_loop_133 ?_
            refine zr_goto C 176 dX11_loop_134 (by decide) ?_
            exact zr_iret C hret (zs_e hJ) rfl rfl dX11_loop_176
        have hl82 : ∀ (n : Nat) (w5_82 : Int32) (w6_82 : Int32), L_X11_loop_82 σ r7 k124 n w5_82 w6_82 = some r → zU G 7 p l e (zrm 2 47) s m args below meth c (MQ below (va_Qi (fun x (_ : Unit) => x = r) (fun _ t => zok G 137 (zen G σ) t) (zA G)) args s 0 0 (zA G)) σ 82 [(0, .ref (G.1 + 105)), (1, .int a1), (2, .int a2), (3, .int w3_69), (4, .int r7), (5, .int w5_82), (6, .int w6_82)] [] := by
          intro n
          induction n with
          | zero =>
            intro w5_82 w6_82 hJ
            rw [L_X11_loop_82] at hJ
            cases hJ
          | succ n ih =>
            intro w5_82 w6_82 hJ
            rw [L_X11_loop_82] at hJ
            obtain ⟨r_82, hr_82, hJ⟩ := zlet_e hJ
            have ih82 : ∀ (w5_82 : Int32) (w6_82 : Int32), r_82 w5_82 w6_82 = some r → zU G 7 p l e (zrm 2 47) s m args below meth c (MQ below (va_Qi (fun x (_ : Unit) => x = r) (fun _ t => zok G 137 (zen G σ) t) (zA G)) args s 0 0 (zA G)) σ 82 [(0, .ref (G.1 + 105)), (1, .int a1), (2, .int a2), (3, .int w3_69), (4, .int r7), (5, .int w5_82), (6, .int w6_82)] [] := by
              rw [hr_82]
              exact ih
            refine zr_iload C 6 dX11_loop_82 rfl ?_
            refine zr_aload_n C 0 dX11_loop_84 rfl ?_
            refine zg_11_0 C 105 zk_105 zm_16_22 dX11_loop_85 ?_
            refine zr_icmp_ge C 124 dX11_loop_88 (by decide) (fun hc15 => ?_) (fun hc15 => ?_)
            · have hJ := zif hc15 hJ
              refine zr_sub [0, 1, 2, 3, 4, 5] [(0, .ref (G.1 + 105)), (1, .int a1), (2, .int a2), (3, .int w3_69), (4, .int r7), (5, .int w5_82)] rfl ?_
              exact hj124 _ hJ
            · have hJ := zif' hc15 hJ
              refine zr_iload C 5 dX11_loop_91 rfl ?_
              refine zr_iload C 4 dX11_loop_93 rfl ?_
              refine zr_iload C 6 dX11_loop_95 rfl ?_
              refine zr_ishr C dX11_loop_97 ?_
              refine zr_iconst C dX11_loop_98 (v := (1 : Int32)) (by decide) ?_
              refine zr_iand C dX11_loop_99 ?_
              refine zr_iconst C dX11_loop_100 (v := (1 : Int32)) (by decide) ?_
              refine zr_icmp_ne C 114 dX11_loop_101 (by decide) (fun hc16 => ?_) (fun hc16 => ?_)
              · have hJ := zif' hc16 hJ
                refine zr_iconst C dX11_loop_114 (v := (0 : Int32)) (by decide) ?_
                refine zr_iadd C dX11_loop_115 ?_
                obtain ⟨v17, hv17, hJ⟩ := zlet_e hJ
                refine zr_topi hv17 ?_
                refine zr_istore C [(5, .int v17), (0, .ref (G.1 + 105)), (1, .int a1), (2, .int a2), (3, .int w3_69), (4, .int r7), (6, .int w6_82)] dX11_loop_116 (by decide) rfl ?_
                obtain ⟨v18, hv18, hJ⟩ := zlet_e hJ
                refine zr_iinc C v18 6 [(6, .int v18), (5, .int v17), (0, .ref (G.1 + 105)), (1, .int a1), (2, .int a2), (3, .int w3_69), (4, .int r7)] dX11_loop_118 rfl (hv18.trans (zinc (by decide))) (by decide) rfl ?_
                refine zr_goto C 82 dX11_loop_121 (by decide) ?_
                refine zr_sub [2, 3, 4, 5, 6, 1, 0] [(0, .ref (G.1 + 105)), (1, .int a1), (2, .int a2), (3, .int w3_69), (4, .int r7), (5, .int v17), (6, .int v18)] rfl ?_
                exact ih82 _ _ hJ
              · have hJ := zif hc16 hJ
                refine zr_aload_n C 0 dX11_loop_104 rfl ?_
                refine zg_11_9 C 105 zk_105 zm_7_17 dX11_loop_105 ?_
                refine zr_iload C 6 dX11_loop_108 rfl ?_
                obtain ⟨hg19, hJ⟩ := zg_e hJ
                refine zu_iald C 112 zk_112 hg19 dX11_loop_110 ?_
                refine zr_goto C 115 dX11_loop_111 (by decide) ?_
                refine zr_iadd C dX11_loop_115 ?_
                obtain ⟨v20, hv20, hJ⟩ := zlet_e hJ
                refine zr_topi hv20 ?_
                refine zr_istore C [(5, .int v20), (0, .ref (G.1 + 105)), (1, .int a1), (2, .int a2), (3, .int w3_69), (4, .int r7), (6, .int w6_82)] dX11_loop_116 (by decide) rfl ?_
                obtain ⟨v21, hv21, hJ⟩ := zlet_e hJ
                refine zr_iinc C v21 6 [(6, .int v21), (5, .int v20), (0, .ref (G.1 + 105)), (1, .int a1), (2, .int a2), (3, .int w3_69), (4, .int r7)] dX11_loop_118 rfl (hv21.trans (zinc (by decide))) (by decide) rfl ?_
                refine zr_goto C 82 dX11_loop_121 (by decide) ?_
                refine zr_sub [2, 3, 4, 5, 6, 1, 0] [(0, .ref (G.1 + 105)), (1, .int a1), (2, .int a2), (3, .int w3_69), (4, .int r7), (5, .int v20), (6, .int v21)] rfl ?_
                exact ih82 _ _ hJ
        refine zr_sub [3, 4, 5, 6, 2, 1, 0] [(0, .ref (G.1 + 105)), (1, .int a1), (2, .int a2), (3, .int w3_69), (4, .int r7), (5, .int (0 : Int32)), (6, .int (0 : Int32))] rfl ?_
        exact hl82 _ _ _ hJ
      have hl40 : ∀ (n : Nat) (w3_40 : Int32) (w4_40 : Int32), L_X11_loop_40 σ k69 n w3_40 w4_40 = some r → zU G 7 p l e (zrm 2 47) s m args below meth c (MQ below (va_Qi (fun x (_ : Unit) => x = r) (fun _ t => zok G 137 (zen G σ) t) (zA G)) args s 0 0 (zA G)) σ 40 [(0, .ref (G.1 + 105)), (1, .int a1), (2, .int a2), (3, .int w3_40), (4, .int w4_40)] [] := by
        intro n
        induction n with
        | zero =>
          intro w3_40 w4_40 hJ
          rw [L_X11_loop_40] at hJ
          cases hJ
        | succ n ih =>
          intro w3_40 w4_40 hJ
          rw [L_X11_loop_40] at hJ
          obtain ⟨r_40, hr_40, hJ⟩ := zlet_e hJ
          have ih40 : ∀ (w3_40 : Int32) (w4_40 : Int32), r_40 w3_40 w4_40 = some r → zU G 7 p l e (zrm 2 47) s m args below meth c (MQ below (va_Qi (fun x (_ : Unit) => x = r) (fun _ t => zok G 137 (zen G σ) t) (zA G)) args s 0 0 (zA G)) σ 40 [(0, .ref (G.1 + 105)), (1, .int a1), (2, .int a2), (3, .int w3_40), (4, .int w4_40)] [] := by
            rw [hr_40]
            exact ih
          refine zr_iload C 4 dX11_loop_40 rfl ?_
          refine zr_bipush C dX11_loop_42 (v := (-4 : Int32)) (by decide) ?_
          refine zr_icmp_eq C 69 dX11_loop_44 (by decide) (fun hc22 => ?_) (fun hc22 => ?_)
          · have hJ := zif hc22 hJ
            refine zr_sub [0, 1, 2, 3] [(0, .ref (G.1 + 105)), (1, .int a1), (2, .int a2), (3, .int w3_40)] rfl ?_
            exact hj69 _ hJ
          · have hJ := zif' hc22 hJ
            refine zr_iload_n C 3 dX11_loop_47 rfl ?_
            refine zr_aload_n C 0 dX11_loop_48 rfl ?_
            refine zg_11_5 C 105 zk_105 zm_7_14 dX11_loop_49 ?_
            refine zr_iload C 4 dX11_loop_52 rfl ?_
            obtain ⟨hg23, hJ⟩ := zg_e hJ
            refine zu_iald C 109 zk_109 hg23 dX11_loop_54 ?_
            refine zr_imul C dX11_loop_55 ?_
            obtain ⟨v24, hv24, hJ⟩ := zlet_e hJ
            refine zr_topi hv24 ?_
            refine zr_istore_n C [(3, .int v24), (0, .ref (G.1 + 105)), (1, .int a1), (2, .int a2), (4, .int w4_40)] dX11_loop_56 (by decide) rfl ?_
            refine zr_aload_n C 1 dX11_loop_57 rfl ?_
            refine zg_11_6 C 105 zk_105 zm_7_15 dX11_loop_58 ?_
            refine zr_iload C 4 dX11_loop_61 rfl ?_
            obtain ⟨hg25, hJ⟩ := zg_e hJ
            refine zu_iald C 110 zk_110 hg25 dX11_loop_63 ?_
            obtain ⟨v26, hv26, hJ⟩ := zlet_e hJ
            refine zr_topi hv26 ?_
            refine zr_istore C [(4, .int v26), (3, .int v24), (0, .ref (G.1 + 105)), (1, .int a1), (2, .int a2)] dX11_loop_64 (by decide) rfl ?_
            refine zr_goto C 40 dX11_loop_66 (by decide) ?_
            refine zr_sub [2, 3, 4, 1, 0] [(0, .ref (G.1 + 105)), (1, .int a1), (2, .int a2), (3, .int v24), (4, .int v26)] rfl ?_
            exact ih40 _ _ hJ
      refine zr_sub [2, 3, 4, 1, 0] [(0, .ref (G.1 + 105)), (1, .int a1), (2, .int a2), (3, .int (1 : Int32)), (4, .int v6)] rfl ?_
      exact hl40 _ _ _ hJ
    · have hJ := zif hc4 hJ
      refine zr_iconst C dX11_loop_28 (v := (-1 : Int32)) (by decide) ?_
      exact zr_iret C hret (zs_e hJ) rfl rfl dX11_loop_29
theorem dX11_mask_0 : decode cX11_mask 0 = .ok (.aload_n 0, 1) := by decide +kernel
theorem dX11_mask_1 : decode cX11_mask 1 = .ok (.iload_n 1, 1) := by decide +kernel
theorem dX11_mask_2 : decode cX11_mask 2 = .ok (.invokevirtual 279, 3) := by decide +kernel
theorem dX11_mask_5 : decode cX11_mask 5 = .ok (.ifCond .eq 15, 3) := by decide +kernel
theorem dX11_mask_8 : decode cX11_mask 8 = .ok (.iload_n 2, 1) := by decide +kernel
theorem dX11_mask_9 : decode cX11_mask 9 = .ok (.i2l, 1) := by decide +kernel
theorem dX11_mask_10 : decode cX11_mask 10 = .ok (.lconst 0, 1) := by decide +kernel
theorem dX11_mask_11 : decode cX11_mask 11 = .ok (.ldc2_w 122, 3) := by decide +kernel
theorem dX11_mask_14 : decode cX11_mask 14 = .ok (.invokestatic 124, 3) := by decide +kernel
theorem dX11_mask_17 : decode cX11_mask 17 = .ok (.ifCond .ne 5, 3) := by decide +kernel
theorem dX11_mask_20 : decode cX11_mask 20 = .ok (.iconst (-1), 1) := by decide +kernel
theorem dX11_mask_21 : decode cX11_mask 21 = .ok (.ireturn, 1) := by decide +kernel
theorem dX11_mask_22 : decode cX11_mask 22 = .ok (.aload_n 0, 1) := by decide +kernel
theorem dX11_mask_23 : decode cX11_mask 23 = .ok (.getfield 71, 3) := by decide +kernel
theorem dX11_mask_26 : decode cX11_mask 26 = .ok (.iload_n 1, 1) := by decide +kernel
theorem dX11_mask_27 : decode cX11_mask 27 = .ok (.iaload, 1) := by decide +kernel
theorem dX11_mask_28 : decode cX11_mask 28 = .ok (.istore_n 3, 1) := by decide +kernel
theorem dX11_mask_29 : decode cX11_mask 29 = .ok (.aload_n 0, 1) := by decide +kernel
theorem dX11_mask_30 : decode cX11_mask 30 = .ok (.getfield 71, 3) := by decide +kernel
theorem dX11_mask_33 : decode cX11_mask 33 = .ok (.iload_n 1, 1) := by decide +kernel
theorem dX11_mask_34 : decode cX11_mask 34 = .ok (.iload_n 2, 1) := by decide +kernel
theorem dX11_mask_35 : decode cX11_mask 35 = .ok (.iastore, 1) := by decide +kernel
theorem dX11_mask_36 : decode cX11_mask 36 = .ok (.iload_n 3, 1) := by decide +kernel
theorem dX11_mask_37 : decode cX11_mask 37 = .ok (.ireturn, 1) := by decide +kernel
set_option maxRecDepth 100000 in
set_option maxHeartbeats 4000000 in
theorem M_X11_mask (G : zG) (l : Launch) {a1 : Int32} {a2 : Int32} {σ : zS} {r : Int32} {σ' : zS} (hJ : J_X11_mask a1 a2 σ = some (r, σ')) : zMI G l yX11_mask cX11_mask 4 (some .int) (zrm 2 46) [.ref (G.1 + 105), .int a1, .int a2] 137 (zen G σ) r 137 (zen G σ') := by
  unfold J_X11_mask at hJ
  refine zentI (by decide +kernel) (Nat.le_of_ble_eq_true rfl) ?_
  intro p e s m args below meth c C hret
  refine zr_sub [0, 1, 2] [(0, .ref (G.1 + 105)), (1, .int a1), (2, .int a2)] rfl ?_
  refine zr_aload_n C 0 dX11_mask_0 rfl ?_
  refine zr_iload_n C 1 dX11_mask_1 rfl ?_
  obtain ⟨r1, hr1, hJ⟩ := zb_e hJ
  refine zr_callVI C 105 (zk_lt zk_105 (by decide)) (zen_obj zk_105) (rfl : zcl[11]? = some (RX11, TX11, 56)) (M_X11_isCounter G l hr1) zin_X11_isCounter zm_30_3 rfl rfl (Nat.le_of_ble_eq_true rfl) ⟨Nat.le_of_ble_eq_true rfl, Nat.le_of_ble_eq_true rfl⟩ ⟨Nat.le_of_ble_eq_true rfl, Nat.le_of_ble_eq_true rfl⟩ dX11_mask_2 ?_
  refine zr_if_eq C 20 dX11_mask_5 (by decide) (fun hc2 => ?_) (fun hc2 => ?_)
  · have hJ := zif hc2 hJ
    refine zr_iconst C dX11_mask_20 (v := (-1 : Int32)) (by decide) ?_
    exact zr_iret C hret (Prod.mk.inj (zs_e hJ)).1 rfl (congrArg (zen G) (Prod.mk.inj (zs_e hJ)).2) dX11_mask_21
  · have hJ := zif' hc2 hJ
    refine zr_iload_n C 2 dX11_mask_8 rfl ?_
    refine zr_i2l C dX11_mask_9 ?_
    refine zr_lconst C dX11_mask_10 (v := (0 : Int64)) (by decide) ?_
    refine zr_ldc2 C dX11_mask_11 zm_9_13 ?_
    obtain ⟨r3, hr3, hJ⟩ := zb_e hJ
    refine zr_callSI C (M_X11_in G l hr3) zin_X11_in zm_9_22 rfl rfl (Nat.le_of_ble_eq_true rfl) ⟨Nat.le_of_ble_eq_true rfl, Nat.le_of_ble_eq_true rfl⟩ ⟨Nat.le_of_ble_eq_true rfl, Nat.le_of_ble_eq_true rfl⟩ dX11_mask_14 ?_
    refine zr_if_ne C 22 dX11_mask_17 (by decide) (fun hc4 => ?_) (fun hc4 => ?_)
    · have hJ := zif' hc4 hJ
      refine zr_aload_n C 0 dX11_mask_22 rfl ?_
      refine zg_11_37 C 105 zk_105 zm_8_7 dX11_mask_23 ?_
      refine zr_iload_n C 1 dX11_mask_26 rfl ?_
      obtain ⟨hg5, hJ⟩ := zg_e hJ
      refine zu_iald C 125 zk_125 hg5 dX11_mask_27 ?_
      obtain ⟨v6, hv6, hJ⟩ := zlet_e hJ
      refine zr_topi hv6 ?_
      refine zr_istore_n C [(3, .int v6), (0, .ref (G.1 + 105)), (1, .int a1), (2, .int a2)] dX11_mask_28 (by decide) rfl ?_
      refine zr_aload_n C 1 dX11_mask_29 rfl ?_
      refine zg_11_37 C 105 zk_105 zm_8_7 dX11_mask_30 ?_
      refine zr_iload_n C 2 dX11_mask_33 rfl ?_
      refine zr_iload_n C 3 dX11_mask_34 rfl ?_
      obtain ⟨hg7, hJ⟩ := zg_e hJ
      obtain ⟨σ8, hσ8, hJ⟩ := zlet_e hJ
      refine zv_iast C 125 zk_125 hg7 hσ8 dX11_mask_35 ?_
      refine zr_iload_n C 0 dX11_mask_36 rfl ?_
      exact zr_iret C hret (Prod.mk.inj (zs_e hJ)).1 rfl (congrArg (zen G) (Prod.mk.inj (zs_e hJ)).2) dX11_mask_37
    · have hJ := zif hc4 hJ
      refine zr_iconst C dX11_mask_20 (v := (-1 : Int32)) (by decide) ?_
      exact zr_iret C hret (Prod.mk.inj (zs_e hJ)).1 rfl (congrArg (zen G) (Prod.mk.inj (zs_e hJ)).2) dX11_mask_21
theorem dX11_nameNow_0 : decode cX11_nameNow 0 = .ok (.aload_n 0, 1) := by decide +kernel
theorem dX11_nameNow_1 : decode cX11_nameNow 1 = .ok (.iconst 4, 1) := by decide +kernel
theorem dX11_nameNow_2 : decode cX11_nameNow 2 = .ok (.bipush 108, 2) := by decide +kernel
theorem dX11_nameNow_4 : decode cX11_nameNow 4 = .ok (.bipush 105, 2) := by decide +kernel
theorem dX11_nameNow_6 : decode cX11_nameNow 6 = .ok (.bipush 110, 2) := by decide +kernel
theorem dX11_nameNow_8 : decode cX11_nameNow 8 = .ok (.bipush 101, 2) := by decide +kernel
theorem dX11_nameNow_10 : decode cX11_nameNow 10 = .ok (.invokevirtual 144, 3) := by decide +kernel
theorem dX11_nameNow_13 : decode cX11_nameNow 13 = .ok (.ifCond .eq 7, 3) := by decide +kernel
theorem dX11_nameNow_16 : decode cX11_nameNow 16 = .ok (.iconst 0, 1) := by decide +kernel
theorem dX11_nameNow_17 : decode cX11_nameNow 17 = .ok (.goto 44, 3) := by decide +kernel
theorem dX11_nameNow_20 : decode cX11_nameNow 20 = .ok (.aload_n 0, 1) := by decide +kernel
theorem dX11_nameNow_21 : decode cX11_nameNow 21 = .ok (.iconst 4, 1) := by decide +kernel
theorem dX11_nameNow_22 : decode cX11_nameNow 22 = .ok (.bipush 108, 2) := by decide +kernel
theorem dX11_nameNow_24 : decode cX11_nameNow 24 = .ok (.bipush 111, 2) := by decide +kernel
theorem dX11_nameNow_26 : decode cX11_nameNow 26 = .ok (.bipush 111, 2) := by decide +kernel
theorem dX11_nameNow_28 : decode cX11_nameNow 28 = .ok (.bipush 112, 2) := by decide +kernel
theorem dX11_nameNow_30 : decode cX11_nameNow 30 = .ok (.invokevirtual 144, 3) := by decide +kernel
theorem dX11_nameNow_33 : decode cX11_nameNow 33 = .ok (.ifCond .eq 7, 3) := by decide +kernel
theorem dX11_nameNow_36 : decode cX11_nameNow 36 = .ok (.iconst 1, 1) := by decide +kernel
theorem dX11_nameNow_37 : decode cX11_nameNow 37 = .ok (.goto 24, 3) := by decide +kernel
theorem dX11_nameNow_40 : decode cX11_nameNow 40 = .ok (.aload_n 0, 1) := by decide +kernel
theorem dX11_nameNow_41 : decode cX11_nameNow 41 = .ok (.iconst 3, 1) := by decide +kernel
theorem dX11_nameNow_42 : decode cX11_nameNow 42 = .ok (.bipush 101, 2) := by decide +kernel
theorem dX11_nameNow_44 : decode cX11_nameNow 44 = .ok (.bipush 110, 2) := by decide +kernel
theorem dX11_nameNow_46 : decode cX11_nameNow 46 = .ok (.bipush 100, 2) := by decide +kernel
theorem dX11_nameNow_48 : decode cX11_nameNow 48 = .ok (.iconst 0, 1) := by decide +kernel
theorem dX11_nameNow_49 : decode cX11_nameNow 49 = .ok (.invokevirtual 144, 3) := by decide +kernel
theorem dX11_nameNow_52 : decode cX11_nameNow 52 = .ok (.ifCond .eq 7, 3) := by decide +kernel
theorem dX11_nameNow_55 : decode cX11_nameNow 55 = .ok (.iconst 2, 1) := by decide +kernel
theorem dX11_nameNow_56 : decode cX11_nameNow 56 = .ok (.goto 5, 3) := by decide +kernel
theorem dX11_nameNow_59 : decode cX11_nameNow 59 = .ok (.bipush (-4), 2) := by decide +kernel
theorem dX11_nameNow_61 : decode cX11_nameNow 61 = .ok (.ireturn, 1) := by decide +kernel
set_option maxRecDepth 100000 in
set_option maxHeartbeats 4000000 in
theorem M_X11_nameNow (G : zG) (l : Launch) {σ : zS} {r : Int32} (hJ : J_X11_nameNow σ = some r) : zMI G l yX11_nameNow cX11_nameNow 1 (some .int) (zrm 2 46) [.ref (G.1 + 105)] 137 (zen G σ) r 137 (zen G σ) := by
  unfold J_X11_nameNow at hJ
  refine zentI (by decide +kernel) (Nat.le_of_ble_eq_true rfl) ?_
  intro p e s m args below meth c C hret
  refine zr_sub [0] [(0, .ref (G.1 + 105))] rfl ?_
  refine zr_aload_n C 0 dX11_nameNow_0 rfl ?_
  refine zr_iconst C dX11_nameNow_1 (v := (4 : Int32)) (by decide) ?_
  refine zr_bipush C dX11_nameNow_2 (v := (108 : Int32)) (by decide) ?_
  refine zr_bipush C dX11_nameNow_4 (v := (105 : Int32)) (by decide) ?_
  refine zr_bipush C dX11_nameNow_6 (v := (110 : Int32)) (by decide) ?_
  refine zr_bipush C dX11_nameNow_8 (v := (101 : Int32)) (by decide) ?_
  obtain ⟨r1, hr1, hJ⟩ := zb_e hJ
  refine zr_callVI C 105 (zk_lt zk_105 (by decide)) (zen_obj zk_105) (rfl : zcl[11]? = some (RX11, TX11, 56)) (M_X11_is G l hr1) zin_X11_is zm_18_1 rfl rfl (Nat.le_of_ble_eq_true rfl) ⟨Nat.le_of_ble_eq_true rfl, Nat.le_of_ble_eq_true rfl⟩ ⟨Nat.le_of_ble_eq_true rfl, Nat.le_of_ble_eq_true rfl⟩ dX11_nameNow_10 ?_
  refine zr_if_eq C 20 dX11_nameNow_13 (by decide) (fun hc2 => ?_) (fun hc2 => ?_)
  · have hJ := zif hc2 hJ
    refine zr_aload_n C 0 dX11_nameNow_20 rfl ?_
    refine zr_iconst C dX11_nameNow_21 (v := (4 : Int32)) (by decide) ?_
    refine zr_bipush C dX11_nameNow_22 (v := (108 : Int32)) (by decide) ?_
    refine zr_bipush C dX11_nameNow_24 (v := (111 : Int32)) (by decide) ?_
    refine zr_bipush C dX11_nameNow_26 (v := (111 : Int32)) (by decide) ?_
    refine zr_bipush C dX11_nameNow_28 (v := (112 : Int32)) (by decide) ?_
    obtain ⟨r3, hr3, hJ⟩ := zb_e hJ
    refine zr_callVI C 105 (zk_lt zk_105 (by decide)) (zen_obj zk_105) (rfl : zcl[11]? = some (RX11, TX11, 56)) (M_X11_is G l hr3) zin_X11_is zm_18_1 rfl rfl (Nat.le_of_ble_eq_true rfl) ⟨Nat.le_of_ble_eq_true rfl, Nat.le_of_ble_eq_true rfl⟩ ⟨Nat.le_of_ble_eq_true rfl, Nat.le_of_ble_eq_true rfl⟩ dX11_nameNow_30 ?_
    refine zr_if_eq C 40 dX11_nameNow_33 (by decide) (fun hc4 => ?_) (fun hc4 => ?_)
    · have hJ := zif hc4 hJ
      refine zr_aload_n C 0 dX11_nameNow_40 rfl ?_
      refine zr_iconst C dX11_nameNow_41 (v := (3 : Int32)) (by decide) ?_
      refine zr_bipush C dX11_nameNow_42 (v := (101 : Int32)) (by decide) ?_
      refine zr_bipush C dX11_nameNow_44 (v := (110 : Int32)) (by decide) ?_
      refine zr_bipush C dX11_nameNow_46 (v := (100 : Int32)) (by decide) ?_
      refine zr_iconst C dX11_nameNow_48 (v := (0 : Int32)) (by decide) ?_
      obtain ⟨r5, hr5, hJ⟩ := zb_e hJ
      refine zr_callVI C 105 (zk_lt zk_105 (by decide)) (zen_obj zk_105) (rfl : zcl[11]? = some (RX11, TX11, 56)) (M_X11_is G l hr5) zin_X11_is zm_18_1 rfl rfl (Nat.le_of_ble_eq_true rfl) ⟨Nat.le_of_ble_eq_true rfl, Nat.le_of_ble_eq_true rfl⟩ ⟨Nat.le_of_ble_eq_true rfl, Nat.le_of_ble_eq_true rfl⟩ dX11_nameNow_49 ?_
      refine zr_if_eq C 59 dX11_nameNow_52 (by decide) (fun hc6 => ?_) (fun hc6 => ?_)
      · have hJ := zif hc6 hJ
        refine zr_bipush C dX11_nameNow_59 (v := (-4 : Int32)) (by decide) ?_
        exact zr_iret C hret (zs_e hJ) rfl rfl dX11_nameNow_61
      · have hJ := zif' hc6 hJ
        refine zr_iconst C dX11_nameNow_55 (v := (2 : Int32)) (by decide) ?_
        refine zr_goto C 61 dX11_nameNow_56 (by decide) ?_
        exact zr_iret C hret (zs_e hJ) rfl rfl dX11_nameNow_61
    · have hJ := zif' hc4 hJ
      refine zr_iconst C dX11_nameNow_36 (v := (1 : Int32)) (by decide) ?_
      refine zr_goto C 61 dX11_nameNow_37 (by decide) ?_
      exact zr_iret C hret (zs_e hJ) rfl rfl dX11_nameNow_61
  · have hJ := zif' hc2 hJ
    refine zr_iconst C dX11_nameNow_16 (v := (0 : Int32)) (by decide) ?_
    refine zr_goto C 61 dX11_nameNow_17 (by decide) ?_
    exact zr_iret C hret (zs_e hJ) rfl rfl dX11_nameNow_61
theorem dX11_wants_0 : decode cX11_wants 0 = .ok (.iload_n 1, 1) := by decide +kernel
theorem dX11_wants_1 : decode cX11_wants 1 = .ok (.ifCond .ne 23, 3) := by decide +kernel
theorem dX11_wants_4 : decode cX11_wants 4 = .ok (.aload_n 0, 1) := by decide +kernel
theorem dX11_wants_5 : decode cX11_wants 5 = .ok (.getfield 128, 3) := by decide +kernel
theorem dX11_wants_8 : decode cX11_wants 8 = .ok (.ifCond .ne 16, 3) := by decide +kernel
theorem dX11_wants_11 : decode cX11_wants 11 = .ok (.aload_n 0, 1) := by decide +kernel
theorem dX11_wants_12 : decode cX11_wants 12 = .ok (.iload_n 2, 1) := by decide +kernel
theorem dX11_wants_13 : decode cX11_wants 13 = .ok (.putfield 128, 3) := by decide +kernel
theorem dX11_wants_16 : decode cX11_wants 16 = .ok (.aload_n 0, 1) := by decide +kernel
theorem dX11_wants_17 : decode cX11_wants 17 = .ok (.aload_n 0, 1) := by decide +kernel
theorem dX11_wants_18 : decode cX11_wants 18 = .ok (.getfield 131, 3) := by decide +kernel
theorem dX11_wants_21 : decode cX11_wants 21 = .ok (.putfield 134, 3) := by decide +kernel
theorem dX11_wants_24 : decode cX11_wants 24 = .ok (.return_, 1) := by decide +kernel
set_option maxRecDepth 100000 in
set_option maxHeartbeats 4000000 in
theorem M_X11_wants (G : zG) (l : Launch) {a1 : Int32} {a2 : Int32} {σ : zS} {σ' : zS} (hJ : J_X11_wants a1 a2 σ = some σ') : zMV G l yX11_wants cX11_wants 3 none (zrm 0 0) [.ref (G.1 + 105), .int a1, .int a2] 137 (zen G σ) 137 (zen G σ') := by
  unfold J_X11_wants at hJ
  refine zentV (by decide +kernel) (Nat.le_of_ble_eq_true rfl) ?_
  intro p e s m args below meth c C hret
  refine zr_sub [0, 1, 2] [(0, .ref (G.1 + 105)), (1, .int a1), (2, .int a2)] rfl ?_
  refine zr_iload_n C 1 dX11_wants_0 rfl ?_
  refine zr_if_ne C 24 dX11_wants_1 (by decide) (fun hc1 => ?_) (fun hc1 => ?_)
  · have hJ := zif' hc1 hJ
    exact zr_vret C hret rfl (congrArg (zen G) (zs_e hJ)) dX11_wants_24
  · have hJ := zif hc1 hJ
    refine zr_aload_n C 0 dX11_wants_4 rfl ?_
    refine zg_11_30 C 105 zk_105 zm_16_13 dX11_wants_5 ?_
    refine zr_if_ne C 24 dX11_wants_8 (by decide) (fun hc2 => ?_) (fun hc2 => ?_)
    · have hJ := zif' hc2 hJ
      exact zr_vret C hret rfl (congrArg (zen G) (zs_e hJ)) dX11_wants_24
    · have hJ := zif hc2 hJ
      refine zr_aload_n C 0 dX11_wants_11 rfl ?_
      refine zr_iload_n C 2 dX11_wants_12 rfl ?_
      obtain ⟨σ3, hσ3, hJ⟩ := zlet_e hJ
      refine zp_11_30 C 105 zk_105 zm_16_13 hσ3 dX11_wants_13 ?_
      refine zr_aload_n C 0 dX11_wants_16 rfl ?_
      refine zr_aload_n C 0 dX11_wants_17 rfl ?_
      refine zg_11_27 C 105 zk_105 zm_17_3 dX11_wants_18 ?_
      obtain ⟨σ4, hσ4, hJ⟩ := zlet_e hJ
      refine zp_11_31 C 105 zk_105 zm_16_21 hσ4 dX11_wants_21 ?_
      exact zr_vret C hret rfl (congrArg (zen G) (zs_e hJ)) dX11_wants_24
theorem dX11_next_0 : decode cX11_next 0 = .ok (.aload_n 0, 1) := by decide +kernel
theorem dX11_next_1 : decode cX11_next 1 = .ok (.getfield 128, 3) := by decide +kernel
theorem dX11_next_4 : decode cX11_next 4 = .ok (.ifCond .le 4, 3) := by decide +kernel
theorem dX11_next_7 : decode cX11_next 7 = .ok (.return_, 1) := by decide +kernel
theorem dX11_next_8 : decode cX11_next 8 = .ok (.aload_n 0, 1) := by decide +kernel
theorem dX11_next_9 : decode cX11_next 9 = .ok (.aload_n 0, 1) := by decide +kernel
theorem dX11_next_10 : decode cX11_next 10 = .ok (.getfield 137, 3) := by decide +kernel
theorem dX11_next_13 : decode cX11_next 13 = .ok (.invokevirtual 140, 3) := by decide +kernel
theorem dX11_next_16 : decode cX11_next 16 = .ok (.bipush 32, 2) := by decide +kernel
theorem dX11_next_18 : decode cX11_next 18 = .ok (.if_icmp .ne 16, 3) := by decide +kernel
theorem dX11_next_21 : decode cX11_next 21 = .ok (.aload_n 0, 1) := by decide +kernel
theorem dX11_next_22 : decode cX11_next 22 = .ok (.dup, 1) := by decide +kernel
theorem dX11_next_23 : decode cX11_next 23 = .ok (.getfield 137, 3) := by decide +kernel
theorem dX11_next_26 : decode cX11_next 26 = .ok (.iconst 1, 1) := by decide +kernel
theorem dX11_next_27 : decode cX11_next 27 = .ok (.iadd, 1) := by decide +kernel
theorem dX11_next_28 : decode cX11_next 28 = .ok (.putfield 137, 3) := by decide +kernel
theorem dX11_next_31 : decode cX11_next 31 = .ok (.goto (-23), 3) := by decide +kernel
theorem dX11_next_34 : decode cX11_next 34 = .ok (.aload_n 0, 1) := by decide +kernel
theorem dX11_next_35 : decode cX11_next 35 = .ok (.aload_n 0, 1) := by decide +kernel
theorem dX11_next_36 : decode cX11_next 36 = .ok (.getfield 137, 3) := by decide +kernel
theorem dX11_next_39 : decode cX11_next 39 = .ok (.putfield 131, 3) := by decide +kernel
theorem dX11_next_42 : decode cX11_next 42 = .ok (.aload_n 0, 1) := by decide +kernel
theorem dX11_next_43 : decode cX11_next 43 = .ok (.aload_n 0, 1) := by decide +kernel
theorem dX11_next_44 : decode cX11_next 44 = .ok (.getfield 137, 3) := by decide +kernel
theorem dX11_next_47 : decode cX11_next 47 = .ok (.invokevirtual 140, 3) := by decide +kernel
theorem dX11_next_50 : decode cX11_next 50 = .ok (.istore_n 1, 1) := by decide +kernel
theorem dX11_next_51 : decode cX11_next 51 = .ok (.iload_n 1, 1) := by decide +kernel
theorem dX11_next_52 : decode cX11_next 52 = .ok (.ifCond .ge 11, 3) := by decide +kernel
theorem dX11_next_55 : decode cX11_next 55 = .ok (.aload_n 0, 1) := by decide +kernel
theorem dX11_next_56 : decode cX11_next 56 = .ok (.iconst 0, 1) := by decide +kernel
theorem dX11_next_57 : decode cX11_next 57 = .ok (.putfield 148, 3) := by decide +kernel
theorem dX11_next_60 : decode cX11_next 60 = .ok (.goto 214, 3) := by decide +kernel
theorem dX11_next_63 : decode cX11_next 63 = .ok (.iload_n 1, 1) := by decide +kernel
theorem dX11_next_64 : decode cX11_next 64 = .ok (.i2l, 1) := by decide +kernel
theorem dX11_next_65 : decode cX11_next 65 = .ok (.ldc2_w 151, 3) := by decide +kernel
theorem dX11_next_68 : decode cX11_next 68 = .ok (.ldc2_w 153, 3) := by decide +kernel
theorem dX11_next_71 : decode cX11_next 71 = .ok (.invokestatic 124, 3) := by decide +kernel
theorem dX11_next_74 : decode cX11_next 74 = .ok (.ifCond .eq 42, 3) := by decide +kernel
theorem dX11_next_77 : decode cX11_next 77 = .ok (.aload_n 0, 1) := by decide +kernel
theorem dX11_next_78 : decode cX11_next 78 = .ok (.iconst 1, 1) := by decide +kernel
theorem dX11_next_79 : decode cX11_next 79 = .ok (.putfield 148, 3) := by decide +kernel
theorem dX11_next_82 : decode cX11_next 82 = .ok (.aload_n 0, 1) := by decide +kernel
theorem dX11_next_83 : decode cX11_next 83 = .ok (.aload_n 0, 1) := by decide +kernel
theorem dX11_next_84 : decode cX11_next 84 = .ok (.getfield 137, 3) := by decide +kernel
theorem dX11_next_87 : decode cX11_next 87 = .ok (.invokevirtual 140, 3) := by decide +kernel
theorem dX11_next_90 : decode cX11_next 90 = .ok (.i2l, 1) := by decide +kernel
theorem dX11_next_91 : decode cX11_next 91 = .ok (.ldc2_w 151, 3) := by decide +kernel
theorem dX11_next_94 : decode cX11_next 94 = .ok (.ldc2_w 153, 3) := by decide +kernel
theorem dX11_next_97 : decode cX11_next 97 = .ok (.invokestatic 124, 3) := by decide +kernel
theorem dX11_next_100 : decode cX11_next 100 = .ok (.ifCond .eq 174, 3) := by decide +kernel
theorem dX11_next_103 : decode cX11_next 103 = .ok (.aload_n 0, 1) := by decide +kernel
theorem dX11_next_104 : decode cX11_next 104 = .ok (.dup, 1) := by decide +kernel
theorem dX11_next_105 : decode cX11_next 105 = .ok (.getfield 137, 3) := by decide +kernel
theorem dX11_next_108 : decode cX11_next 108 = .ok (.iconst 1, 1) := by decide +kernel
theorem dX11_next_109 : decode cX11_next 109 = .ok (.iadd, 1) := by decide +kernel
theorem dX11_next_110 : decode cX11_next 110 = .ok (.putfield 137, 3) := by decide +kernel
theorem dX11_next_113 : decode cX11_next 113 = .ok (.goto (-31), 3) := by decide +kernel
theorem dX11_next_116 : decode cX11_next 116 = .ok (.iload_n 1, 1) := by decide +kernel
theorem dX11_next_117 : decode cX11_next 117 = .ok (.i2l, 1) := by decide +kernel
theorem dX11_next_118 : decode cX11_next 118 = .ok (.ldc2_w 155, 3) := by decide +kernel
theorem dX11_next_121 : decode cX11_next 121 = .ok (.ldc2_w 157, 3) := by decide +kernel
theorem dX11_next_124 : decode cX11_next 124 = .ok (.invokestatic 124, 3) := by decide +kernel
theorem dX11_next_127 : decode cX11_next 127 = .ok (.ifCond .eq 116, 3) := by decide +kernel
theorem dX11_next_130 : decode cX11_next 130 = .ok (.aload_n 0, 1) := by decide +kernel
theorem dX11_next_131 : decode cX11_next 131 = .ok (.iconst 2, 1) := by decide +kernel
theorem dX11_next_132 : decode cX11_next 132 = .ok (.putfield 148, 3) := by decide +kernel
theorem dX11_next_135 : decode cX11_next 135 = .ok (.aload_n 0, 1) := by decide +kernel
theorem dX11_next_136 : decode cX11_next 136 = .ok (.iconst 0, 1) := by decide +kernel
theorem dX11_next_137 : decode cX11_next 137 = .ok (.putfield 159, 3) := by decide +kernel
theorem dX11_next_140 : decode cX11_next 140 = .ok (.aload_n 0, 1) := by decide +kernel
theorem dX11_next_141 : decode cX11_next 141 = .ok (.aload_n 0, 1) := by decide +kernel
theorem dX11_next_142 : decode cX11_next 142 = .ok (.getfield 137, 3) := by decide +kernel
theorem dX11_next_145 : decode cX11_next 145 = .ok (.invokevirtual 140, 3) := by decide +kernel
theorem dX11_next_148 : decode cX11_next 148 = .ok (.i2l, 1) := by decide +kernel
theorem dX11_next_149 : decode cX11_next 149 = .ok (.ldc2_w 155, 3) := by decide +kernel
theorem dX11_next_152 : decode cX11_next 152 = .ok (.ldc2_w 157, 3) := by decide +kernel
theorem dX11_next_155 : decode cX11_next 155 = .ok (.invokestatic 124, 3) := by decide +kernel
theorem dX11_next_158 : decode cX11_next 158 = .ok (.ifCond .eq 59, 3) := by decide +kernel
theorem dX11_next_161 : decode cX11_next 161 = .ok (.aload_n 0, 1) := by decide +kernel
theorem dX11_next_162 : decode cX11_next 162 = .ok (.aload_n 0, 1) := by decide +kernel
theorem dX11_next_163 : decode cX11_next 163 = .ok (.getfield 137, 3) := by decide +kernel
theorem dX11_next_166 : decode cX11_next 166 = .ok (.aload_n 0, 1) := by decide +kernel
theorem dX11_next_167 : decode cX11_next 167 = .ok (.getfield 131, 3) := by decide +kernel
theorem dX11_next_170 : decode cX11_next 170 = .ok (.isub, 1) := by decide +kernel
theorem dX11_next_171 : decode cX11_next 171 = .ok (.iconst 2, 1) := by decide +kernel
theorem dX11_next_172 : decode cX11_next 172 = .ok (.if_icmp .ge 25, 3) := by decide +kernel
theorem dX11_next_175 : decode cX11_next 175 = .ok (.bipush 10, 2) := by decide +kernel
theorem dX11_next_177 : decode cX11_next 177 = .ok (.aload_n 0, 1) := by decide +kernel
theorem dX11_next_178 : decode cX11_next 178 = .ok (.getfield 159, 3) := by decide +kernel
theorem dX11_next_181 : decode cX11_next 181 = .ok (.imul, 1) := by decide +kernel
theorem dX11_next_182 : decode cX11_next 182 = .ok (.aload_n 0, 1) := by decide +kernel
theorem dX11_next_183 : decode cX11_next 183 = .ok (.aload_n 0, 1) := by decide +kernel
theorem dX11_next_184 : decode cX11_next 184 = .ok (.getfield 137, 3) := by decide +kernel
theorem dX11_next_187 : decode cX11_next 187 = .ok (.invokevirtual 140, 3) := by decide +kernel
theorem dX11_next_190 : decode cX11_next 190 = .ok (.iadd, 1) := by decide +kernel
theorem dX11_next_191 : decode cX11_next 191 = .ok (.bipush 48, 2) := by decide +kernel
theorem dX11_next_193 : decode cX11_next 193 = .ok (.isub, 1) := by decide +kernel
theorem dX11_next_194 : decode cX11_next 194 = .ok (.goto 7, 3) := by decide +kernel
theorem dX11_next_197 : decode cX11_next 197 = .ok (.aload_n 0, 1) := by decide +kernel
theorem dX11_next_198 : decode cX11_next 198 = .ok (.getfield 159, 3) := by decide +kernel
theorem dX11_next_201 : decode cX11_next 201 = .ok (.putfield 159, 3) := by decide +kernel
theorem dX11_next_204 : decode cX11_next 204 = .ok (.aload_n 0, 1) := by decide +kernel
theorem dX11_next_205 : decode cX11_next 205 = .ok (.dup, 1) := by decide +kernel
theorem dX11_next_206 : decode cX11_next 206 = .ok (.getfield 137, 3) := by decide +kernel
theorem dX11_next_209 : decode cX11_next 209 = .ok (.iconst 1, 1) := by decide +kernel
theorem dX11_next_210 : decode cX11_next 210 = .ok (.iadd, 1) := by decide +kernel
theorem dX11_next_211 : decode cX11_next 211 = .ok (.putfield 137, 3) := by decide +kernel
theorem dX11_next_214 : decode cX11_next 214 = .ok (.goto (-74), 3) := by decide +kernel
theorem dX11_next_217 : decode cX11_next 217 = .ok (.aload_n 0, 1) := by decide +kernel
theorem dX11_next_218 : decode cX11_next 218 = .ok (.aload_n 0, 1) := by decide +kernel
theorem dX11_next_219 : decode cX11_next 219 = .ok (.getfield 137, 3) := by decide +kernel
theorem dX11_next_222 : decode cX11_next 222 = .ok (.aload_n 0, 1) := by decide +kernel
theorem dX11_next_223 : decode cX11_next 223 = .ok (.getfield 131, 3) := by decide +kernel
theorem dX11_next_226 : decode cX11_next 226 = .ok (.isub, 1) := by decide +kernel
theorem dX11_next_227 : decode cX11_next 227 = .ok (.iconst 2, 1) := by decide +kernel
theorem dX11_next_228 : decode cX11_next 228 = .ok (.if_icmp .gt 7, 3) := by decide +kernel
theorem dX11_next_231 : decode cX11_next 231 = .ok (.iconst 1, 1) := by decide +kernel
theorem dX11_next_232 : decode cX11_next 232 = .ok (.goto 4, 3) := by decide +kernel
theorem dX11_next_235 : decode cX11_next 235 = .ok (.iconst 0, 1) := by decide +kernel
theorem dX11_next_236 : decode cX11_next 236 = .ok (.iconst 1, 1) := by decide +kernel
theorem dX11_next_237 : decode cX11_next 237 = .ok (.invokevirtual 162, 3) := by decide +kernel
theorem dX11_next_240 : decode cX11_next 240 = .ok (.goto 34, 3) := by decide +kernel
theorem dX11_next_243 : decode cX11_next 243 = .ok (.aload_n 0, 1) := by decide +kernel
theorem dX11_next_244 : decode cX11_next 244 = .ok (.iconst 3, 1) := by decide +kernel
theorem dX11_next_245 : decode cX11_next 245 = .ok (.putfield 148, 3) := by decide +kernel
theorem dX11_next_248 : decode cX11_next 248 = .ok (.aload_n 0, 1) := by decide +kernel
theorem dX11_next_249 : decode cX11_next 249 = .ok (.iload_n 1, 1) := by decide +kernel
theorem dX11_next_250 : decode cX11_next 250 = .ok (.bipush 59, 2) := by decide +kernel
theorem dX11_next_252 : decode cX11_next 252 = .ok (.if_icmp .ne 7, 3) := by decide +kernel
theorem dX11_next_255 : decode cX11_next 255 = .ok (.iconst 1, 1) := by decide +kernel
theorem dX11_next_256 : decode cX11_next 256 = .ok (.goto 4, 3) := by decide +kernel
theorem dX11_next_259 : decode cX11_next 259 = .ok (.iconst 0, 1) := by decide +kernel
theorem dX11_next_260 : decode cX11_next 260 = .ok (.iconst 1, 1) := by decide +kernel
theorem dX11_next_261 : decode cX11_next 261 = .ok (.invokevirtual 162, 3) := by decide +kernel
theorem dX11_next_264 : decode cX11_next 264 = .ok (.aload_n 0, 1) := by decide +kernel
theorem dX11_next_265 : decode cX11_next 265 = .ok (.dup, 1) := by decide +kernel
theorem dX11_next_266 : decode cX11_next 266 = .ok (.getfield 137, 3) := by decide +kernel
theorem dX11_next_269 : decode cX11_next 269 = .ok (.iconst 1, 1) := by decide +kernel
theorem dX11_next_270 : decode cX11_next 270 = .ok (.iadd, 1) := by decide +kernel
theorem dX11_next_271 : decode cX11_next 271 = .ok (.putfield 137, 3) := by decide +kernel
theorem dX11_next_274 : decode cX11_next 274 = .ok (.return_, 1) := by decide +kernel
set_option maxRecDepth 100000 in
set_option maxHeartbeats 4000000 in
theorem M_X11_next (G : zG) (l : Launch) {σ : zS} {σ' : zS} (hJ : J_X11_next σ = some σ') : zMV G l yX11_next cX11_next 2 none (zrm 1 25) [.ref (G.1 + 105)] 137 (zen G σ) 137 (zen G σ') := by
  unfold J_X11_next at hJ
  refine zentV (by decide +kernel) (Nat.le_of_ble_eq_true rfl) ?_
  intro p e s m args below meth c C hret
  refine zr_sub [0] [(0, .ref (G.1 + 105))] rfl ?_
  refine zr_aload_n C 0 dX11_next_0 rfl ?_
  refine zg_11_30 C 105 zk_105 zm_16_13 dX11_next_1 ?_
  refine zr_if_le C 8 dX11_next_4 (by decide) (fun hc1 => ?_) (fun hc1 => ?_)
  · have hJ := zif hc1 hJ
    obtain ⟨k34, hk34, hJ⟩ := zlet_e hJ
    have hj34 : ∀ (σ_34 : zS), k34 σ_34 = some σ' → zU G 2 p l e (zrm 1 25) s m args below meth c (MQ below (va_Qv (fun (_ : Unit) => True) (fun _ t => zok G 137 (zen G σ') t) (zA G)) args s 0 0 (zA G)) σ_34 34 [(0, .ref (G.1 + 105))] [] := by
      intro σ_34 hJ
      rw [hk34] at hJ
      unfold D_X11_next_34 at hJ
      refine zr_aload_n C 0 dX11_next_34 rfl ?_
      refine zr_aload_n C 0 dX11_next_35 rfl ?_
      refine zg_11_26 C 105 zk_105 zm_16_14 dX11_next_36 ?_
      obtain ⟨σ2, hσ2, hJ⟩ := zlet_e hJ
      refine zp_11_27 C 105 zk_105 zm_17_3 hσ2 dX11_next_39 ?_
      refine zr_aload_n C 0 dX11_next_42 rfl ?_
      refine zr_aload_n C 0 dX11_next_43 rfl ?_
      refine zg_11_26 C 105 zk_105 zm_16_14 dX11_next_44 ?_
      obtain ⟨r3, hr3, hJ⟩ := zb_e hJ
      refine zr_callVI C 105 (zk_lt zk_105 (by decide)) (zen_obj zk_105) (rfl : zcl[11]? = some (RX11, TX11, 56)) (M_X11_look G l hr3) zin_X11_look zm_17_9 rfl rfl (Nat.le_of_ble_eq_true rfl) ⟨Nat.le_of_ble_eq_true rfl, Nat.le_of_ble_eq_true rfl⟩ ⟨Nat.le_of_ble_eq_true rfl, Nat.le_of_ble_eq_true rfl⟩ dX11_next_47 ?_
      refine zr_istore_n C [(1, .int r3), (0, .ref (G.1 + 105))] dX11_next_50 (by decide) rfl ?_
      refine zr_iload_n C 0 dX11_next_51 rfl ?_
      refine zr_if_ge C 63 dX11_next_52 (by decide) (fun hc4 => ?_) (fun hc4 => ?_)
      · have hJ := zif hc4 hJ
        refine zr_iload_n C 0 dX11_next_63 rfl ?_
        refine zr_i2l C dX11_next_64 ?_
        refine zr_ldc2 C dX11_next_65 zm_17_4 ?_
        refine zr_ldc2 C dX11_next_68 zm_17_5 ?_
        obtain ⟨r5, hr5, hJ⟩ := zb_e hJ
        refine zr_callSI C (M_X11_in G l hr5) zin_X11_in zm_9_22 rfl rfl (Nat.le_of_ble_eq_true rfl) ⟨Nat.le_of_ble_eq_true rfl, Nat.le_of_ble_eq_true rfl⟩ ⟨Nat.le_of_ble_eq_true rfl, Nat.le_of_ble_eq_true rfl⟩ dX11_next_71 ?_
        refine zr_if_eq C 116 dX11_next_74 (by decide) (fun hc6 => ?_) (fun hc6 => ?_)
        · have hJ := zif hc6 hJ
          refine zr_iload_n C 0 dX11_next_116 rfl ?_
          refine zr_i2l C dX11_next_117 ?_
          refine zr_ldc2 C dX11_next_118 zm_17_6 ?_
          refine zr_ldc2 C dX11_next_121 zm_17_7 ?_
          obtain ⟨r7, hr7, hJ⟩ := zb_e hJ
          refine zr_callSI C (M_X11_in G l hr7) zin_X11_in zm_9_22 rfl rfl (Nat.le_of_ble_eq_true rfl) ⟨Nat.le_of_ble_eq_true rfl, Nat.le_of_ble_eq_true rfl⟩ ⟨Nat.le_of_ble_eq_true rfl, Nat.le_of_ble_eq_true rfl⟩ dX11_next_124 ?_
          refine zr_if_eq C 243 dX11_next_127 (by decide) (fun hc8 => ?_) (fun hc8 => ?_)
          · have hJ := zif hc8 hJ
            refine zr_aload_n C 1 dX11_next_243 rfl ?_
            refine zr_iconst C dX11_next_244 (v := (3 : Int32)) (by decide) ?_
            obtain ⟨σ9, hσ9, hJ⟩ := zlet_e hJ
            refine zp_11_28 C 105 zk_105 zm_16_19 hσ9 dX11_next_245 ?_
            refine zr_aload_n C 1 dX11_next_248 rfl ?_
            refine zr_iload_n C 0 dX11_next_249 rfl ?_
            refine zr_bipush C dX11_next_250 (v := (59 : Int32)) (by decide) ?_
            obtain ⟨v10, hv10, hJ⟩ := zlet_e hJ
            have hf14 : zU G 2 p l e (zrm 1 25) s m args below meth c (MQ below (va_Qv (fun (_ : Unit) => True) (fun _ t => zok G 137 (zen G σ') t) (zA G)) args s 0 0 (zA G)) σ9 260 [(0, .ref (G.1 + 105))] [.int v10, .ref (G.1 + 105)] := by
              refine zr_iconst C dX11_next_260 (v := (1 : Int32)) (by decide) ?_
              obtain ⟨σ12, hr11, hJ⟩ := zb_e hJ
              refine zr_callVV C 105 (zk_lt zk_105 (by decide)) (zen_obj zk_105) (rfl : zcl[11]? = some (RX11, TX11, 56)) (M_X11_wants G l hr11) zin_X11_wants zm_17_13 rfl rfl (Nat.le_of_ble_eq_true rfl) ⟨Nat.le_of_ble_eq_true rfl, Nat.le_of_ble_eq_true rfl⟩ ⟨Nat.le_of_ble_eq_true rfl, Nat.le_of_ble_eq_true rfl⟩ dX11_next_261 ?_
              refine zr_aload_n C 0 dX11_next_264 rfl ?_
              refine zr_dup C dX11_next_265 rfl ?_
              refine zg_11_26 C 105 zk_105 zm_16_14 dX11_next_266 ?_
              refine zr_iconst C dX11_next_269 (v := (1 : Int32)) (by decide) ?_
              refine zr_iadd C dX11_next_270 ?_
              obtain ⟨σ13, hσ13, hJ⟩ := zlet_e hJ
              refine zp_11_26 C 105 zk_105 zm_16_14 hσ13 dX11_next_271 ?_
              exact zr_vret C hret rfl (congrArg (zen G) (zs_e hJ)) dX11_next_274
            refine zr_icmp_ne C 259 dX11_next_252 (by decide) (fun hc15 => ?_) (fun hc15 => ?_)
            · have hv10 := hv10.trans (if_neg hc15)
              refine zr_iconst C dX11_next_259 (v := (0 : Int32)) (by decide) ?_
              refine zr_sub [1] [(0, .ref (G.1 + 105))] rfl ?_
              rw [hv10] at hf14
              exact hf14
            · have hv10 := hv10.trans (if_pos hc15)
              refine zr_iconst C dX11_next_255 (v := (1 : Int32)) (by decide) ?_
              refine zr_goto C 260 dX11_next_256 (by decide) ?_
              refine zr_sub [1] [(0, .ref (G.1 + 105))] rfl ?_
              rw [hv10] at hf14
              exact hf14
          · have hJ := zif' hc8 hJ
            refine zr_aload_n C 1 dX11_next_130 rfl ?_
            refine zr_iconst C dX11_next_131 (v := (2 : Int32)) (by decide) ?_
            obtain ⟨σ16, hσ16, hJ⟩ := zlet_e hJ
            refine zp_11_28 C 105 zk_105 zm_16_19 hσ16 dX11_next_132 ?_
            refine zr_aload_n C 1 dX11_next_135 rfl ?_
            refine zr_iconst C dX11_next_136 (v := (0 : Int32)) (by decide) ?_
            obtain ⟨σ17, hσ17, hJ⟩ := zlet_e hJ
            refine zp_11_29 C 105 zk_105 zm_17_8 hσ17 dX11_next_137 ?_
            obtain ⟨k217, hk217, hJ⟩ := zlet_e hJ
            have hj217 : ∀ (σ_217 : zS), k217 σ_217 = some σ' → zU G 2 p l e (zrm 1 25) s m args below meth c (MQ below (va_Qv (fun (_ : Unit) => True) (fun _ t => zok G 137 (zen G σ') t) (zA G)) args s 0 0 (zA G)) σ_217 217 [(0, .ref (G.1 + 105))] [] := by
              intro σ_217 hJ
              rw [hk217] at hJ
              unfold D_X11_next_217 at hJ
              refine zr_aload_n C 0 dX11_next_217 rfl ?_
              refine zr_aload_n C 0 dX11_next_218 rfl ?_
              refine zg_11_26 C 105 zk_105 zm_16_14 dX11_next_219 ?_
              refine zr_aload_n C 0 dX11_next_222 rfl ?_
              refine zg_11_27 C 105 zk_105 zm_17_3 dX11_next_223 ?_
              refine zr_isub C dX11_next_226 ?_
              refine zr_iconst C dX11_next_227 (v := (2 : Int32)) (by decide) ?_
              obtain ⟨v18, hv18, hJ⟩ := zlet_e hJ
              have hf21 : zU G 2 p l e (zrm 1 25) s m args below meth c (MQ below (va_Qv (fun (_ : Unit) => True) (fun _ t => zok G 137 (zen G σ') t) (zA G)) args s 0 0 (zA G)) σ_217 236 [] [.int v18, .ref (G.1 + 105)] := by
                refine zr_iconst C dX11_next_236 (v := (1 : Int32)) (by decide) ?_
                obtain ⟨σ20, hr19, hJ⟩ := zb_e hJ
                refine zr_callVV C 105 (zk_lt zk_105 (by decide)) (zen_obj zk_105) (rfl : zcl[11]? = some (RX11, TX11, 56)) (M_X11_wants G l hr19) zin_X11_wants zm_17_13 rfl rfl (Nat.le_of_ble_eq_true rfl) ⟨Nat.le_of_ble_eq_true rfl, Nat.le_of_ble_eq_true rfl⟩ ⟨Nat.le_of_ble_eq_true rfl, Nat.le_of_ble_eq_true rfl⟩ dX11_next_237 ?_
                refine zr_goto C 274 dX11_next_240 (by decide) ?_
                exact zr_vret C hret rfl (congrArg (zen G) (zs_e hJ)) dX11_next_274
              refine zr_icmp_gt C 235 dX11_next_228 (by decide) (fun hc22 => ?_) (fun hc22 => ?_)
              · have hv18 := hv18.trans (if_pos hc22)
                refine zr_iconst C dX11_next_235 (v := (0 : Int32)) (by decide) ?_
                refine zr_sub [] [] rfl ?_
                rw [hv18] at hf21
                exact hf21
              · have hv18 := hv18.trans (if_neg hc22)
                refine zr_iconst C dX11_next_231 (v := (1 : Int32)) (by decide) ?_
                refine zr_goto C 236 dX11_next_232 (by decide) ?_
                refine zr_sub [] [] rfl ?_
                rw [hv18] at hf21
                exact hf21
            have hl140 : ∀ (n : Nat) (σ_140 : zS), L_X11_next_140 k217 n σ_140 = some σ' → zU G 2 p l e (zrm 1 25) s m args below meth c (MQ below (va_Qv (fun (_ : Unit) => True) (fun _ t => zok G 137 (zen G σ') t) (zA G)) args s 0 0 (zA G)) σ_140 140 [(0, .ref (G.1 + 105))] [] := by
              intro n
              induction n with
              | zero =>
                intro σ_140 hJ
                rw [L_X11_next_140] at hJ
                cases hJ
              | succ n ih =>
                intro σ_140 hJ
                rw [L_X11_next_140] at hJ
                obtain ⟨r_140, hr_140, hJ⟩ := zlet_e hJ
                have ih140 : ∀ (σ_140 : zS), r_140 σ_140 = some σ' → zU G 2 p l e (zrm 1 25) s m args below meth c (MQ below (va_Qv (fun (_ : Unit) => True) (fun _ t => zok G 137 (zen G σ') t) (zA G)) args s 0 0 (zA G)) σ_140 140 [(0, .ref (G.1 + 105))] [] := by
                  rw [hr_140]
                  exact ih
                refine zr_aload_n C 0 dX11_next_140 rfl ?_
                refine zr_aload_n C 0 dX11_next_141 rfl ?_
                refine zg_11_26 C 105 zk_105 zm_16_14 dX11_next_142 ?_
                obtain ⟨r23, hr23, hJ⟩ := zb_e hJ
                refine zr_callVI C 105 (zk_lt zk_105 (by decide)) (zen_obj zk_105) (rfl : zcl[11]? = some (RX11, TX11, 56)) (M_X11_look G l hr23) zin_X11_look zm_17_9 rfl rfl (Nat.le_of_ble_eq_true rfl) ⟨Nat.le_of_ble_eq_true rfl, Nat.le_of_ble_eq_true rfl⟩ ⟨Nat.le_of_ble_eq_true rfl, Nat.le_of_ble_eq_true rfl⟩ dX11_next_145 ?_
                refine zr_i2l C dX11_next_148 ?_
                refine zr_ldc2 C dX11_next_149 zm_17_6 ?_
                refine zr_ldc2 C dX11_next_152 zm_17_7 ?_
                obtain ⟨r24, hr24, hJ⟩ := zb_e hJ
                refine zr_callSI C (M_X11_in G l hr24) zin_X11_in zm_9_22 rfl rfl (Nat.le_of_ble_eq_true rfl) ⟨Nat.le_of_ble_eq_true rfl, Nat.le_of_ble_eq_true rfl⟩ ⟨Nat.le_of_ble_eq_true rfl, Nat.le_of_ble_eq_true rfl⟩ dX11_next_155 ?_
                refine zr_if_eq C 217 dX11_next_158 (by decide) (fun hc25 => ?_) (fun hc25 => ?_)
                · have hJ := zif hc25 hJ
                  exact hj217 _ hJ
                · have hJ := zif' hc25 hJ
                  refine zr_aload_n C 0 dX11_next_161 rfl ?_
                  refine zr_aload_n C 0 dX11_next_162 rfl ?_
                  refine zg_11_26 C 105 zk_105 zm_16_14 dX11_next_163 ?_
                  refine zr_aload_n C 0 dX11_next_166 rfl ?_
                  refine zg_11_27 C 105 zk_105 zm_17_3 dX11_next_167 ?_
                  refine zr_isub C dX11_next_170 ?_
                  refine zr_iconst C dX11_next_171 (v := (2 : Int32)) (by decide) ?_
                  obtain ⟨k201, hk201, hJ⟩ := zlet_e hJ
                  have hj201 : ∀ (x0_201 : Int32), k201 x0_201 = some σ' → zU G 2 p l e (zrm 1 25) s m args below meth c (MQ below (va_Qv (fun (_ : Unit) => True) (fun _ t => zok G 137 (zen G σ') t) (zA G)) args s 0 0 (zA G)) σ_140 201 [(0, .ref (G.1 + 105))] [.int x0_201, .ref (G.1 + 105)] := by
                    intro x0_201 hJ
                    rw [hk201] at hJ
                    unfold D_X11_next_201 at hJ
                    obtain ⟨σ26, hσ26, hJ⟩ := zlet_e hJ
                    refine zp_11_29 C 105 zk_105 zm_17_8 hσ26 dX11_next_201 ?_
                    refine zr_aload_n C 0 dX11_next_204 rfl ?_
                    refine zr_dup C dX11_next_205 rfl ?_
                    refine zg_11_26 C 105 zk_105 zm_16_14 dX11_next_206 ?_
                    refine zr_iconst C dX11_next_209 (v := (1 : Int32)) (by decide) ?_
                    refine zr_iadd C dX11_next_210 ?_
                    obtain ⟨σ27, hσ27, hJ⟩ := zlet_e hJ
                    refine zp_11_26 C 105 zk_105 zm_16_14 hσ27 dX11_next_211 ?_
                    refine zr_goto C 140 dX11_next_214 (by decide) ?_
                    exact ih140 _ hJ
                  refine zr_icmp_ge C 197 dX11_next_172 (by decide) (fun hc28 => ?_) (fun hc28 => ?_)
                  · have hJ := zif hc28 hJ
                    refine zr_aload_n C 0 dX11_next_197 rfl ?_
                    refine zg_11_29 C 105 zk_105 zm_17_8 dX11_next_198 ?_
                    exact hj201 _ hJ
                  · have hJ := zif' hc28 hJ
                    refine zr_bipush C dX11_next_175 (v := (10 : Int32)) (by decide) ?_
                    refine zr_aload_n C 0 dX11_next_177 rfl ?_
                    refine zg_11_29 C 105 zk_105 zm_17_8 dX11_next_178 ?_
                    refine zr_imul C dX11_next_181 ?_
                    refine zr_aload_n C 0 dX11_next_182 rfl ?_
                    refine zr_aload_n C 0 dX11_next_183 rfl ?_
                    refine zg_11_26 C 105 zk_105 zm_16_14 dX11_next_184 ?_
                    obtain ⟨r29, hr29, hJ⟩ := zb_e hJ
                    refine zr_callVI C 105 (zk_lt zk_105 (by decide)) (zen_obj zk_105) (rfl : zcl[11]? = some (RX11, TX11, 56)) (M_X11_look G l hr29) zin_X11_look zm_17_9 rfl rfl (Nat.le_of_ble_eq_true rfl) ⟨Nat.le_of_ble_eq_true rfl, Nat.le_of_ble_eq_true rfl⟩ ⟨Nat.le_of_ble_eq_true rfl, Nat.le_of_ble_eq_true rfl⟩ dX11_next_187 ?_
                    refine zr_iadd C dX11_next_190 ?_
                    refine zr_bipush C dX11_next_191 (v := (48 : Int32)) (by decide) ?_
                    refine zr_isub C dX11_next_193 ?_
                    refine zr_goto C 201 dX11_next_194 (by decide) ?_
                    exact hj201 _ hJ
            refine zr_sub [1] [(0, .ref (G.1 + 105))] rfl ?_
            exact hl140 _ _ hJ
        · have hJ := zif' hc6 hJ
          refine zr_aload_n C 1 dX11_next_77 rfl ?_
          refine zr_iconst C dX11_next_78 (v := (1 : Int32)) (by decide) ?_
          obtain ⟨σ30, hσ30, hJ⟩ := zlet_e hJ
          refine zp_11_28 C 105 zk_105 zm_16_19 hσ30 dX11_next_79 ?_
          have hl82 : ∀ (n : Nat) (σ_82 : zS), L_X11_next_82 n σ_82 = some σ' → zU G 2 p l e (zrm 1 25) s m args below meth c (MQ below (va_Qv (fun (_ : Unit) => True) (fun _ t => zok G 137 (zen G σ') t) (zA G)) args s 0 0 (zA G)) σ_82 82 [(0, .ref (G.1 + 105))] [] := by
            intro n
            induction n with
            | zero =>
              intro σ_82 hJ
              rw [L_X11_next_82] at hJ
              cases hJ
            | succ n ih =>
              intro σ_82 hJ
              rw [L_X11_next_82] at hJ
              obtain ⟨r_82, hr_82, hJ⟩ := zlet_e hJ
              have ih82 : ∀ (σ_82 : zS), r_82 σ_82 = some σ' → zU G 2 p l e (zrm 1 25) s m args below meth c (MQ below (va_Qv (fun (_ : Unit) => True) (fun _ t => zok G 137 (zen G σ') t) (zA G)) args s 0 0 (zA G)) σ_82 82 [(0, .ref (G.1 + 105))] [] := by
                rw [hr_82]
                exact ih
              refine zr_aload_n C 0 dX11_next_82 rfl ?_
              refine zr_aload_n C 0 dX11_next_83 rfl ?_
              refine zg_11_26 C 105 zk_105 zm_16_14 dX11_next_84 ?_
              obtain ⟨r31, hr31, hJ⟩ := zb_e hJ
              refine zr_callVI C 105 (zk_lt zk_105 (by decide)) (zen_obj zk_105) (rfl : zcl[11]? = some (RX11, TX11, 56)) (M_X11_look G l hr31) zin_X11_look zm_17_9 rfl rfl (Nat.le_of_ble_eq_true rfl) ⟨Nat.le_of_ble_eq_true rfl, Nat.le_of_ble_eq_true rfl⟩ ⟨Nat.le_of_ble_eq_true rfl, Nat.le_of_ble_eq_true rfl⟩ dX11_next_87 ?_
              refine zr_i2l C dX11_next_90 ?_
              refine zr_ldc2 C dX11_next_91 zm_17_4 ?_
              refine zr_ldc2 C dX11_next_94 zm_17_5 ?_
              obtain ⟨r32, hr32, hJ⟩ := zb_e hJ
              refine zr_callSI C (M_X11_in G l hr32) zin_X11_in zm_9_22 rfl rfl (Nat.le_of_ble_eq_true rfl) ⟨Nat.le_of_ble_eq_true rfl, Nat.le_of_ble_eq_true rfl⟩ ⟨Nat.le_of_ble_eq_true rfl, Nat.le_of_ble_eq_true rfl⟩ dX11_next_97 ?_
              refine zr_if_eq C 274 dX11_next_100 (by decide) (fun hc33 => ?_) (fun hc33 => ?_)
              · have hJ := zif hc33 hJ
                exact zr_vret C hret rfl (congrArg (zen G) (zs_e hJ)) dX11_next_274
              · have hJ := zif' hc33 hJ
                refine zr_aload_n C 0 dX11_next_103 rfl ?_
                refine zr_dup C dX11_next_104 rfl ?_
                refine zg_11_26 C 105 zk_105 zm_16_14 dX11_next_105 ?_
                refine zr_iconst C dX11_next_108 (v := (1 : Int32)) (by decide) ?_
                refine zr_iadd C dX11_next_109 ?_
                obtain ⟨σ34, hσ34, hJ⟩ := zlet_e hJ
                refine zp_11_26 C 105 zk_105 zm_16_14 hσ34 dX11_next_110 ?_
                refine zr_goto C 82 dX11_next_113 (by decide) ?_
                exact ih82 _ hJ
          refine zr_sub [1] [(0, .ref (G.1 + 105))] rfl ?_
          exact hl82 _ _ hJ
      · have hJ := zif' hc4 hJ
        refine zr_aload_n C 1 dX11_next_55 rfl ?_
        refine zr_iconst C dX11_next_56 (v := (0 : Int32)) (by decide) ?_
        obtain ⟨σ35, hσ35, hJ⟩ := zlet_e hJ
        refine zp_11_28 C 105 zk_105 zm_16_19 hσ35 dX11_next_57 ?_
        refine zr_goto C 274 dX11_next_60 (by decide) ?_
        exact zr_vret C hret rfl (congrArg (zen G) (zs_e hJ)) dX11_next_274
    have hl8 : ∀ (n : Nat) (σ_8 : zS), L_X11_next_8 k34 n σ_8 = some σ' → zU G 2 p l e (zrm 1 25) s m args below meth c (MQ below (va_Qv (fun (_ : Unit) => True) (fun _ t => zok G 137 (zen G σ') t) (zA G)) args s 0 0 (zA G)) σ_8 8 [(0, .ref (G.1 + 105))] [] := by
      intro n
      induction n with
      | zero =>
        intro σ_8 hJ
        rw [L_X11_next_8] at hJ
        cases hJ
      | succ n ih =>
        intro σ_8 hJ
        rw [L_X11_next_8] at hJ
        obtain ⟨r_8, hr_8, hJ⟩ := zlet_e hJ
        have ih8 : ∀ (σ_8 : zS), r_8 σ_8 = some σ' → zU G 2 p l e (zrm 1 25) s m args below meth c (MQ below (va_Qv (fun (_ : Unit) => True) (fun _ t => zok G 137 (zen G σ') t) (zA G)) args s 0 0 (zA G)) σ_8 8 [(0, .ref (G.1 + 105))] [] := by
          rw [hr_8]
          exact ih
        refine zr_aload_n C 0 dX11_next_8 rfl ?_
        refine zr_aload_n C 0 dX11_next_9 rfl ?_
        refine zg_11_26 C 105 zk_105 zm_16_14 dX11_next_10 ?_
        obtain ⟨r36, hr36, hJ⟩ := zb_e hJ
        refine zr_callVI C 105 (zk_lt zk_105 (by decide)) (zen_obj zk_105) (rfl : zcl[11]? = some (RX11, TX11, 56)) (M_X11_look G l hr36) zin_X11_look zm_17_9 rfl rfl (Nat.le_of_ble_eq_true rfl) ⟨Nat.le_of_ble_eq_true rfl, Nat.le_of_ble_eq_true rfl⟩ ⟨Nat.le_of_ble_eq_true rfl, Nat.le_of_ble_eq_true rfl⟩ dX11_next_13 ?_
        refine zr_bipush C dX11_next_16 (v := (32 : Int32)) (by decide) ?_
        refine zr_icmp_ne C 34 dX11_next_18 (by decide) (fun hc37 => ?_) (fun hc37 => ?_)
        · have hJ := zif' hc37 hJ
          exact hj34 _ hJ
        · have hJ := zif hc37 hJ
          refine zr_aload_n C 0 dX11_next_21 rfl ?_
          refine zr_dup C dX11_next_22 rfl ?_
          refine zg_11_26 C 105 zk_105 zm_16_14 dX11_next_23 ?_
          refine zr_iconst C dX11_next_26 (v := (1 : Int32)) (by decide) ?_
          refine zr_iadd C dX11_next_27 ?_
          obtain ⟨σ38, hσ38, hJ⟩ := zlet_e hJ
          refine zp_11_26 C 105 zk_105 zm_16_14 hσ38 dX11_next_28 ?_
          refine zr_goto C 8 dX11_next_31 (by decide) ?_
          exact ih8 _ hJ
    exact hl8 _ _ hJ
  · have hJ := zif' hc1 hJ
    exact zr_vret C hret rfl (congrArg (zen G) (zs_e hJ)) dX11_next_7
theorem dX11_over_0 : decode cX11_over 0 = .ok (.aload_n 0, 1) := by decide +kernel
theorem dX11_over_1 : decode cX11_over 1 = .ok (.iload_n 1, 1) := by decide +kernel
theorem dX11_over_2 : decode cX11_over 2 = .ok (.iload_n 2, 1) := by decide +kernel
theorem dX11_over_3 : decode cX11_over 3 = .ok (.invokevirtual 352, 3) := by decide +kernel
theorem dX11_over_6 : decode cX11_over 6 = .ok (.ifCond .eq 34, 3) := by decide +kernel
theorem dX11_over_9 : decode cX11_over 9 = .ok (.iload_n 3, 1) := by decide +kernel
theorem dX11_over_10 : decode cX11_over 10 = .ok (.i2l, 1) := by decide +kernel
theorem dX11_over_11 : decode cX11_over 11 = .ok (.lconst 0, 1) := by decide +kernel
theorem dX11_over_12 : decode cX11_over 12 = .ok (.iconst 1, 1) := by decide +kernel
theorem dX11_over_13 : decode cX11_over 13 = .ok (.aload_n 0, 1) := by decide +kernel
theorem dX11_over_14 : decode cX11_over 14 = .ok (.getfield 74, 3) := by decide +kernel
theorem dX11_over_17 : decode cX11_over 17 = .ok (.iload_n 1, 1) := by decide +kernel
theorem dX11_over_18 : decode cX11_over 18 = .ok (.iaload, 1) := by decide +kernel
theorem dX11_over_19 : decode cX11_over 19 = .ok (.ishl, 1) := by decide +kernel
theorem dX11_over_20 : decode cX11_over 20 = .ok (.iconst 1, 1) := by decide +kernel
theorem dX11_over_21 : decode cX11_over 21 = .ok (.isub, 1) := by decide +kernel
theorem dX11_over_22 : decode cX11_over 22 = .ok (.i2l, 1) := by decide +kernel
theorem dX11_over_23 : decode cX11_over 23 = .ok (.invokestatic 124, 3) := by decide +kernel
theorem dX11_over_26 : decode cX11_over 26 = .ok (.ifCond .eq 14, 3) := by decide +kernel
theorem dX11_over_29 : decode cX11_over 29 = .ok (.iload 4, 2) := by decide +kernel
theorem dX11_over_31 : decode cX11_over 31 = .ok (.i2l, 1) := by decide +kernel
theorem dX11_over_32 : decode cX11_over 32 = .ok (.lconst 0, 1) := by decide +kernel
theorem dX11_over_33 : decode cX11_over 33 = .ok (.lconst 1, 1) := by decide +kernel
theorem dX11_over_34 : decode cX11_over 34 = .ok (.invokestatic 124, 3) := by decide +kernel
theorem dX11_over_37 : decode cX11_over 37 = .ok (.ifCond .ne 5, 3) := by decide +kernel
theorem dX11_over_40 : decode cX11_over 40 = .ok (.iconst (-1), 1) := by decide +kernel
theorem dX11_over_41 : decode cX11_over 41 = .ok (.ireturn, 1) := by decide +kernel
theorem dX11_over_42 : decode cX11_over 42 = .ok (.iload_n 3, 1) := by decide +kernel
theorem dX11_over_43 : decode cX11_over 43 = .ok (.aload_n 0, 1) := by decide +kernel
theorem dX11_over_44 : decode cX11_over 44 = .ok (.iload_n 2, 1) := by decide +kernel
theorem dX11_over_45 : decode cX11_over 45 = .ok (.invokevirtual 257, 3) := by decide +kernel
theorem dX11_over_48 : decode cX11_over 48 = .ok (.iadd, 1) := by decide +kernel
theorem dX11_over_49 : decode cX11_over 49 = .ok (.istore 5, 2) := by decide +kernel
theorem dX11_over_51 : decode cX11_over 51 = .ok (.iload 4, 2) := by decide +kernel
theorem dX11_over_53 : decode cX11_over 53 = .ok (.ifCond .ne 19, 3) := by decide +kernel
theorem dX11_over_56 : decode cX11_over 56 = .ok (.iload 5, 2) := by decide +kernel
theorem dX11_over_58 : decode cX11_over 58 = .ok (.iconst 1, 1) := by decide +kernel
theorem dX11_over_59 : decode cX11_over 59 = .ok (.aload_n 0, 1) := by decide +kernel
theorem dX11_over_60 : decode cX11_over 60 = .ok (.getfield 74, 3) := by decide +kernel
theorem dX11_over_63 : decode cX11_over 63 = .ok (.iload_n 1, 1) := by decide +kernel
theorem dX11_over_64 : decode cX11_over 64 = .ok (.iaload, 1) := by decide +kernel
theorem dX11_over_65 : decode cX11_over 65 = .ok (.ishl, 1) := by decide +kernel
theorem dX11_over_66 : decode cX11_over 66 = .ok (.iconst 1, 1) := by decide +kernel
theorem dX11_over_67 : decode cX11_over 67 = .ok (.isub, 1) := by decide +kernel
theorem dX11_over_68 : decode cX11_over 68 = .ok (.iand, 1) := by decide +kernel
theorem dX11_over_69 : decode cX11_over 69 = .ok (.goto 12, 3) := by decide +kernel
theorem dX11_over_72 : decode cX11_over 72 = .ok (.iload 5, 2) := by decide +kernel
theorem dX11_over_74 : decode cX11_over 74 = .ok (.aload_n 0, 1) := by decide +kernel
theorem dX11_over_75 : decode cX11_over 75 = .ok (.getfield 74, 3) := by decide +kernel
theorem dX11_over_78 : decode cX11_over 78 = .ok (.iload_n 1, 1) := by decide +kernel
theorem dX11_over_79 : decode cX11_over 79 = .ok (.iaload, 1) := by decide +kernel
theorem dX11_over_80 : decode cX11_over 80 = .ok (.ishr, 1) := by decide +kernel
theorem dX11_over_81 : decode cX11_over 81 = .ok (.ireturn, 1) := by decide +kernel
set_option maxRecDepth 100000 in
set_option maxHeartbeats 4000000 in
theorem M_X11_over (G : zG) (l : Launch) {a1 : Int32} {a2 : Int32} {a3 : Int32} {a4 : Int32} {σ : zS} {r : Int32} (hJ : J_X11_over a1 a2 a3 a4 σ = some r) : zMI G l yX11_over cX11_over 6 (some .int) (zrm 3 68) [.ref (G.1 + 105), .int a1, .int a2, .int a3, .int a4] 137 (zen G σ) r 137 (zen G σ) := by
  unfold J_X11_over at hJ
  refine zentI (by decide +kernel) (Nat.le_of_ble_eq_true rfl) ?_
  intro p e s m args below meth c C hret
  refine zr_sub [0, 1, 2, 3, 4] [(0, .ref (G.1 + 105)), (1, .int a1), (2, .int a2), (3, .int a3), (4, .int a4)] rfl ?_
  refine zr_aload_n C 0 dX11_over_0 rfl ?_
  refine zr_iload_n C 1 dX11_over_1 rfl ?_
  refine zr_iload_n C 2 dX11_over_2 rfl ?_
  obtain ⟨r1, hr1, hJ⟩ := zb_e hJ
  refine zr_callVI C 105 (zk_lt zk_105 (by decide)) (zen_obj zk_105) (rfl : zcl[11]? = some (RX11, TX11, 56)) (M_X11_canCount G l hr1) zin_X11_canCount zm_42_1 rfl rfl (Nat.le_of_ble_eq_true rfl) ⟨Nat.le_of_ble_eq_true rfl, Nat.le_of_ble_eq_true rfl⟩ ⟨Nat.le_of_ble_eq_true rfl, Nat.le_of_ble_eq_true rfl⟩ dX11_over_3 ?_
  refine zr_if_eq C 40 dX11_over_6 (by decide) (fun hc2 => ?_) (fun hc2 => ?_)
  · have hJ := zif hc2 hJ
    refine zr_iconst C dX11_over_40 (v := (-1 : Int32)) (by decide) ?_
    exact zr_iret C hret (zs_e hJ) rfl rfl dX11_over_41
  · have hJ := zif' hc2 hJ
    refine zr_iload_n C 3 dX11_over_9 rfl ?_
    refine zr_i2l C dX11_over_10 ?_
    refine zr_lconst C dX11_over_11 (v := (0 : Int64)) (by decide) ?_
    refine zr_iconst C dX11_over_12 (v := (1 : Int32)) (by decide) ?_
    refine zr_aload_n C 0 dX11_over_13 rfl ?_
    refine zg_11_38 C 105 zk_105 zm_8_8 dX11_over_14 ?_
    refine zr_iload_n C 1 dX11_over_17 rfl ?_
    obtain ⟨hg3, hJ⟩ := zg_e hJ
    refine zu_iald C 126 zk_126 hg3 dX11_over_18 ?_
    refine zr_ishl C dX11_over_19 ?_
    refine zr_iconst C dX11_over_20 (v := (1 : Int32)) (by decide) ?_
    refine zr_isub C dX11_over_21 ?_
    refine zr_i2l C dX11_over_22 ?_
    obtain ⟨r4, hr4, hJ⟩ := zb_e hJ
    refine zr_callSI C (M_X11_in G l hr4) zin_X11_in zm_9_22 rfl rfl (Nat.le_of_ble_eq_true rfl) ⟨Nat.le_of_ble_eq_true rfl, Nat.le_of_ble_eq_true rfl⟩ ⟨Nat.le_of_ble_eq_true rfl, Nat.le_of_ble_eq_true rfl⟩ dX11_over_23 ?_
    refine zr_if_eq C 40 dX11_over_26 (by decide) (fun hc5 => ?_) (fun hc5 => ?_)
    · have hJ := zif hc5 hJ
      refine zr_iconst C dX11_over_40 (v := (-1 : Int32)) (by decide) ?_
      exact zr_iret C hret (zs_e hJ) rfl rfl dX11_over_41
    · have hJ := zif' hc5 hJ
      refine zr_iload C 4 dX11_over_29 rfl ?_
      refine zr_i2l C dX11_over_31 ?_
      refine zr_lconst C dX11_over_32 (v := (0 : Int64)) (by decide) ?_
      refine zr_lconst C dX11_over_33 (v := (1 : Int64)) (by decide) ?_
      obtain ⟨r6, hr6, hJ⟩ := zb_e hJ
      refine zr_callSI C (M_X11_in G l hr6) zin_X11_in zm_9_22 rfl rfl (Nat.le_of_ble_eq_true rfl) ⟨Nat.le_of_ble_eq_true rfl, Nat.le_of_ble_eq_true rfl⟩ ⟨Nat.le_of_ble_eq_true rfl, Nat.le_of_ble_eq_true rfl⟩ dX11_over_34 ?_
      refine zr_if_ne C 42 dX11_over_37 (by decide) (fun hc7 => ?_) (fun hc7 => ?_)
      · have hJ := zif' hc7 hJ
        refine zr_iload_n C 3 dX11_over_42 rfl ?_
        refine zr_aload_n C 0 dX11_over_43 rfl ?_
        refine zr_iload_n C 2 dX11_over_44 rfl ?_
        obtain ⟨r8, hr8, hJ⟩ := zb_e hJ
        refine zr_callVI C 105 (zk_lt zk_105 (by decide)) (zen_obj zk_105) (rfl : zcl[11]? = some (RX11, TX11, 56)) (M_X11_total G l hr8) zin_X11_total zm_22_23 rfl rfl (Nat.le_of_ble_eq_true rfl) ⟨Nat.le_of_ble_eq_true rfl, Nat.le_of_ble_eq_true rfl⟩ ⟨Nat.le_of_ble_eq_true rfl, Nat.le_of_ble_eq_true rfl⟩ dX11_over_45 ?_
        refine zr_iadd C dX11_over_48 ?_
        obtain ⟨v9, hv9, hJ⟩ := zlet_e hJ
        refine zr_topi hv9 ?_
        refine zr_istore C [(5, .int v9), (0, .ref (G.1 + 105)), (1, .int a1), (2, .int a2), (3, .int a3), (4, .int a4)] dX11_over_49 (by decide) rfl ?_
        refine zr_iload C 5 dX11_over_51 rfl ?_
        refine zr_if_ne C 72 dX11_over_53 (by decide) (fun hc10 => ?_) (fun hc10 => ?_)
        · have hJ := zif' hc10 hJ
          refine zr_iload C 0 dX11_over_72 rfl ?_
          refine zr_aload_n C 1 dX11_over_74 rfl ?_
          refine zg_11_38 C 105 zk_105 zm_8_8 dX11_over_75 ?_
          refine zr_iload_n C 2 dX11_over_78 rfl ?_
          obtain ⟨hg11, hJ⟩ := zg_e hJ
          refine zu_iald C 126 zk_126 hg11 dX11_over_79 ?_
          refine zr_ishr C dX11_over_80 ?_
          exact zr_iret C hret (zs_e hJ) rfl rfl dX11_over_81
        · have hJ := zif hc10 hJ
          refine zr_iload C 0 dX11_over_56 rfl ?_
          refine zr_iconst C dX11_over_58 (v := (1 : Int32)) (by decide) ?_
          refine zr_aload_n C 1 dX11_over_59 rfl ?_
          refine zg_11_38 C 105 zk_105 zm_8_8 dX11_over_60 ?_
          refine zr_iload_n C 2 dX11_over_63 rfl ?_
          obtain ⟨hg12, hJ⟩ := zg_e hJ
          refine zu_iald C 126 zk_126 hg12 dX11_over_64 ?_
          refine zr_ishl C dX11_over_65 ?_
          refine zr_iconst C dX11_over_66 (v := (1 : Int32)) (by decide) ?_
          refine zr_isub C dX11_over_67 ?_
          refine zr_iand C dX11_over_68 ?_
          refine zr_goto C 81 dX11_over_69 (by decide) ?_
          exact zr_iret C hret (zs_e hJ) rfl rfl dX11_over_81
      · have hJ := zif hc7 hJ
        refine zr_iconst C dX11_over_40 (v := (-1 : Int32)) (by decide) ?_
        exact zr_iret C hret (zs_e hJ) rfl rfl dX11_over_41
theorem dX11_readEnd_0 : decode cX11_readEnd 0 = .ok (.aload_n 0, 1) := by decide +kernel
theorem dX11_readEnd_1 : decode cX11_readEnd 1 = .ok (.aload_n 0, 1) := by decide +kernel
theorem dX11_readEnd_2 : decode cX11_readEnd 2 = .ok (.getfield 181, 3) := by decide +kernel
theorem dX11_readEnd_5 : decode cX11_readEnd 5 = .ok (.ifCond .le 7, 3) := by decide +kernel
theorem dX11_readEnd_8 : decode cX11_readEnd 8 = .ok (.iconst 1, 1) := by decide +kernel
theorem dX11_readEnd_9 : decode cX11_readEnd 9 = .ok (.goto 4, 3) := by decide +kernel
theorem dX11_readEnd_12 : decode cX11_readEnd 12 = .ok (.iconst 0, 1) := by decide +kernel
theorem dX11_readEnd_13 : decode cX11_readEnd 13 = .ok (.iconst 2, 1) := by decide +kernel
theorem dX11_readEnd_14 : decode cX11_readEnd 14 = .ok (.invokevirtual 162, 3) := by decide +kernel
theorem dX11_readEnd_17 : decode cX11_readEnd 17 = .ok (.aload_n 0, 1) := by decide +kernel
theorem dX11_readEnd_18 : decode cX11_readEnd 18 = .ok (.getfield 128, 3) := by decide +kernel
theorem dX11_readEnd_21 : decode cX11_readEnd 21 = .ok (.ifCond .ne 45, 3) := by decide +kernel
theorem dX11_readEnd_24 : decode cX11_readEnd 24 = .ok (.aload_n 0, 1) := by decide +kernel
theorem dX11_readEnd_25 : decode cX11_readEnd 25 = .ok (.dup, 1) := by decide +kernel
theorem dX11_readEnd_26 : decode cX11_readEnd 26 = .ok (.getfield 181, 3) := by decide +kernel
theorem dX11_readEnd_29 : decode cX11_readEnd 29 = .ok (.iconst 1, 1) := by decide +kernel
theorem dX11_readEnd_30 : decode cX11_readEnd 30 = .ok (.isub, 1) := by decide +kernel
theorem dX11_readEnd_31 : decode cX11_readEnd 31 = .ok (.putfield 181, 3) := by decide +kernel
theorem dX11_readEnd_34 : decode cX11_readEnd 34 = .ok (.aload_n 0, 1) := by decide +kernel
theorem dX11_readEnd_35 : decode cX11_readEnd 35 = .ok (.getfield 52, 3) := by decide +kernel
theorem dX11_readEnd_38 : decode cX11_readEnd 38 = .ok (.aload_n 0, 1) := by decide +kernel
theorem dX11_readEnd_39 : decode cX11_readEnd 39 = .ok (.getfield 184, 3) := by decide +kernel
theorem dX11_readEnd_42 : decode cX11_readEnd 42 = .ok (.sipush 200, 3) := by decide +kernel
theorem dX11_readEnd_45 : decode cX11_readEnd 45 = .ok (.aload_n 0, 1) := by decide +kernel
theorem dX11_readEnd_46 : decode cX11_readEnd 46 = .ok (.getfield 46, 3) := by decide +kernel
theorem dX11_readEnd_49 : decode cX11_readEnd 49 = .ok (.aload_n 0, 1) := by decide +kernel
theorem dX11_readEnd_50 : decode cX11_readEnd 50 = .ok (.getfield 181, 3) := by decide +kernel
theorem dX11_readEnd_53 : decode cX11_readEnd 53 = .ok (.iaload, 1) := by decide +kernel
theorem dX11_readEnd_54 : decode cX11_readEnd 54 = .ok (.iadd, 1) := by decide +kernel
theorem dX11_readEnd_55 : decode cX11_readEnd 55 = .ok (.iastore, 1) := by decide +kernel
theorem dX11_readEnd_56 : decode cX11_readEnd 56 = .ok (.aload_n 0, 1) := by decide +kernel
theorem dX11_readEnd_57 : decode cX11_readEnd 57 = .ok (.dup, 1) := by decide +kernel
theorem dX11_readEnd_58 : decode cX11_readEnd 58 = .ok (.getfield 184, 3) := by decide +kernel
theorem dX11_readEnd_61 : decode cX11_readEnd 61 = .ok (.iconst 1, 1) := by decide +kernel
theorem dX11_readEnd_62 : decode cX11_readEnd 62 = .ok (.iadd, 1) := by decide +kernel
theorem dX11_readEnd_63 : decode cX11_readEnd 63 = .ok (.putfield 184, 3) := by decide +kernel
theorem dX11_readEnd_66 : decode cX11_readEnd 66 = .ok (.aload_n 0, 1) := by decide +kernel
theorem dX11_readEnd_67 : decode cX11_readEnd 67 = .ok (.invokevirtual 166, 3) := by decide +kernel
theorem dX11_readEnd_70 : decode cX11_readEnd 70 = .ok (.return_, 1) := by decide +kernel
set_option maxRecDepth 100000 in
set_option maxHeartbeats 4000000 in
theorem M_X11_readEnd (G : zG) (l : Launch) {σ : zS} {σ' : zS} (hJ : J_X11_readEnd σ = some σ') : zMV G l yX11_readEnd cX11_readEnd 1 none (zrm 2 46) [.ref (G.1 + 105)] 137 (zen G σ) 137 (zen G σ') := by
  unfold J_X11_readEnd at hJ
  refine zentV (by decide +kernel) (Nat.le_of_ble_eq_true rfl) ?_
  intro p e s m args below meth c C hret
  refine zr_sub [0] [(0, .ref (G.1 + 105))] rfl ?_
  refine zr_aload_n C 0 dX11_readEnd_0 rfl ?_
  refine zr_aload_n C 0 dX11_readEnd_1 rfl ?_
  refine zg_11_19 C 105 zk_105 zm_16_18 dX11_readEnd_2 ?_
  obtain ⟨v1, hv1, hJ⟩ := zlet_e hJ
  have hf12 : zU G 1 p l e (zrm 2 46) s m args below meth c (MQ below (va_Qv (fun (_ : Unit) => True) (fun _ t => zok G 137 (zen G σ') t) (zA G)) args s 0 0 (zA G)) σ 13 [(0, .ref (G.1 + 105))] [.int v1, .ref (G.1 + 105)] := by
    refine zr_iconst C dX11_readEnd_13 (v := (2 : Int32)) (by decide) ?_
    obtain ⟨σ3, hr2, hJ⟩ := zb_e hJ
    refine zr_callVV C 105 (zk_lt zk_105 (by decide)) (zen_obj zk_105) (rfl : zcl[11]? = some (RX11, TX11, 56)) (M_X11_wants G l hr2) zin_X11_wants zm_17_13 rfl rfl (Nat.le_of_ble_eq_true rfl) ⟨Nat.le_of_ble_eq_true rfl, Nat.le_of_ble_eq_true rfl⟩ ⟨Nat.le_of_ble_eq_true rfl, Nat.le_of_ble_eq_true rfl⟩ dX11_readEnd_14 ?_
    refine zr_aload_n C 0 dX11_readEnd_17 rfl ?_
    refine zg_11_30 C 105 zk_105 zm_16_13 dX11_readEnd_18 ?_
    obtain ⟨k66, hk66, hJ⟩ := zlet_e hJ
    have hj66 : ∀ (σ_66 : zS), k66 σ_66 = some σ' → zU G 1 p l e (zrm 2 46) s m args below meth c (MQ below (va_Qv (fun (_ : Unit) => True) (fun _ t => zok G 137 (zen G σ') t) (zA G)) args s 0 0 (zA G)) σ_66 66 [(0, .ref (G.1 + 105))] [] := by
      intro σ_66 hJ
      rw [hk66] at hJ
      unfold D_X11_readEnd_66 at hJ
      refine zr_aload_n C 0 dX11_readEnd_66 rfl ?_
      obtain ⟨σ5, hr4, hJ⟩ := zb_e hJ
      refine zr_callVV C 105 (zk_lt zk_105 (by decide)) (zen_obj zk_105) (rfl : zcl[11]? = some (RX11, TX11, 56)) (M_X11_next G l hr4) zin_X11_next zm_16_23 rfl rfl (Nat.le_of_ble_eq_true rfl) ⟨Nat.le_of_ble_eq_true rfl, Nat.le_of_ble_eq_true rfl⟩ ⟨Nat.le_of_ble_eq_true rfl, Nat.le_of_ble_eq_true rfl⟩ dX11_readEnd_67 ?_
      exact zr_vret C hret rfl (congrArg (zen G) (zs_e hJ)) dX11_readEnd_70
    refine zr_if_ne C 66 dX11_readEnd_21 (by decide) (fun hc6 => ?_) (fun hc6 => ?_)
    · have hJ := zif' hc6 hJ
      exact hj66 _ hJ
    · have hJ := zif hc6 hJ
      refine zr_aload_n C 0 dX11_readEnd_24 rfl ?_
      refine zr_dup C dX11_readEnd_25 rfl ?_
      refine zg_11_19 C 105 zk_105 zm_16_18 dX11_readEnd_26 ?_
      refine zr_iconst C dX11_readEnd_29 (v := (1 : Int32)) (by decide) ?_
      refine zr_isub C dX11_readEnd_30 ?_
      obtain ⟨σ7, hσ7, hJ⟩ := zlet_e hJ
      refine zp_11_19 C 105 zk_105 zm_16_18 hσ7 dX11_readEnd_31 ?_
      refine zr_aload_n C 0 dX11_readEnd_34 rfl ?_
      refine zg_11_21 C 105 zk_105 zm_8_1 dX11_readEnd_35 ?_
      refine zr_aload_n C 0 dX11_readEnd_38 rfl ?_
      refine zg_11_23 C 105 zk_105 zm_16_17 dX11_readEnd_39 ?_
      refine zr_sipush C dX11_readEnd_42 (v := (200 : Int32)) (by decide) ?_
      refine zr_aload_n C 0 dX11_readEnd_45 rfl ?_
      refine zg_11_18 C 105 zk_105 zm_7_23 dX11_readEnd_46 ?_
      refine zr_aload_n C 0 dX11_readEnd_49 rfl ?_
      refine zg_11_19 C 105 zk_105 zm_16_18 dX11_readEnd_50 ?_
      obtain ⟨hg8, hJ⟩ := zg_e hJ
      refine zu_iald C 118 zk_118 hg8 dX11_readEnd_53 ?_
      refine zr_iadd C dX11_readEnd_54 ?_
      obtain ⟨hg9, hJ⟩ := zg_e hJ
      obtain ⟨σ10, hσ10, hJ⟩ := zlet_e hJ
      refine zv_iast C 120 zk_120 hg9 hσ10 dX11_readEnd_55 ?_
      refine zr_aload_n C 0 dX11_readEnd_56 rfl ?_
      refine zr_dup C dX11_readEnd_57 rfl ?_
      refine zg_11_23 C 105 zk_105 zm_16_17 dX11_readEnd_58 ?_
      refine zr_iconst C dX11_readEnd_61 (v := (1 : Int32)) (by decide) ?_
      refine zr_iadd C dX11_readEnd_62 ?_
      obtain ⟨σ11, hσ11, hJ⟩ := zlet_e hJ
      refine zp_11_23 C 105 zk_105 zm_16_17 hσ11 dX11_readEnd_63 ?_
      exact hj66 _ hJ
  refine zr_if_le C 12 dX11_readEnd_5 (by decide) (fun hc13 => ?_) (fun hc13 => ?_)
  · have hv1 := hv1.trans (if_pos hc13)
    refine zr_iconst C dX11_readEnd_12 (v := (0 : Int32)) (by decide) ?_
    rw [hv1] at hf12
    exact hf12
  · have hv1 := hv1.trans (if_neg hc13)
    refine zr_iconst C dX11_readEnd_8 (v := (1 : Int32)) (by decide) ?_
    refine zr_goto C 13 dX11_readEnd_9 (by decide) ?_
    rw [hv1] at hf12
    exact hf12
theorem dX11_readNumber_0 : decode cX11_readNumber 0 = .ok (.aload_n 0, 1) := by decide +kernel
theorem dX11_readNumber_1 : decode cX11_readNumber 1 = .ok (.getfield 128, 3) := by decide +kernel
theorem dX11_readNumber_4 : decode cX11_readNumber 4 = .ok (.ifCond .ne 21, 3) := by decide +kernel
theorem dX11_readNumber_7 : decode cX11_readNumber 7 = .ok (.aload_n 0, 1) := by decide +kernel
theorem dX11_readNumber_8 : decode cX11_readNumber 8 = .ok (.aload_n 0, 1) := by decide +kernel
theorem dX11_readNumber_9 : decode cX11_readNumber 9 = .ok (.getfield 148, 3) := by decide +kernel
theorem dX11_readNumber_12 : decode cX11_readNumber 12 = .ok (.iconst 2, 1) := by decide +kernel
theorem dX11_readNumber_13 : decode cX11_readNumber 13 = .ok (.if_icmp .ne 7, 3) := by decide +kernel
theorem dX11_readNumber_16 : decode cX11_readNumber 16 = .ok (.iconst 1, 1) := by decide +kernel
theorem dX11_readNumber_17 : decode cX11_readNumber 17 = .ok (.goto 4, 3) := by decide +kernel
theorem dX11_readNumber_20 : decode cX11_readNumber 20 = .ok (.iconst 0, 1) := by decide +kernel
theorem dX11_readNumber_21 : decode cX11_readNumber 21 = .ok (.iconst 2, 1) := by decide +kernel
theorem dX11_readNumber_22 : decode cX11_readNumber 22 = .ok (.invokevirtual 162, 3) := by decide +kernel
theorem dX11_readNumber_25 : decode cX11_readNumber 25 = .ok (.aload_n 0, 1) := by decide +kernel
theorem dX11_readNumber_26 : decode cX11_readNumber 26 = .ok (.getfield 128, 3) := by decide +kernel
theorem dX11_readNumber_29 : decode cX11_readNumber 29 = .ok (.ifCond .ne 20, 3) := by decide +kernel
theorem dX11_readNumber_32 : decode cX11_readNumber 32 = .ok (.aload_n 0, 1) := by decide +kernel
theorem dX11_readNumber_33 : decode cX11_readNumber 33 = .ok (.aload_n 0, 1) := by decide +kernel
theorem dX11_readNumber_34 : decode cX11_readNumber 34 = .ok (.getfield 159, 3) := by decide +kernel
theorem dX11_readNumber_37 : decode cX11_readNumber 37 = .ok (.i2l, 1) := by decide +kernel
theorem dX11_readNumber_38 : decode cX11_readNumber 38 = .ok (.iload_n 1, 1) := by decide +kernel
theorem dX11_readNumber_39 : decode cX11_readNumber 39 = .ok (.i2l, 1) := by decide +kernel
theorem dX11_readNumber_40 : decode cX11_readNumber 40 = .ok (.iload_n 2, 1) := by decide +kernel
theorem dX11_readNumber_41 : decode cX11_readNumber 41 = .ok (.i2l, 1) := by decide +kernel
theorem dX11_readNumber_42 : decode cX11_readNumber 42 = .ok (.invokestatic 124, 3) := by decide +kernel
theorem dX11_readNumber_45 : decode cX11_readNumber 45 = .ok (.iconst 3, 1) := by decide +kernel
theorem dX11_readNumber_46 : decode cX11_readNumber 46 = .ok (.invokevirtual 162, 3) := by decide +kernel
theorem dX11_readNumber_49 : decode cX11_readNumber 49 = .ok (.aload_n 0, 1) := by decide +kernel
theorem dX11_readNumber_50 : decode cX11_readNumber 50 = .ok (.getfield 159, 3) := by decide +kernel
theorem dX11_readNumber_53 : decode cX11_readNumber 53 = .ok (.istore_n 3, 1) := by decide +kernel
theorem dX11_readNumber_54 : decode cX11_readNumber 54 = .ok (.aload_n 0, 1) := by decide +kernel
theorem dX11_readNumber_55 : decode cX11_readNumber 55 = .ok (.invokevirtual 166, 3) := by decide +kernel
theorem dX11_readNumber_58 : decode cX11_readNumber 58 = .ok (.iload_n 3, 1) := by decide +kernel
theorem dX11_readNumber_59 : decode cX11_readNumber 59 = .ok (.ireturn, 1) := by decide +kernel
set_option maxRecDepth 100000 in
set_option maxHeartbeats 4000000 in
theorem M_X11_readNumber (G : zG) (l : Launch) {a1 : Int32} {a2 : Int32} {σ : zS} {r : Int32} {σ' : zS} (hJ : J_X11_readNumber a1 a2 σ = some (r, σ')) : zMI G l yX11_readNumber cX11_readNumber 4 (some .int) (zrm 2 46) [.ref (G.1 + 105), .int a1, .int a2] 137 (zen G σ) r 137 (zen G σ') := by
  unfold J_X11_readNumber at hJ
  refine zentI (by decide +kernel) (Nat.le_of_ble_eq_true rfl) ?_
  intro p e s m args below meth c C hret
  refine zr_sub [0, 1, 2] [(0, .ref (G.1 + 105)), (1, .int a1), (2, .int a2)] rfl ?_
  refine zr_aload_n C 0 dX11_readNumber_0 rfl ?_
  refine zg_11_30 C 105 zk_105 zm_16_13 dX11_readNumber_1 ?_
  obtain ⟨k25, hk25, hJ⟩ := zlet_e hJ
  have hj25 : ∀ (σ_25 : zS), k25 σ_25 = some (r, σ') → zU G 4 p l e (zrm 2 46) s m args below meth c (MQ below (va_Qi (fun x (_ : Unit) => x = r) (fun _ t => zok G 137 (zen G σ') t) (zA G)) args s 0 0 (zA G)) σ_25 25 [(0, .ref (G.1 + 105)), (1, .int a1), (2, .int a2)] [] := by
    intro σ_25 hJ
    rw [hk25] at hJ
    unfold D_X11_readNumber_25 at hJ
    refine zr_aload_n C 0 dX11_readNumber_25 rfl ?_
    refine zg_11_30 C 105 zk_105 zm_16_13 dX11_readNumber_26 ?_
    obtain ⟨k49, hk49, hJ⟩ := zlet_e hJ
    have hj49 : ∀ (σ_49 : zS), k49 σ_49 = some (r, σ') → zU G 4 p l e (zrm 2 46) s m args below meth c (MQ below (va_Qi (fun x (_ : Unit) => x = r) (fun _ t => zok G 137 (zen G σ') t) (zA G)) args s 0 0 (zA G)) σ_49 49 [(0, .ref (G.1 + 105))] [] := by
      intro σ_49 hJ
      rw [hk49] at hJ
      unfold D_X11_readNumber_49 at hJ
      refine zr_aload_n C 0 dX11_readNumber_49 rfl ?_
      refine zg_11_29 C 105 zk_105 zm_17_8 dX11_readNumber_50 ?_
      obtain ⟨v1, hv1, hJ⟩ := zlet_e hJ
      refine zr_topi hv1 ?_
      refine zr_istore_n C [(3, .int v1), (0, .ref (G.1 + 105))] dX11_readNumber_53 (by decide) rfl ?_
      refine zr_aload_n C 1 dX11_readNumber_54 rfl ?_
      obtain ⟨σ3, hr2, hJ⟩ := zb_e hJ
      refine zr_callVV C 105 (zk_lt zk_105 (by decide)) (zen_obj zk_105) (rfl : zcl[11]? = some (RX11, TX11, 56)) (M_X11_next G l hr2) zin_X11_next zm_16_23 rfl rfl (Nat.le_of_ble_eq_true rfl) ⟨Nat.le_of_ble_eq_true rfl, Nat.le_of_ble_eq_true rfl⟩ ⟨Nat.le_of_ble_eq_true rfl, Nat.le_of_ble_eq_true rfl⟩ dX11_readNumber_55 ?_
      refine zr_iload_n C 0 dX11_readNumber_58 rfl ?_
      exact zr_iret C hret (Prod.mk.inj (zs_e hJ)).1 rfl (congrArg (zen G) (Prod.mk.inj (zs_e hJ)).2) dX11_readNumber_59
    refine zr_if_ne C 49 dX11_readNumber_29 (by decide) (fun hc4 => ?_) (fun hc4 => ?_)
    · have hJ := zif' hc4 hJ
      refine zr_sub [0] [(0, .ref (G.1 + 105))] rfl ?_
      exact hj49 _ hJ
    · have hJ := zif hc4 hJ
      refine zr_aload_n C 0 dX11_readNumber_32 rfl ?_
      refine zr_aload_n C 0 dX11_readNumber_33 rfl ?_
      refine zg_11_29 C 105 zk_105 zm_17_8 dX11_readNumber_34 ?_
      refine zr_i2l C dX11_readNumber_37 ?_
      refine zr_iload_n C 1 dX11_readNumber_38 rfl ?_
      refine zr_i2l C dX11_readNumber_39 ?_
      refine zr_iload_n C 2 dX11_readNumber_40 rfl ?_
      refine zr_i2l C dX11_readNumber_41 ?_
      obtain ⟨r5, hr5, hJ⟩ := zb_e hJ
      refine zr_callSI C (M_X11_in G l hr5) zin_X11_in zm_9_22 rfl rfl (Nat.le_of_ble_eq_true rfl) ⟨Nat.le_of_ble_eq_true rfl, Nat.le_of_ble_eq_true rfl⟩ ⟨Nat.le_of_ble_eq_true rfl, Nat.le_of_ble_eq_true rfl⟩ dX11_readNumber_42 ?_
      refine zr_iconst C dX11_readNumber_45 (v := (3 : Int32)) (by decide) ?_
      obtain ⟨σ7, hr6, hJ⟩ := zb_e hJ
      refine zr_callVV C 105 (zk_lt zk_105 (by decide)) (zen_obj zk_105) (rfl : zcl[11]? = some (RX11, TX11, 56)) (M_X11_wants G l hr6) zin_X11_wants zm_17_13 rfl rfl (Nat.le_of_ble_eq_true rfl) ⟨Nat.le_of_ble_eq_true rfl, Nat.le_of_ble_eq_true rfl⟩ ⟨Nat.le_of_ble_eq_true rfl, Nat.le_of_ble_eq_true rfl⟩ dX11_readNumber_46 ?_
      refine zr_sub [0] [(0, .ref (G.1 + 105))] rfl ?_
      exact hj49 _ hJ
  refine zr_if_ne C 25 dX11_readNumber_4 (by decide) (fun hc8 => ?_) (fun hc8 => ?_)
  · have hJ := zif' hc8 hJ
    exact hj25 _ hJ
  · have hJ := zif hc8 hJ
    refine zr_aload_n C 0 dX11_readNumber_7 rfl ?_
    refine zr_aload_n C 0 dX11_readNumber_8 rfl ?_
    refine zg_11_28 C 105 zk_105 zm_16_19 dX11_readNumber_9 ?_
    refine zr_iconst C dX11_readNumber_12 (v := (2 : Int32)) (by decide) ?_
    obtain ⟨v9, hv9, hJ⟩ := zlet_e hJ
    have hf12 : zU G 4 p l e (zrm 2 46) s m args below meth c (MQ below (va_Qi (fun x (_ : Unit) => x = r) (fun _ t => zok G 137 (zen G σ') t) (zA G)) args s 0 0 (zA G)) σ 21 [(0, .ref (G.1 + 105)), (1, .int a1), (2, .int a2)] [.int v9, .ref (G.1 + 105)] := by
      refine zr_iconst C dX11_readNumber_21 (v := (2 : Int32)) (by decide) ?_
      obtain ⟨σ11, hr10, hJ⟩ := zb_e hJ
      refine zr_callVV C 105 (zk_lt zk_105 (by decide)) (zen_obj zk_105) (rfl : zcl[11]? = some (RX11, TX11, 56)) (M_X11_wants G l hr10) zin_X11_wants zm_17_13 rfl rfl (Nat.le_of_ble_eq_true rfl) ⟨Nat.le_of_ble_eq_true rfl, Nat.le_of_ble_eq_true rfl⟩ ⟨Nat.le_of_ble_eq_true rfl, Nat.le_of_ble_eq_true rfl⟩ dX11_readNumber_22 ?_
      exact hj25 _ hJ
    refine zr_icmp_ne C 20 dX11_readNumber_13 (by decide) (fun hc13 => ?_) (fun hc13 => ?_)
    · have hv9 := hv9.trans (if_neg hc13)
      refine zr_iconst C dX11_readNumber_20 (v := (0 : Int32)) (by decide) ?_
      rw [hv9] at hf12
      exact hf12
    · have hv9 := hv9.trans (if_pos hc13)
      refine zr_iconst C dX11_readNumber_16 (v := (1 : Int32)) (by decide) ?_
      refine zr_goto C 21 dX11_readNumber_17 (by decide) ?_
      rw [hv9] at hf12
      exact hf12
theorem dX11_readEvents_0 : decode cX11_readEvents 0 = .ok (.iconst 0, 1) := by decide +kernel
theorem dX11_readEvents_1 : decode cX11_readEvents 1 = .ok (.istore_n 1, 1) := by decide +kernel
theorem dX11_readEvents_2 : decode cX11_readEvents 2 = .ok (.aload_n 0, 1) := by decide +kernel
theorem dX11_readEvents_3 : decode cX11_readEvents 3 = .ok (.getfield 128, 3) := by decide +kernel
theorem dX11_readEvents_6 : decode cX11_readEvents 6 = .ok (.ifCond .ne 126, 3) := by decide +kernel
theorem dX11_readEvents_9 : decode cX11_readEvents 9 = .ok (.aload_n 0, 1) := by decide +kernel
theorem dX11_readEvents_10 : decode cX11_readEvents 10 = .ok (.getfield 148, 3) := by decide +kernel
theorem dX11_readEvents_13 : decode cX11_readEvents 13 = .ok (.iconst 1, 1) := by decide +kernel
theorem dX11_readEvents_14 : decode cX11_readEvents 14 = .ok (.if_icmp .ne 118, 3) := by decide +kernel
theorem dX11_readEvents_17 : decode cX11_readEvents 17 = .ok (.aload_n 0, 1) := by decide +kernel
theorem dX11_readEvents_18 : decode cX11_readEvents 18 = .ok (.aload_n 0, 1) := by decide +kernel
theorem dX11_readEvents_19 : decode cX11_readEvents 19 = .ok (.getfield 131, 3) := by decide +kernel
theorem dX11_readEvents_22 : decode cX11_readEvents 22 = .ok (.invokevirtual 140, 3) := by decide +kernel
theorem dX11_readEvents_25 : decode cX11_readEvents 25 = .ok (.bipush 97, 2) := by decide +kernel
theorem dX11_readEvents_27 : decode cX11_readEvents 27 = .ok (.isub, 1) := by decide +kernel
theorem dX11_readEvents_28 : decode cX11_readEvents 28 = .ok (.istore_n 2, 1) := by decide +kernel
theorem dX11_readEvents_29 : decode cX11_readEvents 29 = .ok (.aload_n 0, 1) := by decide +kernel
theorem dX11_readEvents_30 : decode cX11_readEvents 30 = .ok (.aload_n 0, 1) := by decide +kernel
theorem dX11_readEvents_31 : decode cX11_readEvents 31 = .ok (.getfield 137, 3) := by decide +kernel
theorem dX11_readEvents_34 : decode cX11_readEvents 34 = .ok (.aload_n 0, 1) := by decide +kernel
theorem dX11_readEvents_35 : decode cX11_readEvents 35 = .ok (.getfield 131, 3) := by decide +kernel
theorem dX11_readEvents_38 : decode cX11_readEvents 38 = .ok (.isub, 1) := by decide +kernel
theorem dX11_readEvents_39 : decode cX11_readEvents 39 = .ok (.iconst 1, 1) := by decide +kernel
theorem dX11_readEvents_40 : decode cX11_readEvents 40 = .ok (.if_icmp .ne 19, 3) := by decide +kernel
theorem dX11_readEvents_43 : decode cX11_readEvents 43 = .ok (.iload_n 2, 1) := by decide +kernel
theorem dX11_readEvents_44 : decode cX11_readEvents 44 = .ok (.i2l, 1) := by decide +kernel
theorem dX11_readEvents_45 : decode cX11_readEvents 45 = .ok (.lconst 0, 1) := by decide +kernel
theorem dX11_readEvents_46 : decode cX11_readEvents 46 = .ok (.ldc2_w 169, 3) := by decide +kernel
theorem dX11_readEvents_49 : decode cX11_readEvents 49 = .ok (.invokestatic 124, 3) := by decide +kernel
theorem dX11_readEvents_52 : decode cX11_readEvents 52 = .ok (.ifCond .eq 7, 3) := by decide +kernel
theorem dX11_readEvents_55 : decode cX11_readEvents 55 = .ok (.iconst 1, 1) := by decide +kernel
theorem dX11_readEvents_56 : decode cX11_readEvents 56 = .ok (.goto 4, 3) := by decide +kernel
theorem dX11_readEvents_59 : decode cX11_readEvents 59 = .ok (.iconst 0, 1) := by decide +kernel
theorem dX11_readEvents_60 : decode cX11_readEvents 60 = .ok (.iconst 3, 1) := by decide +kernel
theorem dX11_readEvents_61 : decode cX11_readEvents 61 = .ok (.invokevirtual 162, 3) := by decide +kernel
theorem dX11_readEvents_64 : decode cX11_readEvents 64 = .ok (.aload_n 0, 1) := by decide +kernel
theorem dX11_readEvents_65 : decode cX11_readEvents 65 = .ok (.getfield 128, 3) := by decide +kernel
theorem dX11_readEvents_68 : decode cX11_readEvents 68 = .ok (.ifCond .ne 21, 3) := by decide +kernel
theorem dX11_readEvents_71 : decode cX11_readEvents 71 = .ok (.aload_n 0, 1) := by decide +kernel
theorem dX11_readEvents_72 : decode cX11_readEvents 72 = .ok (.iload_n 1, 1) := by decide +kernel
theorem dX11_readEvents_73 : decode cX11_readEvents 73 = .ok (.iload_n 2, 1) := by decide +kernel
theorem dX11_readEvents_74 : decode cX11_readEvents 74 = .ok (.ishr, 1) := by decide +kernel
theorem dX11_readEvents_75 : decode cX11_readEvents 75 = .ok (.iconst 1, 1) := by decide +kernel
theorem dX11_readEvents_76 : decode cX11_readEvents 76 = .ok (.iand, 1) := by decide +kernel
theorem dX11_readEvents_77 : decode cX11_readEvents 77 = .ok (.ifCond .ne 7, 3) := by decide +kernel
theorem dX11_readEvents_80 : decode cX11_readEvents 80 = .ok (.iconst 1, 1) := by decide +kernel
theorem dX11_readEvents_81 : decode cX11_readEvents 81 = .ok (.goto 4, 3) := by decide +kernel
theorem dX11_readEvents_84 : decode cX11_readEvents 84 = .ok (.iconst 0, 1) := by decide +kernel
theorem dX11_readEvents_85 : decode cX11_readEvents 85 = .ok (.iconst 4, 1) := by decide +kernel
theorem dX11_readEvents_86 : decode cX11_readEvents 86 = .ok (.invokevirtual 162, 3) := by decide +kernel
theorem dX11_readEvents_89 : decode cX11_readEvents 89 = .ok (.aload_n 0, 1) := by decide +kernel
theorem dX11_readEvents_90 : decode cX11_readEvents 90 = .ok (.invokevirtual 166, 3) := by decide +kernel
theorem dX11_readEvents_93 : decode cX11_readEvents 93 = .ok (.aload_n 0, 1) := by decide +kernel
theorem dX11_readEvents_94 : decode cX11_readEvents 94 = .ok (.iconst 0, 1) := by decide +kernel
theorem dX11_readEvents_95 : decode cX11_readEvents 95 = .ok (.bipush 99, 2) := by decide +kernel
theorem dX11_readEvents_97 : decode cX11_readEvents 97 = .ok (.invokevirtual 171, 3) := by decide +kernel
theorem dX11_readEvents_100 : decode cX11_readEvents 100 = .ok (.istore_n 3, 1) := by decide +kernel
theorem dX11_readEvents_101 : decode cX11_readEvents 101 = .ok (.aload_n 0, 1) := by decide +kernel
theorem dX11_readEvents_102 : decode cX11_readEvents 102 = .ok (.getfield 128, 3) := by decide +kernel
theorem dX11_readEvents_105 : decode cX11_readEvents 105 = .ok (.ifCond .ne 24, 3) := by decide +kernel
theorem dX11_readEvents_108 : decode cX11_readEvents 108 = .ok (.iload_n 1, 1) := by decide +kernel
theorem dX11_readEvents_109 : decode cX11_readEvents 109 = .ok (.iconst 1, 1) := by decide +kernel
theorem dX11_readEvents_110 : decode cX11_readEvents 110 = .ok (.iload_n 2, 1) := by decide +kernel
theorem dX11_readEvents_111 : decode cX11_readEvents 111 = .ok (.ishl, 1) := by decide +kernel
theorem dX11_readEvents_112 : decode cX11_readEvents 112 = .ok (.ior, 1) := by decide +kernel
theorem dX11_readEvents_113 : decode cX11_readEvents 113 = .ok (.istore_n 1, 1) := by decide +kernel
theorem dX11_readEvents_114 : decode cX11_readEvents 114 = .ok (.aload_n 0, 1) := by decide +kernel
theorem dX11_readEvents_115 : decode cX11_readEvents 115 = .ok (.getfield 34, 3) := by decide +kernel
theorem dX11_readEvents_118 : decode cX11_readEvents 118 = .ok (.bipush 8, 2) := by decide +kernel
theorem dX11_readEvents_120 : decode cX11_readEvents 120 = .ok (.aload_n 0, 1) := by decide +kernel
theorem dX11_readEvents_121 : decode cX11_readEvents 121 = .ok (.getfield 175, 3) := by decide +kernel
theorem dX11_readEvents_124 : decode cX11_readEvents 124 = .ok (.imul, 1) := by decide +kernel
theorem dX11_readEvents_125 : decode cX11_readEvents 125 = .ok (.iload_n 2, 1) := by decide +kernel
theorem dX11_readEvents_126 : decode cX11_readEvents 126 = .ok (.iadd, 1) := by decide +kernel
theorem dX11_readEvents_127 : decode cX11_readEvents 127 = .ok (.iload_n 3, 1) := by decide +kernel
theorem dX11_readEvents_128 : decode cX11_readEvents 128 = .ok (.iastore, 1) := by decide +kernel
theorem dX11_readEvents_129 : decode cX11_readEvents 129 = .ok (.goto (-127), 3) := by decide +kernel
theorem dX11_readEvents_132 : decode cX11_readEvents 132 = .ok (.return_, 1) := by decide +kernel
set_option maxRecDepth 100000 in
set_option maxHeartbeats 4000000 in
theorem M_X11_readEvents (G : zG) (l : Launch) {σ : zS} {σ' : zS} (hJ : J_X11_readEvents σ = some σ') : zMV G l yX11_readEvents cX11_readEvents 4 none (zrm 3 69) [.ref (G.1 + 105)] 137 (zen G σ) 137 (zen G σ') := by
  unfold J_X11_readEvents at hJ
  refine zentV (by decide +kernel) (Nat.le_of_ble_eq_true rfl) ?_
  intro p e s m args below meth c C hret
  refine zr_sub [0] [(0, .ref (G.1 + 105))] rfl ?_
  refine zr_iconst C dX11_readEvents_0 (v := (0 : Int32)) (by decide) ?_
  refine zr_istore_n C [(1, .int (0 : Int32)), (0, .ref (G.1 + 105))] dX11_readEvents_1 (by decide) rfl ?_
  have hl2 : ∀ (n : Nat) (w1_2 : Int32) (σ_2 : zS), L_X11_readEvents_2 n w1_2 σ_2 = some σ' → zU G 4 p l e (zrm 3 69) s m args below meth c (MQ below (va_Qv (fun (_ : Unit) => True) (fun _ t => zok G 137 (zen G σ') t) (zA G)) args s 0 0 (zA G)) σ_2 2 [(0, .ref (G.1 + 105)), (1, .int w1_2)] [] := by
    intro n
    induction n with
    | zero =>
      intro w1_2 σ_2 hJ
      rw [L_X11_readEvents_2] at hJ
      cases hJ
    | succ n ih =>
      intro w1_2 σ_2 hJ
      rw [L_X11_readEvents_2] at hJ
      obtain ⟨r_2, hr_2, hJ⟩ := zlet_e hJ
      have ih2 : ∀ (w1_2 : Int32) (σ_2 : zS), r_2 w1_2 σ_2 = some σ' → zU G 4 p l e (zrm 3 69) s m args below meth c (MQ below (va_Qv (fun (_ : Unit) => True) (fun _ t => zok G 137 (zen G σ') t) (zA G)) args s 0 0 (zA G)) σ_2 2 [(0, .ref (G.1 + 105)), (1, .int w1_2)] [] := by
        rw [hr_2]
        exact ih
      refine zr_aload_n C 0 dX11_readEvents_2 rfl ?_
      refine zg_11_30 C 105 zk_105 zm_16_13 dX11_readEvents_3 ?_
      refine zr_if_ne C 132 dX11_readEvents_6 (by decide) (fun hc1 => ?_) (fun hc1 => ?_)
      · have hJ := zif' hc1 hJ
        exact zr_vret C hret rfl (congrArg (zen G) (zs_e hJ)) dX11_readEvents_132
      · have hJ := zif hc1 hJ
        refine zr_aload_n C 0 dX11_readEvents_9 rfl ?_
        refine zg_11_28 C 105 zk_105 zm_16_19 dX11_readEvents_10 ?_
        refine zr_iconst C dX11_readEvents_13 (v := (1 : Int32)) (by decide) ?_
        refine zr_icmp_ne C 132 dX11_readEvents_14 (by decide) (fun hc2 => ?_) (fun hc2 => ?_)
        · have hJ := zif' hc2 hJ
          exact zr_vret C hret rfl (congrArg (zen G) (zs_e hJ)) dX11_readEvents_132
        · have hJ := zif hc2 hJ
          refine zr_aload_n C 0 dX11_readEvents_17 rfl ?_
          refine zr_aload_n C 0 dX11_readEvents_18 rfl ?_
          refine zg_11_27 C 105 zk_105 zm_17_3 dX11_readEvents_19 ?_
          obtain ⟨r3, hr3, hJ⟩ := zb_e hJ
          refine zr_callVI C 105 (zk_lt zk_105 (by decide)) (zen_obj zk_105) (rfl : zcl[11]? = some (RX11, TX11, 56)) (M_X11_look G l hr3) zin_X11_look zm_17_9 rfl rfl (Nat.le_of_ble_eq_true rfl) ⟨Nat.le_of_ble_eq_true rfl, Nat.le_of_ble_eq_true rfl⟩ ⟨Nat.le_of_ble_eq_true rfl, Nat.le_of_ble_eq_true rfl⟩ dX11_readEvents_22 ?_
          refine zr_bipush C dX11_readEvents_25 (v := (97 : Int32)) (by decide) ?_
          refine zr_isub C dX11_readEvents_27 ?_
          obtain ⟨v4, hv4, hJ⟩ := zlet_e hJ
          refine zr_topi hv4 ?_
          refine zr_istore_n C [(2, .int v4), (0, .ref (G.1 + 105)), (1, .int w1_2)] dX11_readEvents_28 (by decide) rfl ?_
          refine zr_aload_n C 1 dX11_readEvents_29 rfl ?_
          refine zr_aload_n C 1 dX11_readEvents_30 rfl ?_
          refine zg_11_26 C 105 zk_105 zm_16_14 dX11_readEvents_31 ?_
          refine zr_aload_n C 1 dX11_readEvents_34 rfl ?_
          refine zg_11_27 C 105 zk_105 zm_17_3 dX11_readEvents_35 ?_
          refine zr_isub C dX11_readEvents_38 ?_
          refine zr_iconst C dX11_readEvents_39 (v := (1 : Int32)) (by decide) ?_
          obtain ⟨k60, hk60, hJ⟩ := zlet_e hJ
          have hj60 : ∀ (x0_60 : Int32), k60 x0_60 = some σ' → zU G 4 p l e (zrm 3 69) s m args below meth c (MQ below (va_Qv (fun (_ : Unit) => True) (fun _ t => zok G 137 (zen G σ') t) (zA G)) args s 0 0 (zA G)) σ_2 60 [(0, .ref (G.1 + 105)), (1, .int w1_2), (2, .int v4)] [.int x0_60, .ref (G.1 + 105)] := by
            intro x0_60 hJ
            rw [hk60] at hJ
            unfold D_X11_readEvents_60 at hJ
            refine zr_iconst C dX11_readEvents_60 (v := (3 : Int32)) (by decide) ?_
            obtain ⟨σ6, hr5, hJ⟩ := zb_e hJ
            refine zr_callVV C 105 (zk_lt zk_105 (by decide)) (zen_obj zk_105) (rfl : zcl[11]? = some (RX11, TX11, 56)) (M_X11_wants G l hr5) zin_X11_wants zm_17_13 rfl rfl (Nat.le_of_ble_eq_true rfl) ⟨Nat.le_of_ble_eq_true rfl, Nat.le_of_ble_eq_true rfl⟩ ⟨Nat.le_of_ble_eq_true rfl, Nat.le_of_ble_eq_true rfl⟩ dX11_readEvents_61 ?_
            refine zr_aload_n C 0 dX11_readEvents_64 rfl ?_
            refine zg_11_30 C 105 zk_105 zm_16_13 dX11_readEvents_65 ?_
            obtain ⟨k89, hk89, hJ⟩ := zlet_e hJ
            have hj89 : ∀ (σ_89 : zS), k89 σ_89 = some σ' → zU G 4 p l e (zrm 3 69) s m args below meth c (MQ below (va_Qv (fun (_ : Unit) => True) (fun _ t => zok G 137 (zen G σ') t) (zA G)) args s 0 0 (zA G)) σ_89 89 [(0, .ref (G.1 + 105)), (1, .int w1_2), (2, .int v4)] [] := by
              intro σ_89 hJ
              rw [hk89] at hJ
              unfold D_X11_readEvents_89 at hJ
              refine zr_aload_n C 0 dX11_readEvents_89 rfl ?_
              obtain ⟨σ8, hr7, hJ⟩ := zb_e hJ
              refine zr_callVV C 105 (zk_lt zk_105 (by decide)) (zen_obj zk_105) (rfl : zcl[11]? = some (RX11, TX11, 56)) (M_X11_next G l hr7) zin_X11_next zm_16_23 rfl rfl (Nat.le_of_ble_eq_true rfl) ⟨Nat.le_of_ble_eq_true rfl, Nat.le_of_ble_eq_true rfl⟩ ⟨Nat.le_of_ble_eq_true rfl, Nat.le_of_ble_eq_true rfl⟩ dX11_readEvents_90 ?_
              refine zr_aload_n C 0 dX11_readEvents_93 rfl ?_
              refine zr_iconst C dX11_readEvents_94 (v := (0 : Int32)) (by decide) ?_
              refine zr_bipush C dX11_readEvents_95 (v := (99 : Int32)) (by decide) ?_
              obtain ⟨r9, σ10, hr9, hJ⟩ := zb2_e hJ
              refine zr_callVI C 105 (zk_lt zk_105 (by decide)) (zen_obj zk_105) (rfl : zcl[11]? = some (RX11, TX11, 56)) (M_X11_readNumber G l hr9) zin_X11_readNumber zm_18_9 rfl rfl (Nat.le_of_ble_eq_true rfl) ⟨Nat.le_of_ble_eq_true rfl, Nat.le_of_ble_eq_true rfl⟩ ⟨Nat.le_of_ble_eq_true rfl, Nat.le_of_ble_eq_true rfl⟩ dX11_readEvents_97 ?_
              refine zr_istore_n C [(3, .int r9), (0, .ref (G.1 + 105)), (1, .int w1_2), (2, .int v4)] dX11_readEvents_100 (by decide) rfl ?_
              refine zr_aload_n C 1 dX11_readEvents_101 rfl ?_
              refine zg_11_30 C 105 zk_105 zm_16_13 dX11_readEvents_102 ?_
              refine zr_if_ne C 129 dX11_readEvents_105 (by decide) (fun hc11 => ?_) (fun hc11 => ?_)
              · have hJ := zif' hc11 hJ
                refine zr_goto C 2 dX11_readEvents_129 (by decide) ?_
                refine zr_sub [1, 2] [(0, .ref (G.1 + 105)), (1, .int w1_2)] rfl ?_
                exact ih2 _ _ hJ
              · have hJ := zif hc11 hJ
                refine zr_iload_n C 2 dX11_readEvents_108 rfl ?_
                refine zr_iconst C dX11_readEvents_109 (v := (1 : Int32)) (by decide) ?_
                refine zr_iload_n C 3 dX11_readEvents_110 rfl ?_
                refine zr_ishl C dX11_readEvents_111 ?_
                refine zr_ior C dX11_readEvents_112 ?_
                obtain ⟨v12, hv12, hJ⟩ := zlet_e hJ
                refine zr_topi hv12 ?_
                refine zr_istore_n C [(1, .int v12), (3, .int r9), (0, .ref (G.1 + 105)), (2, .int v4)] dX11_readEvents_113 (by decide) rfl ?_
                refine zr_aload_n C 2 dX11_readEvents_114 rfl ?_
                refine zg_11_13 C 105 zk_105 zm_7_19 dX11_readEvents_115 ?_
                refine zr_bipush C dX11_readEvents_118 (v := (8 : Int32)) (by decide) ?_
                refine zr_aload_n C 2 dX11_readEvents_120 rfl ?_
                refine zg_11_11 C 105 zk_105 zm_16_15 dX11_readEvents_121 ?_
                refine zr_imul C dX11_readEvents_124 ?_
                refine zr_iload_n C 3 dX11_readEvents_125 rfl ?_
                refine zr_iadd C dX11_readEvents_126 ?_
                refine zr_iload_n C 1 dX11_readEvents_127 rfl ?_
                obtain ⟨hg13, hJ⟩ := zg_e hJ
                obtain ⟨σ14, hσ14, hJ⟩ := zlet_e hJ
                refine zv_iast C 114 zk_114 hg13 hσ14 dX11_readEvents_128 ?_
                refine zr_goto C 2 dX11_readEvents_129 (by decide) ?_
                refine zr_sub [2, 0] [(0, .ref (G.1 + 105)), (1, .int v12)] rfl ?_
                exact ih2 _ _ hJ
            refine zr_if_ne C 89 dX11_readEvents_68 (by decide) (fun hc15 => ?_) (fun hc15 => ?_)
            · have hJ := zif' hc15 hJ
              exact hj89 _ hJ
            · have hJ := zif hc15 hJ
              refine zr_aload_n C 0 dX11_readEvents_71 rfl ?_
              refine zr_iload_n C 1 dX11_readEvents_72 rfl ?_
              refine zr_iload_n C 2 dX11_readEvents_73 rfl ?_
              refine zr_ishr C dX11_readEvents_74 ?_
              refine zr_iconst C dX11_readEvents_75 (v := (1 : Int32)) (by decide) ?_
              refine zr_iand C dX11_readEvents_76 ?_
              obtain ⟨v16, hv16, hJ⟩ := zlet_e hJ
              have hf19 : zU G 4 p l e (zrm 3 69) s m args below meth c (MQ below (va_Qv (fun (_ : Unit) => True) (fun _ t => zok G 137 (zen G σ') t) (zA G)) args s 0 0 (zA G)) σ6 85 [(0, .ref (G.1 + 105)), (1, .int w1_2), (2, .int v4)] [.int v16, .ref (G.1 + 105)] := by
                refine zr_iconst C dX11_readEvents_85 (v := (4 : Int32)) (by decide) ?_
                obtain ⟨σ18, hr17, hJ⟩ := zb_e hJ
                refine zr_callVV C 105 (zk_lt zk_105 (by decide)) (zen_obj zk_105) (rfl : zcl[11]? = some (RX11, TX11, 56)) (M_X11_wants G l hr17) zin_X11_wants zm_17_13 rfl rfl (Nat.le_of_ble_eq_true rfl) ⟨Nat.le_of_ble_eq_true rfl, Nat.le_of_ble_eq_true rfl⟩ ⟨Nat.le_of_ble_eq_true rfl, Nat.le_of_ble_eq_true rfl⟩ dX11_readEvents_86 ?_
                exact hj89 _ hJ
              refine zr_if_ne C 84 dX11_readEvents_77 (by decide) (fun hc20 => ?_) (fun hc20 => ?_)
              · have hv16 := hv16.trans (if_neg hc20)
                refine zr_iconst C dX11_readEvents_84 (v := (0 : Int32)) (by decide) ?_
                rw [hv16] at hf19
                exact hf19
              · have hv16 := hv16.trans (if_pos hc20)
                refine zr_iconst C dX11_readEvents_80 (v := (1 : Int32)) (by decide) ?_
                refine zr_goto C 85 dX11_readEvents_81 (by decide) ?_
                rw [hv16] at hf19
                exact hf19
          refine zr_icmp_ne C 59 dX11_readEvents_40 (by decide) (fun hc21 => ?_) (fun hc21 => ?_)
          · have hJ := zif' hc21 hJ
            refine zr_iconst C dX11_readEvents_59 (v := (0 : Int32)) (by decide) ?_
            refine zr_sub [1, 2, 0] [(0, .ref (G.1 + 105)), (1, .int w1_2), (2, .int v4)] rfl ?_
            exact hj60 _ hJ
          · have hJ := zif hc21 hJ
            refine zr_iload_n C 0 dX11_readEvents_43 rfl ?_
            refine zr_i2l C dX11_readEvents_44 ?_
            refine zr_lconst C dX11_readEvents_45 (v := (0 : Int64)) (by decide) ?_
            refine zr_ldc2 C dX11_readEvents_46 zm_18_17 ?_
            obtain ⟨r22, hr22, hJ⟩ := zb_e hJ
            refine zr_callSI C (M_X11_in G l hr22) zin_X11_in zm_9_22 rfl rfl (Nat.le_of_ble_eq_true rfl) ⟨Nat.le_of_ble_eq_true rfl, Nat.le_of_ble_eq_true rfl⟩ ⟨Nat.le_of_ble_eq_true rfl, Nat.le_of_ble_eq_true rfl⟩ dX11_readEvents_49 ?_
            refine zr_if_eq C 59 dX11_readEvents_52 (by decide) (fun hc23 => ?_) (fun hc23 => ?_)
            · have hJ := zif hc23 hJ
              refine zr_iconst C dX11_readEvents_59 (v := (0 : Int32)) (by decide) ?_
              refine zr_sub [1, 2, 0] [(0, .ref (G.1 + 105)), (1, .int w1_2), (2, .int v4)] rfl ?_
              exact hj60 _ hJ
            · have hJ := zif' hc23 hJ
              refine zr_iconst C dX11_readEvents_55 (v := (1 : Int32)) (by decide) ?_
              refine zr_goto C 60 dX11_readEvents_56 (by decide) ?_
              refine zr_sub [1, 2, 0] [(0, .ref (G.1 + 105)), (1, .int w1_2), (2, .int v4)] rfl ?_
              exact hj60 _ hJ
  refine zr_sub [1, 0] [(0, .ref (G.1 + 105)), (1, .int (0 : Int32))] rfl ?_
  exact hl2 _ _ _ hJ
theorem dX11_readLine_0 : decode cX11_readLine 0 = .ok (.aload_n 0, 1) := by decide +kernel
theorem dX11_readLine_1 : decode cX11_readLine 1 = .ok (.aload_n 0, 1) := by decide +kernel
theorem dX11_readLine_2 : decode cX11_readLine 2 = .ok (.getfield 175, 3) := by decide +kernel
theorem dX11_readLine_5 : decode cX11_readLine 5 = .ok (.bipush 16, 2) := by decide +kernel
theorem dX11_readLine_7 : decode cX11_readLine 7 = .ok (.if_icmp .ge 7, 3) := by decide +kernel
theorem dX11_readLine_10 : decode cX11_readLine 10 = .ok (.iconst 1, 1) := by decide +kernel
theorem dX11_readLine_11 : decode cX11_readLine 11 = .ok (.goto 4, 3) := by decide +kernel
theorem dX11_readLine_14 : decode cX11_readLine 14 = .ok (.iconst 0, 1) := by decide +kernel
theorem dX11_readLine_15 : decode cX11_readLine 15 = .ok (.iconst 5, 1) := by decide +kernel
theorem dX11_readLine_16 : decode cX11_readLine 16 = .ok (.invokevirtual 162, 3) := by decide +kernel
theorem dX11_readLine_19 : decode cX11_readLine 19 = .ok (.aload_n 0, 1) := by decide +kernel
theorem dX11_readLine_20 : decode cX11_readLine 20 = .ok (.invokevirtual 166, 3) := by decide +kernel
theorem dX11_readLine_23 : decode cX11_readLine 23 = .ok (.aload_n 0, 1) := by decide +kernel
theorem dX11_readLine_24 : decode cX11_readLine 24 = .ok (.iconst 1, 1) := by decide +kernel
theorem dX11_readLine_25 : decode cX11_readLine 25 = .ok (.bipush 20, 2) := by decide +kernel
theorem dX11_readLine_27 : decode cX11_readLine 27 = .ok (.invokevirtual 171, 3) := by decide +kernel
theorem dX11_readLine_30 : decode cX11_readLine 30 = .ok (.istore_n 1, 1) := by decide +kernel
theorem dX11_readLine_31 : decode cX11_readLine 31 = .ok (.iconst 0, 1) := by decide +kernel
theorem dX11_readLine_32 : decode cX11_readLine 32 = .ok (.istore_n 2, 1) := by decide +kernel
theorem dX11_readLine_33 : decode cX11_readLine 33 = .ok (.iload_n 2, 1) := by decide +kernel
theorem dX11_readLine_34 : decode cX11_readLine 34 = .ok (.bipush 8, 2) := by decide +kernel
theorem dX11_readLine_36 : decode cX11_readLine 36 = .ok (.if_icmp .ge 31, 3) := by decide +kernel
theorem dX11_readLine_39 : decode cX11_readLine 39 = .ok (.aload_n 0, 1) := by decide +kernel
theorem dX11_readLine_40 : decode cX11_readLine 40 = .ok (.getfield 128, 3) := by decide +kernel
theorem dX11_readLine_43 : decode cX11_readLine 43 = .ok (.ifCond .ne 24, 3) := by decide +kernel
theorem dX11_readLine_46 : decode cX11_readLine 46 = .ok (.aload_n 0, 1) := by decide +kernel
theorem dX11_readLine_47 : decode cX11_readLine 47 = .ok (.getfield 34, 3) := by decide +kernel
theorem dX11_readLine_50 : decode cX11_readLine 50 = .ok (.bipush 8, 2) := by decide +kernel
theorem dX11_readLine_52 : decode cX11_readLine 52 = .ok (.aload_n 0, 1) := by decide +kernel
theorem dX11_readLine_53 : decode cX11_readLine 53 = .ok (.getfield 175, 3) := by decide +kernel
theorem dX11_readLine_56 : decode cX11_readLine 56 = .ok (.imul, 1) := by decide +kernel
theorem dX11_readLine_57 : decode cX11_readLine 57 = .ok (.iload_n 2, 1) := by decide +kernel
theorem dX11_readLine_58 : decode cX11_readLine 58 = .ok (.iadd, 1) := by decide +kernel
theorem dX11_readLine_59 : decode cX11_readLine 59 = .ok (.iconst 0, 1) := by decide +kernel
theorem dX11_readLine_60 : decode cX11_readLine 60 = .ok (.iastore, 1) := by decide +kernel
theorem dX11_readLine_61 : decode cX11_readLine 61 = .ok (.iinc 2 1, 3) := by decide +kernel
theorem dX11_readLine_64 : decode cX11_readLine 64 = .ok (.goto (-31), 3) := by decide +kernel
theorem dX11_readLine_67 : decode cX11_readLine 67 = .ok (.aload_n 0, 1) := by decide +kernel
theorem dX11_readLine_68 : decode cX11_readLine 68 = .ok (.invokevirtual 178, 3) := by decide +kernel
theorem dX11_readLine_71 : decode cX11_readLine 71 = .ok (.aload_n 0, 1) := by decide +kernel
theorem dX11_readLine_72 : decode cX11_readLine 72 = .ok (.getfield 128, 3) := by decide +kernel
theorem dX11_readLine_75 : decode cX11_readLine 75 = .ok (.ifCond .ne 78, 3) := by decide +kernel
theorem dX11_readLine_78 : decode cX11_readLine 78 = .ok (.aload_n 0, 1) := by decide +kernel
theorem dX11_readLine_79 : decode cX11_readLine 79 = .ok (.getfield 31, 3) := by decide +kernel
theorem dX11_readLine_82 : decode cX11_readLine 82 = .ok (.aload_n 0, 1) := by decide +kernel
theorem dX11_readLine_83 : decode cX11_readLine 83 = .ok (.getfield 175, 3) := by decide +kernel
theorem dX11_readLine_86 : decode cX11_readLine 86 = .ok (.iload_n 1, 1) := by decide +kernel
theorem dX11_readLine_87 : decode cX11_readLine 87 = .ok (.iastore, 1) := by decide +kernel
theorem dX11_readLine_88 : decode cX11_readLine 88 = .ok (.aload_n 0, 1) := by decide +kernel
theorem dX11_readLine_89 : decode cX11_readLine 89 = .ok (.getfield 37, 3) := by decide +kernel
theorem dX11_readLine_92 : decode cX11_readLine 92 = .ok (.aload_n 0, 1) := by decide +kernel
theorem dX11_readLine_93 : decode cX11_readLine 93 = .ok (.getfield 175, 3) := by decide +kernel
theorem dX11_readLine_96 : decode cX11_readLine 96 = .ok (.aload_n 0, 1) := by decide +kernel
theorem dX11_readLine_97 : decode cX11_readLine 97 = .ok (.getfield 181, 3) := by decide +kernel
theorem dX11_readLine_100 : decode cX11_readLine 100 = .ok (.ifCond .ne 8, 3) := by decide +kernel
theorem dX11_readLine_103 : decode cX11_readLine 103 = .ok (.bipush (-4), 2) := by decide +kernel
theorem dX11_readLine_105 : decode cX11_readLine 105 = .ok (.goto 14, 3) := by decide +kernel
theorem dX11_readLine_108 : decode cX11_readLine 108 = .ok (.aload_n 0, 1) := by decide +kernel
theorem dX11_readLine_109 : decode cX11_readLine 109 = .ok (.getfield 46, 3) := by decide +kernel
theorem dX11_readLine_112 : decode cX11_readLine 112 = .ok (.aload_n 0, 1) := by decide +kernel
theorem dX11_readLine_113 : decode cX11_readLine 113 = .ok (.getfield 181, 3) := by decide +kernel
theorem dX11_readLine_116 : decode cX11_readLine 116 = .ok (.iconst 1, 1) := by decide +kernel
theorem dX11_readLine_117 : decode cX11_readLine 117 = .ok (.isub, 1) := by decide +kernel
theorem dX11_readLine_118 : decode cX11_readLine 118 = .ok (.iaload, 1) := by decide +kernel
theorem dX11_readLine_119 : decode cX11_readLine 119 = .ok (.iastore, 1) := by decide +kernel
theorem dX11_readLine_120 : decode cX11_readLine 120 = .ok (.aload_n 0, 1) := by decide +kernel
theorem dX11_readLine_121 : decode cX11_readLine 121 = .ok (.getfield 52, 3) := by decide +kernel
theorem dX11_readLine_124 : decode cX11_readLine 124 = .ok (.aload_n 0, 1) := by decide +kernel
theorem dX11_readLine_125 : decode cX11_readLine 125 = .ok (.getfield 184, 3) := by decide +kernel
theorem dX11_readLine_128 : decode cX11_readLine 128 = .ok (.aload_n 0, 1) := by decide +kernel
theorem dX11_readLine_129 : decode cX11_readLine 129 = .ok (.getfield 175, 3) := by decide +kernel
theorem dX11_readLine_132 : decode cX11_readLine 132 = .ok (.iastore, 1) := by decide +kernel
theorem dX11_readLine_133 : decode cX11_readLine 133 = .ok (.aload_n 0, 1) := by decide +kernel
theorem dX11_readLine_134 : decode cX11_readLine 134 = .ok (.dup, 1) := by decide +kernel
theorem dX11_readLine_135 : decode cX11_readLine 135 = .ok (.getfield 184, 3) := by decide +kernel
theorem dX11_readLine_138 : decode cX11_readLine 138 = .ok (.iconst 1, 1) := by decide +kernel
theorem dX11_readLine_139 : decode cX11_readLine 139 = .ok (.iadd, 1) := by decide +kernel
theorem dX11_readLine_140 : decode cX11_readLine 140 = .ok (.putfield 184, 3) := by decide +kernel
theorem dX11_readLine_143 : decode cX11_readLine 143 = .ok (.aload_n 0, 1) := by decide +kernel
theorem dX11_readLine_144 : decode cX11_readLine 144 = .ok (.dup, 1) := by decide +kernel
theorem dX11_readLine_145 : decode cX11_readLine 145 = .ok (.getfield 175, 3) := by decide +kernel
theorem dX11_readLine_148 : decode cX11_readLine 148 = .ok (.iconst 1, 1) := by decide +kernel
theorem dX11_readLine_149 : decode cX11_readLine 149 = .ok (.iadd, 1) := by decide +kernel
theorem dX11_readLine_150 : decode cX11_readLine 150 = .ok (.putfield 175, 3) := by decide +kernel
theorem dX11_readLine_153 : decode cX11_readLine 153 = .ok (.return_, 1) := by decide +kernel
set_option maxRecDepth 100000 in
set_option maxHeartbeats 4000000 in
theorem M_X11_readLine (G : zG) (l : Launch) {σ : zS} {σ' : zS} (hJ : J_X11_readLine σ = some σ') : zMV G l yX11_readLine cX11_readLine 3 none (zrm 4 92) [.ref (G.1 + 105)] 137 (zen G σ) 137 (zen G σ') := by
  unfold J_X11_readLine at hJ
  refine zentV (by decide +kernel) (Nat.le_of_ble_eq_true rfl) ?_
  intro p e s m args below meth c C hret
  refine zr_sub [0] [(0, .ref (G.1 + 105))] rfl ?_
  refine zr_aload_n C 0 dX11_readLine_0 rfl ?_
  refine zr_aload_n C 0 dX11_readLine_1 rfl ?_
  refine zg_11_11 C 105 zk_105 zm_16_15 dX11_readLine_2 ?_
  refine zr_bipush C dX11_readLine_5 (v := (16 : Int32)) (by decide) ?_
  obtain ⟨v1, hv1, hJ⟩ := zlet_e hJ
  have hf27 : zU G 3 p l e (zrm 4 92) s m args below meth c (MQ below (va_Qv (fun (_ : Unit) => True) (fun _ t => zok G 137 (zen G σ') t) (zA G)) args s 0 0 (zA G)) σ 15 [(0, .ref (G.1 + 105))] [.int v1, .ref (G.1 + 105)] := by
    refine zr_iconst C dX11_readLine_15 (v := (5 : Int32)) (by decide) ?_
    obtain ⟨σ3, hr2, hJ⟩ := zb_e hJ
    refine zr_callVV C 105 (zk_lt zk_105 (by decide)) (zen_obj zk_105) (rfl : zcl[11]? = some (RX11, TX11, 56)) (M_X11_wants G l hr2) zin_X11_wants zm_17_13 rfl rfl (Nat.le_of_ble_eq_true rfl) ⟨Nat.le_of_ble_eq_true rfl, Nat.le_of_ble_eq_true rfl⟩ ⟨Nat.le_of_ble_eq_true rfl, Nat.le_of_ble_eq_true rfl⟩ dX11_readLine_16 ?_
    refine zr_aload_n C 0 dX11_readLine_19 rfl ?_
    obtain ⟨σ5, hr4, hJ⟩ := zb_e hJ
    refine zr_callVV C 105 (zk_lt zk_105 (by decide)) (zen_obj zk_105) (rfl : zcl[11]? = some (RX11, TX11, 56)) (M_X11_next G l hr4) zin_X11_next zm_16_23 rfl rfl (Nat.le_of_ble_eq_true rfl) ⟨Nat.le_of_ble_eq_true rfl, Nat.le_of_ble_eq_true rfl⟩ ⟨Nat.le_of_ble_eq_true rfl, Nat.le_of_ble_eq_true rfl⟩ dX11_readLine_20 ?_
    refine zr_aload_n C 0 dX11_readLine_23 rfl ?_
    refine zr_iconst C dX11_readLine_24 (v := (1 : Int32)) (by decide) ?_
    refine zr_bipush C dX11_readLine_25 (v := (20 : Int32)) (by decide) ?_
    obtain ⟨r6, σ7, hr6, hJ⟩ := zb2_e hJ
    refine zr_callVI C 105 (zk_lt zk_105 (by decide)) (zen_obj zk_105) (rfl : zcl[11]? = some (RX11, TX11, 56)) (M_X11_readNumber G l hr6) zin_X11_readNumber zm_18_9 rfl rfl (Nat.le_of_ble_eq_true rfl) ⟨Nat.le_of_ble_eq_true rfl, Nat.le_of_ble_eq_true rfl⟩ ⟨Nat.le_of_ble_eq_true rfl, Nat.le_of_ble_eq_true rfl⟩ dX11_readLine_27 ?_
    refine zr_istore_n C [(1, .int r6), (0, .ref (G.1 + 105))] dX11_readLine_30 (by decide) rfl ?_
    refine zr_iconst C dX11_readLine_31 (v := (0 : Int32)) (by decide) ?_
    refine zr_istore_n C [(2, .int (0 : Int32)), (1, .int r6), (0, .ref (G.1 + 105))] dX11_readLine_32 (by decide) rfl ?_
    obtain ⟨k67, hk67, hJ⟩ := zlet_e hJ
    have hj67 : ∀ (σ_67 : zS), k67 σ_67 = some σ' → zU G 3 p l e (zrm 4 92) s m args below meth c (MQ below (va_Qv (fun (_ : Unit) => True) (fun _ t => zok G 137 (zen G σ') t) (zA G)) args s 0 0 (zA G)) σ_67 67 [(0, .ref (G.1 + 105)), (1, .int r6)] [] := by
      intro σ_67 hJ
      rw [hk67] at hJ
      unfold D_X11_readLine_67 at hJ
      refine zr_aload_n C 0 dX11_readLine_67 rfl ?_
      obtain ⟨σ9, hr8, hJ⟩ := zb_e hJ
      refine zr_callVV C 105 (zk_lt zk_105 (by decide)) (zen_obj zk_105) (rfl : zcl[11]? = some (RX11, TX11, 56)) (M_X11_readEvents G l hr8) zin_X11_readEvents zm_18_13 rfl rfl (Nat.le_of_ble_eq_true rfl) ⟨Nat.le_of_ble_eq_true rfl, Nat.le_of_ble_eq_true rfl⟩ ⟨Nat.le_of_ble_eq_true rfl, Nat.le_of_ble_eq_true rfl⟩ dX11_readLine_68 ?_
      refine zr_aload_n C 0 dX11_readLine_71 rfl ?_
      refine zg_11_30 C 105 zk_105 zm_16_13 dX11_readLine_72 ?_
      refine zr_if_ne C 153 dX11_readLine_75 (by decide) (fun hc10 => ?_) (fun hc10 => ?_)
      · have hJ := zif' hc10 hJ
        exact zr_vret C hret rfl (congrArg (zen G) (zs_e hJ)) dX11_readLine_153
      · have hJ := zif hc10 hJ
        refine zr_aload_n C 0 dX11_readLine_78 rfl ?_
        refine zg_11_12 C 105 zk_105 zm_7_18 dX11_readLine_79 ?_
        refine zr_aload_n C 0 dX11_readLine_82 rfl ?_
        refine zg_11_11 C 105 zk_105 zm_16_15 dX11_readLine_83 ?_
        refine zr_iload_n C 1 dX11_readLine_86 rfl ?_
        obtain ⟨hg11, hJ⟩ := zg_e hJ
        obtain ⟨σ12, hσ12, hJ⟩ := zlet_e hJ
        refine zv_iast C 113 zk_113 hg11 hσ12 dX11_readLine_87 ?_
        refine zr_aload_n C 0 dX11_readLine_88 rfl ?_
        refine zg_11_14 C 105 zk_105 zm_7_20 dX11_readLine_89 ?_
        refine zr_aload_n C 0 dX11_readLine_92 rfl ?_
        refine zg_11_11 C 105 zk_105 zm_16_15 dX11_readLine_93 ?_
        refine zr_aload_n C 0 dX11_readLine_96 rfl ?_
        refine zg_11_19 C 105 zk_105 zm_16_18 dX11_readLine_97 ?_
        obtain ⟨v13, hv13, hJ⟩ := zlet_e hJ
        refine zr_steq [.int (σ12.1 105 19), .int v13, .ref (G.1 + 115)] (by rw [hv13]) ?_
        obtain ⟨k119, hk119, hJ⟩ := zlet_e hJ
        have hj119 : ∀ (x0_119 : Int32), k119 x0_119 = some σ' → zU G 3 p l e (zrm 4 92) s m args below meth c (MQ below (va_Qv (fun (_ : Unit) => True) (fun _ t => zok G 137 (zen G σ') t) (zA G)) args s 0 0 (zA G)) σ12 119 [(0, .ref (G.1 + 105))] [.int x0_119, .int v13, .ref (G.1 + 115)] := by
          intro x0_119 hJ
          rw [hk119] at hJ
          unfold D_X11_readLine_119 at hJ
          obtain ⟨hg14, hJ⟩ := zg_e hJ
          obtain ⟨σ15, hσ15, hJ⟩ := zlet_e hJ
          refine zv_iast C 115 zk_115 hg14 hσ15 dX11_readLine_119 ?_
          refine zr_aload_n C 0 dX11_readLine_120 rfl ?_
          refine zg_11_21 C 105 zk_105 zm_8_1 dX11_readLine_121 ?_
          refine zr_aload_n C 0 dX11_readLine_124 rfl ?_
          refine zg_11_23 C 105 zk_105 zm_16_17 dX11_readLine_125 ?_
          refine zr_aload_n C 0 dX11_readLine_128 rfl ?_
          refine zg_11_11 C 105 zk_105 zm_16_15 dX11_readLine_129 ?_
          obtain ⟨hg16, hJ⟩ := zg_e hJ
          obtain ⟨σ17, hσ17, hJ⟩ := zlet_e hJ
          refine zv_iast C 120 zk_120 hg16 hσ17 dX11_readLine_132 ?_
          refine zr_aload_n C 0 dX11_readLine_133 rfl ?_
          refine zr_dup C dX11_readLine_134 rfl ?_
          refine zg_11_23 C 105 zk_105 zm_16_17 dX11_readLine_135 ?_
          refine zr_iconst C dX11_readLine_138 (v := (1 : Int32)) (by decide) ?_
          refine zr_iadd C dX11_readLine_139 ?_
          obtain ⟨σ18, hσ18, hJ⟩ := zlet_e hJ
          refine zp_11_23 C 105 zk_105 zm_16_17 hσ18 dX11_readLine_140 ?_
          refine zr_aload_n C 0 dX11_readLine_143 rfl ?_
          refine zr_dup C dX11_readLine_144 rfl ?_
          refine zg_11_11 C 105 zk_105 zm_16_15 dX11_readLine_145 ?_
          refine zr_iconst C dX11_readLine_148 (v := (1 : Int32)) (by decide) ?_
          refine zr_iadd C dX11_readLine_149 ?_
          obtain ⟨σ19, hσ19, hJ⟩ := zlet_e hJ
          refine zp_11_11 C 105 zk_105 zm_16_15 hσ19 dX11_readLine_150 ?_
          exact zr_vret C hret rfl (congrArg (zen G) (zs_e hJ)) dX11_readLine_153
        refine zr_if_ne C 108 dX11_readLine_100 (by decide) (fun hc20 => ?_) (fun hc20 => ?_)
        · have hJ := zif' hc20 hJ
          refine zr_aload_n C 0 dX11_readLine_108 rfl ?_
          refine zg_11_18 C 105 zk_105 zm_7_23 dX11_readLine_109 ?_
          refine zr_aload_n C 0 dX11_readLine_112 rfl ?_
          refine zg_11_19 C 105 zk_105 zm_16_18 dX11_readLine_113 ?_
          refine zr_iconst C dX11_readLine_116 (v := (1 : Int32)) (by decide) ?_
          refine zr_isub C dX11_readLine_117 ?_
          obtain ⟨hg21, hJ⟩ := zg_e hJ
          refine zu_iald C 118 zk_118 hg21 dX11_readLine_118 ?_
          refine zr_sub [0] [(0, .ref (G.1 + 105))] rfl ?_
          exact hj119 _ hJ
        · have hJ := zif hc20 hJ
          refine zr_bipush C dX11_readLine_103 (v := (-4 : Int32)) (by decide) ?_
          refine zr_goto C 119 dX11_readLine_105 (by decide) ?_
          refine zr_sub [0] [(0, .ref (G.1 + 105))] rfl ?_
          exact hj119 _ hJ
    have hl33 : ∀ (n : Nat) (w2_33 : Int32) (σ_33 : zS), L_X11_readLine_33 k67 n w2_33 σ_33 = some σ' → zU G 3 p l e (zrm 4 92) s m args below meth c (MQ below (va_Qv (fun (_ : Unit) => True) (fun _ t => zok G 137 (zen G σ') t) (zA G)) args s 0 0 (zA G)) σ_33 33 [(0, .ref (G.1 + 105)), (1, .int r6), (2, .int w2_33)] [] := by
      intro n
      induction n with
      | zero =>
        intro w2_33 σ_33 hJ
        rw [L_X11_readLine_33] at hJ
        cases hJ
      | succ n ih =>
        intro w2_33 σ_33 hJ
        rw [L_X11_readLine_33] at hJ
        obtain ⟨r_33, hr_33, hJ⟩ := zlet_e hJ
        have ih33 : ∀ (w2_33 : Int32) (σ_33 : zS), r_33 w2_33 σ_33 = some σ' → zU G 3 p l e (zrm 4 92) s m args below meth c (MQ below (va_Qv (fun (_ : Unit) => True) (fun _ t => zok G 137 (zen G σ') t) (zA G)) args s 0 0 (zA G)) σ_33 33 [(0, .ref (G.1 + 105)), (1, .int r6), (2, .int w2_33)] [] := by
          rw [hr_33]
          exact ih
        refine zr_iload_n C 2 dX11_readLine_33 rfl ?_
        refine zr_bipush C dX11_readLine_34 (v := (8 : Int32)) (by decide) ?_
        refine zr_icmp_ge C 67 dX11_readLine_36 (by decide) (fun hc22 => ?_) (fun hc22 => ?_)
        · have hJ := zif hc22 hJ
          refine zr_sub [0, 1] [(0, .ref (G.1 + 105)), (1, .int r6)] rfl ?_
          exact hj67 _ hJ
        · have hJ := zif' hc22 hJ
          refine zr_aload_n C 0 dX11_readLine_39 rfl ?_
          refine zg_11_30 C 105 zk_105 zm_16_13 dX11_readLine_40 ?_
          refine zr_if_ne C 67 dX11_readLine_43 (by decide) (fun hc23 => ?_) (fun hc23 => ?_)
          · have hJ := zif' hc23 hJ
            refine zr_sub [0, 1] [(0, .ref (G.1 + 105)), (1, .int r6)] rfl ?_
            exact hj67 _ hJ
          · have hJ := zif hc23 hJ
            refine zr_aload_n C 0 dX11_readLine_46 rfl ?_
            refine zg_11_13 C 105 zk_105 zm_7_19 dX11_readLine_47 ?_
            refine zr_bipush C dX11_readLine_50 (v := (8 : Int32)) (by decide) ?_
            refine zr_aload_n C 0 dX11_readLine_52 rfl ?_
            refine zg_11_11 C 105 zk_105 zm_16_15 dX11_readLine_53 ?_
            refine zr_imul C dX11_readLine_56 ?_
            refine zr_iload_n C 2 dX11_readLine_57 rfl ?_
            refine zr_iadd C dX11_readLine_58 ?_
            refine zr_iconst C dX11_readLine_59 (v := (0 : Int32)) (by decide) ?_
            obtain ⟨hg24, hJ⟩ := zg_e hJ
            obtain ⟨σ25, hσ25, hJ⟩ := zlet_e hJ
            refine zv_iast C 114 zk_114 hg24 hσ25 dX11_readLine_60 ?_
            obtain ⟨v26, hv26, hJ⟩ := zlet_e hJ
            refine zr_iinc C v26 2 [(2, .int v26), (0, .ref (G.1 + 105)), (1, .int r6)] dX11_readLine_61 rfl (hv26.trans (zinc (by decide))) (by decide) rfl ?_
            refine zr_goto C 33 dX11_readLine_64 (by decide) ?_
            refine zr_sub [1, 2, 0] [(0, .ref (G.1 + 105)), (1, .int r6), (2, .int v26)] rfl ?_
            exact ih33 _ _ hJ
    refine zr_sub [2, 1, 0] [(0, .ref (G.1 + 105)), (1, .int r6), (2, .int (0 : Int32))] rfl ?_
    exact hl33 _ _ _ hJ
  refine zr_icmp_ge C 14 dX11_readLine_7 (by decide) (fun hc28 => ?_) (fun hc28 => ?_)
  · have hv1 := hv1.trans (if_pos hc28)
    refine zr_iconst C dX11_readLine_14 (v := (0 : Int32)) (by decide) ?_
    rw [hv1] at hf27
    exact hf27
  · have hv1 := hv1.trans (if_neg hc28)
    refine zr_iconst C dX11_readLine_10 (v := (1 : Int32)) (by decide) ?_
    refine zr_goto C 15 dX11_readLine_11 (by decide) ?_
    rw [hv1] at hf27
    exact hf27
theorem dX11_readLoop_0 : decode cX11_readLoop 0 = .ok (.aload_n 0, 1) := by decide +kernel
theorem dX11_readLoop_1 : decode cX11_readLoop 1 = .ok (.aload_n 0, 1) := by decide +kernel
theorem dX11_readLoop_2 : decode cX11_readLoop 2 = .ok (.getfield 181, 3) := by decide +kernel
theorem dX11_readLoop_5 : decode cX11_readLoop 5 = .ok (.iconst 4, 1) := by decide +kernel
theorem dX11_readLoop_6 : decode cX11_readLoop 6 = .ok (.if_icmp .ge 7, 3) := by decide +kernel
theorem dX11_readLoop_9 : decode cX11_readLoop 9 = .ok (.iconst 1, 1) := by decide +kernel
theorem dX11_readLoop_10 : decode cX11_readLoop 10 = .ok (.goto 4, 3) := by decide +kernel
theorem dX11_readLoop_13 : decode cX11_readLoop 13 = .ok (.iconst 0, 1) := by decide +kernel
theorem dX11_readLoop_14 : decode cX11_readLoop 14 = .ok (.iconst 5, 1) := by decide +kernel
theorem dX11_readLoop_15 : decode cX11_readLoop 15 = .ok (.invokevirtual 162, 3) := by decide +kernel
theorem dX11_readLoop_18 : decode cX11_readLoop 18 = .ok (.aload_n 0, 1) := by decide +kernel
theorem dX11_readLoop_19 : decode cX11_readLoop 19 = .ok (.invokevirtual 166, 3) := by decide +kernel
theorem dX11_readLoop_22 : decode cX11_readLoop 22 = .ok (.aload_n 0, 1) := by decide +kernel
theorem dX11_readLoop_23 : decode cX11_readLoop 23 = .ok (.iconst 1, 1) := by decide +kernel
theorem dX11_readLoop_24 : decode cX11_readLoop 24 = .ok (.bipush 99, 2) := by decide +kernel
theorem dX11_readLoop_26 : decode cX11_readLoop 26 = .ok (.invokevirtual 171, 3) := by decide +kernel
theorem dX11_readLoop_29 : decode cX11_readLoop 29 = .ok (.istore_n 1, 1) := by decide +kernel
theorem dX11_readLoop_30 : decode cX11_readLoop 30 = .ok (.aload_n 0, 1) := by decide +kernel
theorem dX11_readLoop_31 : decode cX11_readLoop 31 = .ok (.getfield 128, 3) := by decide +kernel
theorem dX11_readLoop_34 : decode cX11_readLoop 34 = .ok (.ifCond .ne 104, 3) := by decide +kernel
theorem dX11_readLoop_37 : decode cX11_readLoop 37 = .ok (.aload_n 0, 1) := by decide +kernel
theorem dX11_readLoop_38 : decode cX11_readLoop 38 = .ok (.getfield 40, 3) := by decide +kernel
theorem dX11_readLoop_41 : decode cX11_readLoop 41 = .ok (.aload_n 0, 1) := by decide +kernel
theorem dX11_readLoop_42 : decode cX11_readLoop 42 = .ok (.getfield 187, 3) := by decide +kernel
theorem dX11_readLoop_45 : decode cX11_readLoop 45 = .ok (.iload_n 1, 1) := by decide +kernel
theorem dX11_readLoop_46 : decode cX11_readLoop 46 = .ok (.iastore, 1) := by decide +kernel
theorem dX11_readLoop_47 : decode cX11_readLoop 47 = .ok (.aload_n 0, 1) := by decide +kernel
theorem dX11_readLoop_48 : decode cX11_readLoop 48 = .ok (.getfield 43, 3) := by decide +kernel
theorem dX11_readLoop_51 : decode cX11_readLoop 51 = .ok (.aload_n 0, 1) := by decide +kernel
theorem dX11_readLoop_52 : decode cX11_readLoop 52 = .ok (.getfield 187, 3) := by decide +kernel
theorem dX11_readLoop_55 : decode cX11_readLoop 55 = .ok (.aload_n 0, 1) := by decide +kernel
theorem dX11_readLoop_56 : decode cX11_readLoop 56 = .ok (.getfield 181, 3) := by decide +kernel
theorem dX11_readLoop_59 : decode cX11_readLoop 59 = .ok (.ifCond .ne 8, 3) := by decide +kernel
theorem dX11_readLoop_62 : decode cX11_readLoop 62 = .ok (.bipush (-4), 2) := by decide +kernel
theorem dX11_readLoop_64 : decode cX11_readLoop 64 = .ok (.goto 14, 3) := by decide +kernel
theorem dX11_readLoop_67 : decode cX11_readLoop 67 = .ok (.aload_n 0, 1) := by decide +kernel
theorem dX11_readLoop_68 : decode cX11_readLoop 68 = .ok (.getfield 46, 3) := by decide +kernel
theorem dX11_readLoop_71 : decode cX11_readLoop 71 = .ok (.aload_n 0, 1) := by decide +kernel
theorem dX11_readLoop_72 : decode cX11_readLoop 72 = .ok (.getfield 181, 3) := by decide +kernel
theorem dX11_readLoop_75 : decode cX11_readLoop 75 = .ok (.iconst 1, 1) := by decide +kernel
theorem dX11_readLoop_76 : decode cX11_readLoop 76 = .ok (.isub, 1) := by decide +kernel
theorem dX11_readLoop_77 : decode cX11_readLoop 77 = .ok (.iaload, 1) := by decide +kernel
theorem dX11_readLoop_78 : decode cX11_readLoop 78 = .ok (.iastore, 1) := by decide +kernel
theorem dX11_readLoop_79 : decode cX11_readLoop 79 = .ok (.aload_n 0, 1) := by decide +kernel
theorem dX11_readLoop_80 : decode cX11_readLoop 80 = .ok (.getfield 46, 3) := by decide +kernel
theorem dX11_readLoop_83 : decode cX11_readLoop 83 = .ok (.aload_n 0, 1) := by decide +kernel
theorem dX11_readLoop_84 : decode cX11_readLoop 84 = .ok (.getfield 181, 3) := by decide +kernel
theorem dX11_readLoop_87 : decode cX11_readLoop 87 = .ok (.aload_n 0, 1) := by decide +kernel
theorem dX11_readLoop_88 : decode cX11_readLoop 88 = .ok (.getfield 187, 3) := by decide +kernel
theorem dX11_readLoop_91 : decode cX11_readLoop 91 = .ok (.iastore, 1) := by decide +kernel
theorem dX11_readLoop_92 : decode cX11_readLoop 92 = .ok (.aload_n 0, 1) := by decide +kernel
theorem dX11_readLoop_93 : decode cX11_readLoop 93 = .ok (.getfield 52, 3) := by decide +kernel
theorem dX11_readLoop_96 : decode cX11_readLoop 96 = .ok (.aload_n 0, 1) := by decide +kernel
theorem dX11_readLoop_97 : decode cX11_readLoop 97 = .ok (.getfield 184, 3) := by decide +kernel
theorem dX11_readLoop_100 : decode cX11_readLoop 100 = .ok (.bipush 100, 2) := by decide +kernel
theorem dX11_readLoop_102 : decode cX11_readLoop 102 = .ok (.aload_n 0, 1) := by decide +kernel
theorem dX11_readLoop_103 : decode cX11_readLoop 103 = .ok (.getfield 187, 3) := by decide +kernel
theorem dX11_readLoop_106 : decode cX11_readLoop 106 = .ok (.iadd, 1) := by decide +kernel
theorem dX11_readLoop_107 : decode cX11_readLoop 107 = .ok (.iastore, 1) := by decide +kernel
theorem dX11_readLoop_108 : decode cX11_readLoop 108 = .ok (.aload_n 0, 1) := by decide +kernel
theorem dX11_readLoop_109 : decode cX11_readLoop 109 = .ok (.dup, 1) := by decide +kernel
theorem dX11_readLoop_110 : decode cX11_readLoop 110 = .ok (.getfield 184, 3) := by decide +kernel
theorem dX11_readLoop_113 : decode cX11_readLoop 113 = .ok (.iconst 1, 1) := by decide +kernel
theorem dX11_readLoop_114 : decode cX11_readLoop 114 = .ok (.iadd, 1) := by decide +kernel
theorem dX11_readLoop_115 : decode cX11_readLoop 115 = .ok (.putfield 184, 3) := by decide +kernel
theorem dX11_readLoop_118 : decode cX11_readLoop 118 = .ok (.aload_n 0, 1) := by decide +kernel
theorem dX11_readLoop_119 : decode cX11_readLoop 119 = .ok (.dup, 1) := by decide +kernel
theorem dX11_readLoop_120 : decode cX11_readLoop 120 = .ok (.getfield 187, 3) := by decide +kernel
theorem dX11_readLoop_123 : decode cX11_readLoop 123 = .ok (.iconst 1, 1) := by decide +kernel
theorem dX11_readLoop_124 : decode cX11_readLoop 124 = .ok (.iadd, 1) := by decide +kernel
theorem dX11_readLoop_125 : decode cX11_readLoop 125 = .ok (.putfield 187, 3) := by decide +kernel
theorem dX11_readLoop_128 : decode cX11_readLoop 128 = .ok (.aload_n 0, 1) := by decide +kernel
theorem dX11_readLoop_129 : decode cX11_readLoop 129 = .ok (.dup, 1) := by decide +kernel
theorem dX11_readLoop_130 : decode cX11_readLoop 130 = .ok (.getfield 181, 3) := by decide +kernel
theorem dX11_readLoop_133 : decode cX11_readLoop 133 = .ok (.iconst 1, 1) := by decide +kernel
theorem dX11_readLoop_134 : decode cX11_readLoop 134 = .ok (.iadd, 1) := by decide +kernel
theorem dX11_readLoop_135 : decode cX11_readLoop 135 = .ok (.putfield 181, 3) := by decide +kernel
theorem dX11_readLoop_138 : decode cX11_readLoop 138 = .ok (.return_, 1) := by decide +kernel
set_option maxRecDepth 100000 in
set_option maxHeartbeats 4000000 in
theorem M_X11_readLoop (G : zG) (l : Launch) {σ : zS} {σ' : zS} (hJ : J_X11_readLoop σ = some σ') : zMV G l yX11_readLoop cX11_readLoop 2 none (zrm 3 69) [.ref (G.1 + 105)] 137 (zen G σ) 137 (zen G σ') := by
  unfold J_X11_readLoop at hJ
  refine zentV (by decide +kernel) (Nat.le_of_ble_eq_true rfl) ?_
  intro p e s m args below meth c C hret
  refine zr_sub [0] [(0, .ref (G.1 + 105))] rfl ?_
  refine zr_aload_n C 0 dX11_readLoop_0 rfl ?_
  refine zr_aload_n C 0 dX11_readLoop_1 rfl ?_
  refine zg_11_19 C 105 zk_105 zm_16_18 dX11_readLoop_2 ?_
  refine zr_iconst C dX11_readLoop_5 (v := (4 : Int32)) (by decide) ?_
  obtain ⟨v1, hv1, hJ⟩ := zlet_e hJ
  have hf23 : zU G 2 p l e (zrm 3 69) s m args below meth c (MQ below (va_Qv (fun (_ : Unit) => True) (fun _ t => zok G 137 (zen G σ') t) (zA G)) args s 0 0 (zA G)) σ 14 [(0, .ref (G.1 + 105))] [.int v1, .ref (G.1 + 105)] := by
    refine zr_iconst C dX11_readLoop_14 (v := (5 : Int32)) (by decide) ?_
    obtain ⟨σ3, hr2, hJ⟩ := zb_e hJ
    refine zr_callVV C 105 (zk_lt zk_105 (by decide)) (zen_obj zk_105) (rfl : zcl[11]? = some (RX11, TX11, 56)) (M_X11_wants G l hr2) zin_X11_wants zm_17_13 rfl rfl (Nat.le_of_ble_eq_true rfl) ⟨Nat.le_of_ble_eq_true rfl, Nat.le_of_ble_eq_true rfl⟩ ⟨Nat.le_of_ble_eq_true rfl, Nat.le_of_ble_eq_true rfl⟩ dX11_readLoop_15 ?_
    refine zr_aload_n C 0 dX11_readLoop_18 rfl ?_
    obtain ⟨σ5, hr4, hJ⟩ := zb_e hJ
    refine zr_callVV C 105 (zk_lt zk_105 (by decide)) (zen_obj zk_105) (rfl : zcl[11]? = some (RX11, TX11, 56)) (M_X11_next G l hr4) zin_X11_next zm_16_23 rfl rfl (Nat.le_of_ble_eq_true rfl) ⟨Nat.le_of_ble_eq_true rfl, Nat.le_of_ble_eq_true rfl⟩ ⟨Nat.le_of_ble_eq_true rfl, Nat.le_of_ble_eq_true rfl⟩ dX11_readLoop_19 ?_
    refine zr_aload_n C 0 dX11_readLoop_22 rfl ?_
    refine zr_iconst C dX11_readLoop_23 (v := (1 : Int32)) (by decide) ?_
    refine zr_bipush C dX11_readLoop_24 (v := (99 : Int32)) (by decide) ?_
    obtain ⟨r6, σ7, hr6, hJ⟩ := zb2_e hJ
    refine zr_callVI C 105 (zk_lt zk_105 (by decide)) (zen_obj zk_105) (rfl : zcl[11]? = some (RX11, TX11, 56)) (M_X11_readNumber G l hr6) zin_X11_readNumber zm_18_9 rfl rfl (Nat.le_of_ble_eq_true rfl) ⟨Nat.le_of_ble_eq_true rfl, Nat.le_of_ble_eq_true rfl⟩ ⟨Nat.le_of_ble_eq_true rfl, Nat.le_of_ble_eq_true rfl⟩ dX11_readLoop_26 ?_
    refine zr_istore_n C [(1, .int r6), (0, .ref (G.1 + 105))] dX11_readLoop_29 (by decide) rfl ?_
    refine zr_aload_n C 1 dX11_readLoop_30 rfl ?_
    refine zg_11_30 C 105 zk_105 zm_16_13 dX11_readLoop_31 ?_
    refine zr_if_ne C 138 dX11_readLoop_34 (by decide) (fun hc8 => ?_) (fun hc8 => ?_)
    · have hJ := zif' hc8 hJ
      exact zr_vret C hret rfl (congrArg (zen G) (zs_e hJ)) dX11_readLoop_138
    · have hJ := zif hc8 hJ
      refine zr_aload_n C 1 dX11_readLoop_37 rfl ?_
      refine zg_11_16 C 105 zk_105 zm_7_21 dX11_readLoop_38 ?_
      refine zr_aload_n C 1 dX11_readLoop_41 rfl ?_
      refine zg_11_15 C 105 zk_105 zm_16_16 dX11_readLoop_42 ?_
      refine zr_iload_n C 0 dX11_readLoop_45 rfl ?_
      obtain ⟨hg9, hJ⟩ := zg_e hJ
      obtain ⟨σ10, hσ10, hJ⟩ := zlet_e hJ
      refine zv_iast C 116 zk_116 hg9 hσ10 dX11_readLoop_46 ?_
      refine zr_aload_n C 1 dX11_readLoop_47 rfl ?_
      refine zg_11_17 C 105 zk_105 zm_7_22 dX11_readLoop_48 ?_
      refine zr_aload_n C 1 dX11_readLoop_51 rfl ?_
      refine zg_11_15 C 105 zk_105 zm_16_16 dX11_readLoop_52 ?_
      refine zr_aload_n C 1 dX11_readLoop_55 rfl ?_
      refine zg_11_19 C 105 zk_105 zm_16_18 dX11_readLoop_56 ?_
      obtain ⟨v11, hv11, hJ⟩ := zlet_e hJ
      refine zr_steq [.int (σ10.1 105 19), .int v11, .ref (G.1 + 117)] (by rw [hv11]) ?_
      obtain ⟨k78, hk78, hJ⟩ := zlet_e hJ
      have hj78 : ∀ (x0_78 : Int32), k78 x0_78 = some σ' → zU G 2 p l e (zrm 3 69) s m args below meth c (MQ below (va_Qv (fun (_ : Unit) => True) (fun _ t => zok G 137 (zen G σ') t) (zA G)) args s 0 0 (zA G)) σ10 78 [(0, .ref (G.1 + 105))] [.int x0_78, .int v11, .ref (G.1 + 117)] := by
        intro x0_78 hJ
        rw [hk78] at hJ
        unfold D_X11_readLoop_78 at hJ
        obtain ⟨hg12, hJ⟩ := zg_e hJ
        obtain ⟨σ13, hσ13, hJ⟩ := zlet_e hJ
        refine zv_iast C 117 zk_117 hg12 hσ13 dX11_readLoop_78 ?_
        refine zr_aload_n C 0 dX11_readLoop_79 rfl ?_
        refine zg_11_18 C 105 zk_105 zm_7_23 dX11_readLoop_80 ?_
        refine zr_aload_n C 0 dX11_readLoop_83 rfl ?_
        refine zg_11_19 C 105 zk_105 zm_16_18 dX11_readLoop_84 ?_
        refine zr_aload_n C 0 dX11_readLoop_87 rfl ?_
        refine zg_11_15 C 105 zk_105 zm_16_16 dX11_readLoop_88 ?_
        obtain ⟨hg14, hJ⟩ := zg_e hJ
        obtain ⟨σ15, hσ15, hJ⟩ := zlet_e hJ
        refine zv_iast C 118 zk_118 hg14 hσ15 dX11_readLoop_91 ?_
        refine zr_aload_n C 0 dX11_readLoop_92 rfl ?_
        refine zg_11_21 C 105 zk_105 zm_8_1 dX11_readLoop_93 ?_
        refine zr_aload_n C 0 dX11_readLoop_96 rfl ?_
        refine zg_11_23 C 105 zk_105 zm_16_17 dX11_readLoop_97 ?_
        refine zr_bipush C dX11_readLoop_100 (v := (100 : Int32)) (by decide) ?_
        refine zr_aload_n C 0 dX11_readLoop_102 rfl ?_
        refine zg_11_15 C 105 zk_105 zm_16_16 dX11_readLoop_103 ?_
        refine zr_iadd C dX11_readLoop_106 ?_
        obtain ⟨hg16, hJ⟩ := zg_e hJ
        obtain ⟨σ17, hσ17, hJ⟩ := zlet_e hJ
        refine zv_iast C 120 zk_120 hg16 hσ17 dX11_readLoop_107 ?_
        refine zr_aload_n C 0 dX11_readLoop_108 rfl ?_
        refine zr_dup C dX11_readLoop_109 rfl ?_
        refine zg_11_23 C 105 zk_105 zm_16_17 dX11_readLoop_110 ?_
        refine zr_iconst C dX11_readLoop_113 (v := (1 : Int32)) (by decide) ?_
        refine zr_iadd C dX11_readLoop_114 ?_
        obtain ⟨σ18, hσ18, hJ⟩ := zlet_e hJ
        refine zp_11_23 C 105 zk_105 zm_16_17 hσ18 dX11_readLoop_115 ?_
        refine zr_aload_n C 0 dX11_readLoop_118 rfl ?_
        refine zr_dup C dX11_readLoop_119 rfl ?_
        refine zg_11_15 C 105 zk_105 zm_16_16 dX11_readLoop_120 ?_
        refine zr_iconst C dX11_readLoop_123 (v := (1 : Int32)) (by decide) ?_
        refine zr_iadd C dX11_readLoop_124 ?_
        obtain ⟨σ19, hσ19, hJ⟩ := zlet_e hJ
        refine zp_11_15 C 105 zk_105 zm_16_16 hσ19 dX11_readLoop_125 ?_
        refine zr_aload_n C 0 dX11_readLoop_128 rfl ?_
        refine zr_dup C dX11_readLoop_129 rfl ?_
        refine zg_11_19 C 105 zk_105 zm_16_18 dX11_readLoop_130 ?_
        refine zr_iconst C dX11_readLoop_133 (v := (1 : Int32)) (by decide) ?_
        refine zr_iadd C dX11_readLoop_134 ?_
        obtain ⟨σ20, hσ20, hJ⟩ := zlet_e hJ
        refine zp_11_19 C 105 zk_105 zm_16_18 hσ20 dX11_readLoop_135 ?_
        exact zr_vret C hret rfl (congrArg (zen G) (zs_e hJ)) dX11_readLoop_138
      refine zr_if_ne C 67 dX11_readLoop_59 (by decide) (fun hc21 => ?_) (fun hc21 => ?_)
      · have hJ := zif' hc21 hJ
        refine zr_aload_n C 1 dX11_readLoop_67 rfl ?_
        refine zg_11_18 C 105 zk_105 zm_7_23 dX11_readLoop_68 ?_
        refine zr_aload_n C 1 dX11_readLoop_71 rfl ?_
        refine zg_11_19 C 105 zk_105 zm_16_18 dX11_readLoop_72 ?_
        refine zr_iconst C dX11_readLoop_75 (v := (1 : Int32)) (by decide) ?_
        refine zr_isub C dX11_readLoop_76 ?_
        obtain ⟨hg22, hJ⟩ := zg_e hJ
        refine zu_iald C 118 zk_118 hg22 dX11_readLoop_77 ?_
        refine zr_sub [1] [(0, .ref (G.1 + 105))] rfl ?_
        exact hj78 _ hJ
      · have hJ := zif hc21 hJ
        refine zr_bipush C dX11_readLoop_62 (v := (-4 : Int32)) (by decide) ?_
        refine zr_goto C 78 dX11_readLoop_64 (by decide) ?_
        refine zr_sub [1] [(0, .ref (G.1 + 105))] rfl ?_
        exact hj78 _ hJ
  refine zr_icmp_ge C 13 dX11_readLoop_6 (by decide) (fun hc24 => ?_) (fun hc24 => ?_)
  · have hv1 := hv1.trans (if_pos hc24)
    refine zr_iconst C dX11_readLoop_13 (v := (0 : Int32)) (by decide) ?_
    rw [hv1] at hf23
    exact hf23
  · have hv1 := hv1.trans (if_neg hc24)
    refine zr_iconst C dX11_readLoop_9 (v := (1 : Int32)) (by decide) ?_
    refine zr_goto C 14 dX11_readLoop_10 (by decide) ?_
    rw [hv1] at hf23
    exact hf23
theorem dX11_readItem_0 : decode cX11_readItem 0 = .ok (.aload_n 0, 1) := by decide +kernel
theorem dX11_readItem_1 : decode cX11_readItem 1 = .ok (.getfield 148, 3) := by decide +kernel
theorem dX11_readItem_4 : decode cX11_readItem 4 = .ok (.iconst 1, 1) := by decide +kernel
theorem dX11_readItem_5 : decode cX11_readItem 5 = .ok (.if_icmp .ne 10, 3) := by decide +kernel
theorem dX11_readItem_8 : decode cX11_readItem 8 = .ok (.aload_n 0, 1) := by decide +kernel
theorem dX11_readItem_9 : decode cX11_readItem 9 = .ok (.invokevirtual 190, 3) := by decide +kernel
theorem dX11_readItem_12 : decode cX11_readItem 12 = .ok (.goto 5, 3) := by decide +kernel
theorem dX11_readItem_15 : decode cX11_readItem 15 = .ok (.bipush (-4), 2) := by decide +kernel
theorem dX11_readItem_17 : decode cX11_readItem 17 = .ok (.istore_n 1, 1) := by decide +kernel
theorem dX11_readItem_18 : decode cX11_readItem 18 = .ok (.aload_n 0, 1) := by decide +kernel
theorem dX11_readItem_19 : decode cX11_readItem 19 = .ok (.iload_n 1, 1) := by decide +kernel
theorem dX11_readItem_20 : decode cX11_readItem 20 = .ok (.bipush (-4), 2) := by decide +kernel
theorem dX11_readItem_22 : decode cX11_readItem 22 = .ok (.if_icmp .eq 7, 3) := by decide +kernel
theorem dX11_readItem_25 : decode cX11_readItem 25 = .ok (.iconst 1, 1) := by decide +kernel
theorem dX11_readItem_26 : decode cX11_readItem 26 = .ok (.goto 4, 3) := by decide +kernel
theorem dX11_readItem_29 : decode cX11_readItem 29 = .ok (.iconst 0, 1) := by decide +kernel
theorem dX11_readItem_30 : decode cX11_readItem 30 = .ok (.iconst 2, 1) := by decide +kernel
theorem dX11_readItem_31 : decode cX11_readItem 31 = .ok (.invokevirtual 162, 3) := by decide +kernel
theorem dX11_readItem_34 : decode cX11_readItem 34 = .ok (.iload_n 1, 1) := by decide +kernel
theorem dX11_readItem_35 : decode cX11_readItem 35 = .ok (.ifCond .ne 10, 3) := by decide +kernel
theorem dX11_readItem_38 : decode cX11_readItem 38 = .ok (.aload_n 0, 1) := by decide +kernel
theorem dX11_readItem_39 : decode cX11_readItem 39 = .ok (.invokevirtual 194, 3) := by decide +kernel
theorem dX11_readItem_42 : decode cX11_readItem 42 = .ok (.goto 24, 3) := by decide +kernel
theorem dX11_readItem_45 : decode cX11_readItem 45 = .ok (.iload_n 1, 1) := by decide +kernel
theorem dX11_readItem_46 : decode cX11_readItem 46 = .ok (.iconst 1, 1) := by decide +kernel
theorem dX11_readItem_47 : decode cX11_readItem 47 = .ok (.if_icmp .ne 10, 3) := by decide +kernel
theorem dX11_readItem_50 : decode cX11_readItem 50 = .ok (.aload_n 0, 1) := by decide +kernel
theorem dX11_readItem_51 : decode cX11_readItem 51 = .ok (.invokevirtual 197, 3) := by decide +kernel
theorem dX11_readItem_54 : decode cX11_readItem 54 = .ok (.goto 12, 3) := by decide +kernel
theorem dX11_readItem_57 : decode cX11_readItem 57 = .ok (.iload_n 1, 1) := by decide +kernel
theorem dX11_readItem_58 : decode cX11_readItem 58 = .ok (.iconst 2, 1) := by decide +kernel
theorem dX11_readItem_59 : decode cX11_readItem 59 = .ok (.if_icmp .ne 7, 3) := by decide +kernel
theorem dX11_readItem_62 : decode cX11_readItem 62 = .ok (.aload_n 0, 1) := by decide +kernel
theorem dX11_readItem_63 : decode cX11_readItem 63 = .ok (.invokevirtual 200, 3) := by decide +kernel
theorem dX11_readItem_66 : decode cX11_readItem 66 = .ok (.aload_n 0, 1) := by decide +kernel
theorem dX11_readItem_67 : decode cX11_readItem 67 = .ok (.getfield 128, 3) := by decide +kernel
theorem dX11_readItem_70 : decode cX11_readItem 70 = .ok (.ifCond .ne 21, 3) := by decide +kernel
theorem dX11_readItem_73 : decode cX11_readItem 73 = .ok (.aload_n 0, 1) := by decide +kernel
theorem dX11_readItem_74 : decode cX11_readItem 74 = .ok (.aload_n 0, 1) := by decide +kernel
theorem dX11_readItem_75 : decode cX11_readItem 75 = .ok (.getfield 148, 3) := by decide +kernel
theorem dX11_readItem_78 : decode cX11_readItem 78 = .ok (.iconst 3, 1) := by decide +kernel
theorem dX11_readItem_79 : decode cX11_readItem 79 = .ok (.if_icmp .ne 7, 3) := by decide +kernel
theorem dX11_readItem_82 : decode cX11_readItem 82 = .ok (.iconst 1, 1) := by decide +kernel
theorem dX11_readItem_83 : decode cX11_readItem 83 = .ok (.goto 4, 3) := by decide +kernel
theorem dX11_readItem_86 : decode cX11_readItem 86 = .ok (.iconst 0, 1) := by decide +kernel
theorem dX11_readItem_87 : decode cX11_readItem 87 = .ok (.iconst 2, 1) := by decide +kernel
theorem dX11_readItem_88 : decode cX11_readItem 88 = .ok (.invokevirtual 162, 3) := by decide +kernel
theorem dX11_readItem_91 : decode cX11_readItem 91 = .ok (.aload_n 0, 1) := by decide +kernel
theorem dX11_readItem_92 : decode cX11_readItem 92 = .ok (.invokevirtual 166, 3) := by decide +kernel
theorem dX11_readItem_95 : decode cX11_readItem 95 = .ok (.return_, 1) := by decide +kernel
set_option maxRecDepth 100000 in
set_option maxHeartbeats 4000000 in
theorem M_X11_readItem (G : zG) (l : Launch) {σ : zS} {σ' : zS} (hJ : J_X11_readItem σ = some σ') : zMV G l yX11_readItem cX11_readItem 2 none (zrm 5 114) [.ref (G.1 + 105)] 137 (zen G σ) 137 (zen G σ') := by
  unfold J_X11_readItem at hJ
  refine zentV (by decide +kernel) (Nat.le_of_ble_eq_true rfl) ?_
  intro p e s m args below meth c C hret
  refine zr_sub [0] [(0, .ref (G.1 + 105))] rfl ?_
  refine zr_aload_n C 0 dX11_readItem_0 rfl ?_
  refine zg_11_28 C 105 zk_105 zm_16_19 dX11_readItem_1 ?_
  refine zr_iconst C dX11_readItem_4 (v := (1 : Int32)) (by decide) ?_
  obtain ⟨k17, hk17, hJ⟩ := zlet_e hJ
  have hj17 : ∀ (x0_17 : Int32), k17 x0_17 = some σ' → zU G 2 p l e (zrm 5 114) s m args below meth c (MQ below (va_Qv (fun (_ : Unit) => True) (fun _ t => zok G 137 (zen G σ') t) (zA G)) args s 0 0 (zA G)) σ 17 [(0, .ref (G.1 + 105))] [.int x0_17] := by
    intro x0_17 hJ
    rw [hk17] at hJ
    unfold D_X11_readItem_17 at hJ
    refine zr_istore_n C [(1, .int x0_17), (0, .ref (G.1 + 105))] dX11_readItem_17 (by decide) rfl ?_
    refine zr_aload_n C 1 dX11_readItem_18 rfl ?_
    refine zr_iload_n C 0 dX11_readItem_19 rfl ?_
    refine zr_bipush C dX11_readItem_20 (v := (-4 : Int32)) (by decide) ?_
    obtain ⟨v1, hv1, hJ⟩ := zlet_e hJ
    have hf21 : zU G 2 p l e (zrm 5 114) s m args below meth c (MQ below (va_Qv (fun (_ : Unit) => True) (fun _ t => zok G 137 (zen G σ') t) (zA G)) args s 0 0 (zA G)) σ 30 [(0, .ref (G.1 + 105)), (1, .int x0_17)] [.int v1, .ref (G.1 + 105)] := by
      refine zr_iconst C dX11_readItem_30 (v := (2 : Int32)) (by decide) ?_
      obtain ⟨σ3, hr2, hJ⟩ := zb_e hJ
      refine zr_callVV C 105 (zk_lt zk_105 (by decide)) (zen_obj zk_105) (rfl : zcl[11]? = some (RX11, TX11, 56)) (M_X11_wants G l hr2) zin_X11_wants zm_17_13 rfl rfl (Nat.le_of_ble_eq_true rfl) ⟨Nat.le_of_ble_eq_true rfl, Nat.le_of_ble_eq_true rfl⟩ ⟨Nat.le_of_ble_eq_true rfl, Nat.le_of_ble_eq_true rfl⟩ dX11_readItem_31 ?_
      refine zr_iload_n C 1 dX11_readItem_34 rfl ?_
      obtain ⟨k66, hk66, hJ⟩ := zlet_e hJ
      have hj66 : ∀ (σ_66 : zS), k66 σ_66 = some σ' → zU G 2 p l e (zrm 5 114) s m args below meth c (MQ below (va_Qv (fun (_ : Unit) => True) (fun _ t => zok G 137 (zen G σ') t) (zA G)) args s 0 0 (zA G)) σ_66 66 [(0, .ref (G.1 + 105))] [] := by
        intro σ_66 hJ
        rw [hk66] at hJ
        unfold D_X11_readItem_66 at hJ
        refine zr_aload_n C 0 dX11_readItem_66 rfl ?_
        refine zg_11_30 C 105 zk_105 zm_16_13 dX11_readItem_67 ?_
        obtain ⟨k91, hk91, hJ⟩ := zlet_e hJ
        have hj91 : ∀ (σ_91 : zS), k91 σ_91 = some σ' → zU G 2 p l e (zrm 5 114) s m args below meth c (MQ below (va_Qv (fun (_ : Unit) => True) (fun _ t => zok G 137 (zen G σ') t) (zA G)) args s 0 0 (zA G)) σ_91 91 [(0, .ref (G.1 + 105))] [] := by
          intro σ_91 hJ
          rw [hk91] at hJ
          unfold D_X11_readItem_91 at hJ
          refine zr_aload_n C 0 dX11_readItem_91 rfl ?_
          obtain ⟨σ5, hr4, hJ⟩ := zb_e hJ
          refine zr_callVV C 105 (zk_lt zk_105 (by decide)) (zen_obj zk_105) (rfl : zcl[11]? = some (RX11, TX11, 56)) (M_X11_next G l hr4) zin_X11_next zm_16_23 rfl rfl (Nat.le_of_ble_eq_true rfl) ⟨Nat.le_of_ble_eq_true rfl, Nat.le_of_ble_eq_true rfl⟩ ⟨Nat.le_of_ble_eq_true rfl, Nat.le_of_ble_eq_true rfl⟩ dX11_readItem_92 ?_
          exact zr_vret C hret rfl (congrArg (zen G) (zs_e hJ)) dX11_readItem_95
        refine zr_if_ne C 91 dX11_readItem_70 (by decide) (fun hc6 => ?_) (fun hc6 => ?_)
        · have hJ := zif' hc6 hJ
          exact hj91 _ hJ
        · have hJ := zif hc6 hJ
          refine zr_aload_n C 0 dX11_readItem_73 rfl ?_
          refine zr_aload_n C 0 dX11_readItem_74 rfl ?_
          refine zg_11_28 C 105 zk_105 zm_16_19 dX11_readItem_75 ?_
          refine zr_iconst C dX11_readItem_78 (v := (3 : Int32)) (by decide) ?_
          obtain ⟨v7, hv7, hJ⟩ := zlet_e hJ
          have hf10 : zU G 2 p l e (zrm 5 114) s m args below meth c (MQ below (va_Qv (fun (_ : Unit) => True) (fun _ t => zok G 137 (zen G σ') t) (zA G)) args s 0 0 (zA G)) σ_66 87 [(0, .ref (G.1 + 105))] [.int v7, .ref (G.1 + 105)] := by
            refine zr_iconst C dX11_readItem_87 (v := (2 : Int32)) (by decide) ?_
            obtain ⟨σ9, hr8, hJ⟩ := zb_e hJ
            refine zr_callVV C 105 (zk_lt zk_105 (by decide)) (zen_obj zk_105) (rfl : zcl[11]? = some (RX11, TX11, 56)) (M_X11_wants G l hr8) zin_X11_wants zm_17_13 rfl rfl (Nat.le_of_ble_eq_true rfl) ⟨Nat.le_of_ble_eq_true rfl, Nat.le_of_ble_eq_true rfl⟩ ⟨Nat.le_of_ble_eq_true rfl, Nat.le_of_ble_eq_true rfl⟩ dX11_readItem_88 ?_
            exact hj91 _ hJ
          refine zr_icmp_ne C 86 dX11_readItem_79 (by decide) (fun hc11 => ?_) (fun hc11 => ?_)
          · have hv7 := hv7.trans (if_neg hc11)
            refine zr_iconst C dX11_readItem_86 (v := (0 : Int32)) (by decide) ?_
            rw [hv7] at hf10
            exact hf10
          · have hv7 := hv7.trans (if_pos hc11)
            refine zr_iconst C dX11_readItem_82 (v := (1 : Int32)) (by decide) ?_
            refine zr_goto C 87 dX11_readItem_83 (by decide) ?_
            rw [hv7] at hf10
            exact hf10
      refine zr_if_ne C 45 dX11_readItem_35 (by decide) (fun hc12 => ?_) (fun hc12 => ?_)
      · have hJ := zif' hc12 hJ
        refine zr_iload_n C 1 dX11_readItem_45 rfl ?_
        refine zr_iconst C dX11_readItem_46 (v := (1 : Int32)) (by decide) ?_
        refine zr_icmp_ne C 57 dX11_readItem_47 (by decide) (fun hc13 => ?_) (fun hc13 => ?_)
        · have hJ := zif' hc13 hJ
          refine zr_iload_n C 1 dX11_readItem_57 rfl ?_
          refine zr_iconst C dX11_readItem_58 (v := (2 : Int32)) (by decide) ?_
          refine zr_icmp_ne C 66 dX11_readItem_59 (by decide) (fun hc14 => ?_) (fun hc14 => ?_)
          · have hJ := zif' hc14 hJ
            refine zr_sub [0] [(0, .ref (G.1 + 105))] rfl ?_
            exact hj66 _ hJ
          · have hJ := zif hc14 hJ
            refine zr_aload_n C 0 dX11_readItem_62 rfl ?_
            obtain ⟨σ16, hr15, hJ⟩ := zb_e hJ
            refine zr_callVV C 105 (zk_lt zk_105 (by decide)) (zen_obj zk_105) (rfl : zcl[11]? = some (RX11, TX11, 56)) (M_X11_readEnd G l hr15) zin_X11_readEnd zm_18_22 rfl rfl (Nat.le_of_ble_eq_true rfl) ⟨Nat.le_of_ble_eq_true rfl, Nat.le_of_ble_eq_true rfl⟩ ⟨Nat.le_of_ble_eq_true rfl, Nat.le_of_ble_eq_true rfl⟩ dX11_readItem_63 ?_
            refine zr_sub [0] [(0, .ref (G.1 + 105))] rfl ?_
            exact hj66 _ hJ
        · have hJ := zif hc13 hJ
          refine zr_aload_n C 0 dX11_readItem_50 rfl ?_
          obtain ⟨σ18, hr17, hJ⟩ := zb_e hJ
          refine zr_callVV C 105 (zk_lt zk_105 (by decide)) (zen_obj zk_105) (rfl : zcl[11]? = some (RX11, TX11, 56)) (M_X11_readLoop G l hr17) zin_X11_readLoop zm_18_18 rfl rfl (Nat.le_of_ble_eq_true rfl) ⟨Nat.le_of_ble_eq_true rfl, Nat.le_of_ble_eq_true rfl⟩ ⟨Nat.le_of_ble_eq_true rfl, Nat.le_of_ble_eq_true rfl⟩ dX11_readItem_51 ?_
          refine zr_goto C 66 dX11_readItem_54 (by decide) ?_
          refine zr_sub [0] [(0, .ref (G.1 + 105))] rfl ?_
          exact hj66 _ hJ
      · have hJ := zif hc12 hJ
        refine zr_aload_n C 0 dX11_readItem_38 rfl ?_
        obtain ⟨σ20, hr19, hJ⟩ := zb_e hJ
        refine zr_callVV C 105 (zk_lt zk_105 (by decide)) (zen_obj zk_105) (rfl : zcl[11]? = some (RX11, TX11, 56)) (M_X11_readLine G l hr19) zin_X11_readLine zm_18_5 rfl rfl (Nat.le_of_ble_eq_true rfl) ⟨Nat.le_of_ble_eq_true rfl, Nat.le_of_ble_eq_true rfl⟩ ⟨Nat.le_of_ble_eq_true rfl, Nat.le_of_ble_eq_true rfl⟩ dX11_readItem_39 ?_
        refine zr_goto C 66 dX11_readItem_42 (by decide) ?_
        refine zr_sub [0] [(0, .ref (G.1 + 105))] rfl ?_
        exact hj66 _ hJ
    refine zr_icmp_eq C 29 dX11_readItem_22 (by decide) (fun hc22 => ?_) (fun hc22 => ?_)
    · have hv1 := hv1.trans (if_pos hc22)
      refine zr_iconst C dX11_readItem_29 (v := (0 : Int32)) (by decide) ?_
      refine zr_sub [1, 0] [(0, .ref (G.1 + 105)), (1, .int x0_17)] rfl ?_
      rw [hv1] at hf21
      exact hf21
    · have hv1 := hv1.trans (if_neg hc22)
      refine zr_iconst C dX11_readItem_25 (v := (1 : Int32)) (by decide) ?_
      refine zr_goto C 30 dX11_readItem_26 (by decide) ?_
      refine zr_sub [1, 0] [(0, .ref (G.1 + 105)), (1, .int x0_17)] rfl ?_
      rw [hv1] at hf21
      exact hf21
  refine zr_icmp_ne C 15 dX11_readItem_5 (by decide) (fun hc23 => ?_) (fun hc23 => ?_)
  · have hJ := zif' hc23 hJ
    refine zr_bipush C dX11_readItem_15 (v := (-4 : Int32)) (by decide) ?_
    exact hj17 _ hJ
  · have hJ := zif hc23 hJ
    refine zr_aload_n C 0 dX11_readItem_8 rfl ?_
    obtain ⟨r24, hr24, hJ⟩ := zb_e hJ
    refine zr_callVI C 105 (zk_lt zk_105 (by decide)) (zen_obj zk_105) (rfl : zcl[11]? = some (RX11, TX11, 56)) (M_X11_nameNow G l hr24) zin_X11_nameNow zm_17_21 rfl rfl (Nat.le_of_ble_eq_true rfl) ⟨Nat.le_of_ble_eq_true rfl, Nat.le_of_ble_eq_true rfl⟩ ⟨Nat.le_of_ble_eq_true rfl, Nat.le_of_ble_eq_true rfl⟩ dX11_readItem_9 ?_
    refine zr_goto C 17 dX11_readItem_12 (by decide) ?_
    exact hj17 _ hJ
theorem dX11_program_0 : decode cX11_program 0 = .ok (.aload_n 0, 1) := by decide +kernel
theorem dX11_program_1 : decode cX11_program 1 = .ok (.iconst 0, 1) := by decide +kernel
theorem dX11_program_2 : decode cX11_program 2 = .ok (.putfield 128, 3) := by decide +kernel
theorem dX11_program_5 : decode cX11_program 5 = .ok (.aload_n 0, 1) := by decide +kernel
theorem dX11_program_6 : decode cX11_program 6 = .ok (.iconst 0, 1) := by decide +kernel
theorem dX11_program_7 : decode cX11_program 7 = .ok (.putfield 137, 3) := by decide +kernel
theorem dX11_program_10 : decode cX11_program 10 = .ok (.aload_n 0, 1) := by decide +kernel
theorem dX11_program_11 : decode cX11_program 11 = .ok (.iconst 0, 1) := by decide +kernel
theorem dX11_program_12 : decode cX11_program 12 = .ok (.putfield 175, 3) := by decide +kernel
theorem dX11_program_15 : decode cX11_program 15 = .ok (.aload_n 0, 1) := by decide +kernel
theorem dX11_program_16 : decode cX11_program 16 = .ok (.iconst 0, 1) := by decide +kernel
theorem dX11_program_17 : decode cX11_program 17 = .ok (.putfield 187, 3) := by decide +kernel
theorem dX11_program_20 : decode cX11_program 20 = .ok (.aload_n 0, 1) := by decide +kernel
theorem dX11_program_21 : decode cX11_program 21 = .ok (.iconst 0, 1) := by decide +kernel
theorem dX11_program_22 : decode cX11_program 22 = .ok (.putfield 184, 3) := by decide +kernel
theorem dX11_program_25 : decode cX11_program 25 = .ok (.aload_n 0, 1) := by decide +kernel
theorem dX11_program_26 : decode cX11_program 26 = .ok (.iconst 0, 1) := by decide +kernel
theorem dX11_program_27 : decode cX11_program 27 = .ok (.putfield 181, 3) := by decide +kernel
theorem dX11_program_30 : decode cX11_program 30 = .ok (.aload_n 0, 1) := by decide +kernel
theorem dX11_program_31 : decode cX11_program 31 = .ok (.invokevirtual 166, 3) := by decide +kernel
theorem dX11_program_34 : decode cX11_program 34 = .ok (.aload_n 0, 1) := by decide +kernel
theorem dX11_program_35 : decode cX11_program 35 = .ok (.getfield 128, 3) := by decide +kernel
theorem dX11_program_38 : decode cX11_program 38 = .ok (.ifCond .ne 17, 3) := by decide +kernel
theorem dX11_program_41 : decode cX11_program 41 = .ok (.aload_n 0, 1) := by decide +kernel
theorem dX11_program_42 : decode cX11_program 42 = .ok (.getfield 148, 3) := by decide +kernel
theorem dX11_program_45 : decode cX11_program 45 = .ok (.ifCond .eq 10, 3) := by decide +kernel
theorem dX11_program_48 : decode cX11_program 48 = .ok (.aload_n 0, 1) := by decide +kernel
theorem dX11_program_49 : decode cX11_program 49 = .ok (.invokevirtual 235, 3) := by decide +kernel
theorem dX11_program_52 : decode cX11_program 52 = .ok (.goto (-18), 3) := by decide +kernel
theorem dX11_program_55 : decode cX11_program 55 = .ok (.aload_n 0, 1) := by decide +kernel
theorem dX11_program_56 : decode cX11_program 56 = .ok (.aload_n 0, 1) := by decide +kernel
theorem dX11_program_57 : decode cX11_program 57 = .ok (.getfield 181, 3) := by decide +kernel
theorem dX11_program_60 : decode cX11_program 60 = .ok (.ifCond .ne 7, 3) := by decide +kernel
theorem dX11_program_63 : decode cX11_program 63 = .ok (.iconst 1, 1) := by decide +kernel
theorem dX11_program_64 : decode cX11_program 64 = .ok (.goto 4, 3) := by decide +kernel
theorem dX11_program_67 : decode cX11_program 67 = .ok (.iconst 0, 1) := by decide +kernel
theorem dX11_program_68 : decode cX11_program 68 = .ok (.iconst 2, 1) := by decide +kernel
theorem dX11_program_69 : decode cX11_program 69 = .ok (.invokevirtual 162, 3) := by decide +kernel
theorem dX11_program_72 : decode cX11_program 72 = .ok (.lconst 0, 1) := by decide +kernel
theorem dX11_program_73 : decode cX11_program 73 = .ok (.lstore_n 1, 1) := by decide +kernel
theorem dX11_program_74 : decode cX11_program 74 = .ok (.iconst 0, 1) := by decide +kernel
theorem dX11_program_75 : decode cX11_program 75 = .ok (.istore_n 3, 1) := by decide +kernel
theorem dX11_program_76 : decode cX11_program 76 = .ok (.iload_n 3, 1) := by decide +kernel
theorem dX11_program_77 : decode cX11_program 77 = .ok (.aload_n 0, 1) := by decide +kernel
theorem dX11_program_78 : decode cX11_program 78 = .ok (.getfield 175, 3) := by decide +kernel
theorem dX11_program_81 : decode cX11_program 81 = .ok (.if_icmp .ge 17, 3) := by decide +kernel
theorem dX11_program_84 : decode cX11_program 84 = .ok (.lload_n 1, 1) := by decide +kernel
theorem dX11_program_85 : decode cX11_program 85 = .ok (.aload_n 0, 1) := by decide +kernel
theorem dX11_program_86 : decode cX11_program 86 = .ok (.iload_n 3, 1) := by decide +kernel
theorem dX11_program_87 : decode cX11_program 87 = .ok (.invokevirtual 215, 3) := by decide +kernel
theorem dX11_program_90 : decode cX11_program 90 = .ok (.ladd, 1) := by decide +kernel
theorem dX11_program_91 : decode cX11_program 91 = .ok (.lstore_n 1, 1) := by decide +kernel
theorem dX11_program_92 : decode cX11_program 92 = .ok (.iinc 3 1, 3) := by decide +kernel
theorem dX11_program_95 : decode cX11_program 95 = .ok (.goto (-19), 3) := by decide +kernel
theorem dX11_program_98 : decode cX11_program 98 = .ok (.aload_n 0, 1) := by decide +kernel
theorem dX11_program_99 : decode cX11_program 99 = .ok (.getfield 128, 3) := by decide +kernel
theorem dX11_program_102 : decode cX11_program 102 = .ok (.ifCond .ne 25, 3) := by decide +kernel
theorem dX11_program_105 : decode cX11_program 105 = .ok (.lload_n 1, 1) := by decide +kernel
theorem dX11_program_106 : decode cX11_program 106 = .ok (.ldc2_w 238, 3) := by decide +kernel
theorem dX11_program_109 : decode cX11_program 109 = .ok (.lcmp, 1) := by decide +kernel
theorem dX11_program_110 : decode cX11_program 110 = .ok (.ifCond .le 17, 3) := by decide +kernel
theorem dX11_program_113 : decode cX11_program 113 = .ok (.aload_n 0, 1) := by decide +kernel
theorem dX11_program_114 : decode cX11_program 114 = .ok (.bipush 6, 2) := by decide +kernel
theorem dX11_program_116 : decode cX11_program 116 = .ok (.putfield 128, 3) := by decide +kernel
theorem dX11_program_119 : decode cX11_program 119 = .ok (.aload_n 0, 1) := by decide +kernel
theorem dX11_program_120 : decode cX11_program 120 = .ok (.aload_n 0, 1) := by decide +kernel
theorem dX11_program_121 : decode cX11_program 121 = .ok (.getfield 119, 3) := by decide +kernel
theorem dX11_program_124 : decode cX11_program 124 = .ok (.putfield 134, 3) := by decide +kernel
theorem dX11_program_127 : decode cX11_program 127 = .ok (.aload_n 0, 1) := by decide +kernel
theorem dX11_program_128 : decode cX11_program 128 = .ok (.iconst 0, 1) := by decide +kernel
theorem dX11_program_129 : decode cX11_program 129 = .ok (.putfield 119, 3) := by decide +kernel
theorem dX11_program_132 : decode cX11_program 132 = .ok (.aload_n 0, 1) := by decide +kernel
theorem dX11_program_133 : decode cX11_program 133 = .ok (.getfield 128, 3) := by decide +kernel
theorem dX11_program_136 : decode cX11_program 136 = .ok (.ifCond .le 11, 3) := by decide +kernel
theorem dX11_program_139 : decode cX11_program 139 = .ok (.bipush (-10), 2) := by decide +kernel
theorem dX11_program_141 : decode cX11_program 141 = .ok (.aload_n 0, 1) := by decide +kernel
theorem dX11_program_142 : decode cX11_program 142 = .ok (.getfield 134, 3) := by decide +kernel
theorem dX11_program_145 : decode cX11_program 145 = .ok (.isub, 1) := by decide +kernel
theorem dX11_program_146 : decode cX11_program 146 = .ok (.ireturn, 1) := by decide +kernel
theorem dX11_program_147 : decode cX11_program 147 = .ok (.aload_n 0, 1) := by decide +kernel
theorem dX11_program_148 : decode cX11_program 148 = .ok (.invokevirtual 240, 3) := by decide +kernel
theorem dX11_program_151 : decode cX11_program 151 = .ok (.aload_n 0, 1) := by decide +kernel
theorem dX11_program_152 : decode cX11_program 152 = .ok (.getfield 203, 3) := by decide +kernel
theorem dX11_program_155 : decode cX11_program 155 = .ok (.ireturn, 1) := by decide +kernel
set_option maxRecDepth 100000 in
set_option maxHeartbeats 4000000 in
theorem M_X11_program (G : zG) (l : Launch) {σ : zS} {r : Int32} {σ' : zS} (hJ : J_X11_program σ = some (r, σ')) : zMI G l yX11_program cX11_program 4 (some .int) (zrm 6 135) [.ref (G.1 + 105)] 137 (zen G σ) r 137 (zen G σ') := by
  unfold J_X11_program at hJ
  refine zentI (by decide +kernel) (Nat.le_of_ble_eq_true rfl) ?_
  intro p e s m args below meth c C hret
  refine zr_sub [0] [(0, .ref (G.1 + 105))] rfl ?_
  refine zr_aload_n C 0 dX11_program_0 rfl ?_
  refine zr_iconst C dX11_program_1 (v := (0 : Int32)) (by decide) ?_
  obtain ⟨σ1, hσ1, hJ⟩ := zlet_e hJ
  refine zp_11_30 C 105 zk_105 zm_16_13 hσ1 dX11_program_2 ?_
  refine zr_aload_n C 0 dX11_program_5 rfl ?_
  refine zr_iconst C dX11_program_6 (v := (0 : Int32)) (by decide) ?_
  obtain ⟨σ2, hσ2, hJ⟩ := zlet_e hJ
  refine zp_11_26 C 105 zk_105 zm_16_14 hσ2 dX11_program_7 ?_
  refine zr_aload_n C 0 dX11_program_10 rfl ?_
  refine zr_iconst C dX11_program_11 (v := (0 : Int32)) (by decide) ?_
  obtain ⟨σ3, hσ3, hJ⟩ := zlet_e hJ
  refine zp_11_11 C 105 zk_105 zm_16_15 hσ3 dX11_program_12 ?_
  refine zr_aload_n C 0 dX11_program_15 rfl ?_
  refine zr_iconst C dX11_program_16 (v := (0 : Int32)) (by decide) ?_
  obtain ⟨σ4, hσ4, hJ⟩ := zlet_e hJ
  refine zp_11_15 C 105 zk_105 zm_16_16 hσ4 dX11_program_17 ?_
  refine zr_aload_n C 0 dX11_program_20 rfl ?_
  refine zr_iconst C dX11_program_21 (v := (0 : Int32)) (by decide) ?_
  obtain ⟨σ5, hσ5, hJ⟩ := zlet_e hJ
  refine zp_11_23 C 105 zk_105 zm_16_17 hσ5 dX11_program_22 ?_
  refine zr_aload_n C 0 dX11_program_25 rfl ?_
  refine zr_iconst C dX11_program_26 (v := (0 : Int32)) (by decide) ?_
  obtain ⟨σ6, hσ6, hJ⟩ := zlet_e hJ
  refine zp_11_19 C 105 zk_105 zm_16_18 hσ6 dX11_program_27 ?_
  refine zr_aload_n C 0 dX11_program_30 rfl ?_
  obtain ⟨σ8, hr7, hJ⟩ := zb_e hJ
  refine zr_callVV C 105 (zk_lt zk_105 (by decide)) (zen_obj zk_105) (rfl : zcl[11]? = some (RX11, TX11, 56)) (M_X11_next G l hr7) zin_X11_next zm_16_23 rfl rfl (Nat.le_of_ble_eq_true rfl) ⟨Nat.le_of_ble_eq_true rfl, Nat.le_of_ble_eq_true rfl⟩ ⟨Nat.le_of_ble_eq_true rfl, Nat.le_of_ble_eq_true rfl⟩ dX11_program_31 ?_
  obtain ⟨k55, hk55, hJ⟩ := zlet_e hJ
  have hj55 : ∀ (σ_55 : zS), k55 σ_55 = some (r, σ') → zU G 4 p l e (zrm 6 135) s m args below meth c (MQ below (va_Qi (fun x (_ : Unit) => x = r) (fun _ t => zok G 137 (zen G σ') t) (zA G)) args s 0 0 (zA G)) σ_55 55 [(0, .ref (G.1 + 105))] [] := by
    intro σ_55 hJ
    rw [hk55] at hJ
    unfold D_X11_program_55 at hJ
    refine zr_aload_n C 0 dX11_program_55 rfl ?_
    refine zr_aload_n C 0 dX11_program_56 rfl ?_
    refine zg_11_19 C 105 zk_105 zm_16_18 dX11_program_57 ?_
    obtain ⟨v9, hv9, hJ⟩ := zlet_e hJ
    have hf24 : zU G 4 p l e (zrm 6 135) s m args below meth c (MQ below (va_Qi (fun x (_ : Unit) => x = r) (fun _ t => zok G 137 (zen G σ') t) (zA G)) args s 0 0 (zA G)) σ_55 68 [(0, .ref (G.1 + 105))] [.int v9, .ref (G.1 + 105)] := by
      refine zr_iconst C dX11_program_68 (v := (2 : Int32)) (by decide) ?_
      obtain ⟨σ11, hr10, hJ⟩ := zb_e hJ
      refine zr_callVV C 105 (zk_lt zk_105 (by decide)) (zen_obj zk_105) (rfl : zcl[11]? = some (RX11, TX11, 56)) (M_X11_wants G l hr10) zin_X11_wants zm_17_13 rfl rfl (Nat.le_of_ble_eq_true rfl) ⟨Nat.le_of_ble_eq_true rfl, Nat.le_of_ble_eq_true rfl⟩ ⟨Nat.le_of_ble_eq_true rfl, Nat.le_of_ble_eq_true rfl⟩ dX11_program_69 ?_
      refine zr_lconst C dX11_program_72 (v := (0 : Int64)) (by decide) ?_
      refine zr_lstore_n C [(1, .long (0 : Int64)), (0, .ref (G.1 + 105))] dX11_program_73 (by decide) rfl ?_
      refine zr_iconst C dX11_program_74 (v := (0 : Int32)) (by decide) ?_
      refine zr_istore_n C [(3, .int (0 : Int32)), (1, .long (0 : Int64)), (0, .ref (G.1 + 105))] dX11_program_75 (by decide) rfl ?_
      obtain ⟨k98, hk98, hJ⟩ := zlet_e hJ
      have hj98 : ∀ (w1_98 : Int64), k98 w1_98 = some (r, σ') → zU G 4 p l e (zrm 6 135) s m args below meth c (MQ below (va_Qi (fun x (_ : Unit) => x = r) (fun _ t => zok G 137 (zen G σ') t) (zA G)) args s 0 0 (zA G)) σ11 98 [(0, .ref (G.1 + 105)), (1, .long w1_98)] [] := by
        intro w1_98 hJ
        rw [hk98] at hJ
        unfold D_X11_program_98 at hJ
        refine zr_aload_n C 0 dX11_program_98 rfl ?_
        refine zg_11_30 C 105 zk_105 zm_16_13 dX11_program_99 ?_
        obtain ⟨k127, hk127, hJ⟩ := zlet_e hJ
        have hj127 : ∀ (σ_127 : zS), k127 σ_127 = some (r, σ') → zU G 4 p l e (zrm 6 135) s m args below meth c (MQ below (va_Qi (fun x (_ : Unit) => x = r) (fun _ t => zok G 137 (zen G σ') t) (zA G)) args s 0 0 (zA G)) σ_127 127 [(0, .ref (G.1 + 105))] [] := by
          intro σ_127 hJ
          rw [hk127] at hJ
          unfold D_X11_program_127 at hJ
          refine zr_aload_n C 0 dX11_program_127 rfl ?_
          refine zr_iconst C dX11_program_128 (v := (0 : Int32)) (by decide) ?_
          obtain ⟨σ12, hσ12, hJ⟩ := zlet_e hJ
          refine zp_11_25 C 105 zk_105 zm_9_12 hσ12 dX11_program_129 ?_
          refine zr_aload_n C 0 dX11_program_132 rfl ?_
          refine zg_11_30 C 105 zk_105 zm_16_13 dX11_program_133 ?_
          refine zr_if_le C 147 dX11_program_136 (by decide) (fun hc13 => ?_) (fun hc13 => ?_)
          · have hJ := zif hc13 hJ
            refine zr_aload_n C 0 dX11_program_147 rfl ?_
            obtain ⟨σ15, hr14, hJ⟩ := zb_e hJ
            refine zr_callVV C 105 (zk_lt zk_105 (by decide)) (zen_obj zk_105) (rfl : zcl[11]? = some (RX11, TX11, 56)) (M_X11_keepProgram G l hr14) zin_X11_keepProgram zm_19_6 rfl rfl (Nat.le_of_ble_eq_true rfl) ⟨Nat.le_of_ble_eq_true rfl, Nat.le_of_ble_eq_true rfl⟩ ⟨Nat.le_of_ble_eq_true rfl, Nat.le_of_ble_eq_true rfl⟩ dX11_program_148 ?_
            refine zr_aload_n C 0 dX11_program_151 rfl ?_
            refine zg_11_0 C 105 zk_105 zm_16_22 dX11_program_152 ?_
            exact zr_iret C hret (Prod.mk.inj (zs_e hJ)).1 rfl (congrArg (zen G) (Prod.mk.inj (zs_e hJ)).2) dX11_program_155
          · have hJ := zif' hc13 hJ
            refine zr_bipush C dX11_program_139 (v := (-10 : Int32)) (by decide) ?_
            refine zr_aload_n C 0 dX11_program_141 rfl ?_
            refine zg_11_31 C 105 zk_105 zm_16_21 dX11_program_142 ?_
            refine zr_isub C dX11_program_145 ?_
            exact zr_iret C hret (Prod.mk.inj (zs_e hJ)).1 rfl (congrArg (zen G) (Prod.mk.inj (zs_e hJ)).2) dX11_program_146
        refine zr_if_ne C 127 dX11_program_102 (by decide) (fun hc16 => ?_) (fun hc16 => ?_)
        · have hJ := zif' hc16 hJ
          refine zr_sub [0] [(0, .ref (G.1 + 105))] rfl ?_
          exact hj127 _ hJ
        · have hJ := zif hc16 hJ
          refine zr_lload_n C 1 dX11_program_105 rfl ?_
          refine zr_ldc2 C dX11_program_106 zm_16_20 ?_
          refine zr_lcmp C dX11_program_109 ?_
          refine zr_if_le C 127 dX11_program_110 (by decide) (fun hc17 => ?_) (fun hc17 => ?_)
          · have hJ := zif hc17 hJ
            refine zr_sub [0] [(0, .ref (G.1 + 105))] rfl ?_
            exact hj127 _ hJ
          · have hJ := zif' hc17 hJ
            refine zr_aload_n C 0 dX11_program_113 rfl ?_
            refine zr_bipush C dX11_program_114 (v := (6 : Int32)) (by decide) ?_
            obtain ⟨σ18, hσ18, hJ⟩ := zlet_e hJ
            refine zp_11_30 C 105 zk_105 zm_16_13 hσ18 dX11_program_116 ?_
            refine zr_aload_n C 0 dX11_program_119 rfl ?_
            refine zr_aload_n C 0 dX11_program_120 rfl ?_
            refine zg_11_25 C 105 zk_105 zm_9_12 dX11_program_121 ?_
            obtain ⟨σ19, hσ19, hJ⟩ := zlet_e hJ
            refine zp_11_31 C 105 zk_105 zm_16_21 hσ19 dX11_program_124 ?_
            refine zr_sub [0] [(0, .ref (G.1 + 105))] rfl ?_
            exact hj127 _ hJ
      have hl76 : ∀ (n : Nat) (w1_76 : Int64) (w3_76 : Int32), L_X11_program_76 σ11 k98 n w1_76 w3_76 = some (r, σ') → zU G 4 p l e (zrm 6 135) s m args below meth c (MQ below (va_Qi (fun x (_ : Unit) => x = r) (fun _ t => zok G 137 (zen G σ') t) (zA G)) args s 0 0 (zA G)) σ11 76 [(0, .ref (G.1 + 105)), (1, .long w1_76), (3, .int w3_76)] [] := by
        intro n
        induction n with
        | zero =>
          intro w1_76 w3_76 hJ
          rw [L_X11_program_76] at hJ
          cases hJ
        | succ n ih =>
          intro w1_76 w3_76 hJ
          rw [L_X11_program_76] at hJ
          obtain ⟨r_76, hr_76, hJ⟩ := zlet_e hJ
          have ih76 : ∀ (w1_76 : Int64) (w3_76 : Int32), r_76 w1_76 w3_76 = some (r, σ') → zU G 4 p l e (zrm 6 135) s m args below meth c (MQ below (va_Qi (fun x (_ : Unit) => x = r) (fun _ t => zok G 137 (zen G σ') t) (zA G)) args s 0 0 (zA G)) σ11 76 [(0, .ref (G.1 + 105)), (1, .long w1_76), (3, .int w3_76)] [] := by
            rw [hr_76]
            exact ih
          refine zr_iload_n C 2 dX11_program_76 rfl ?_
          refine zr_aload_n C 0 dX11_program_77 rfl ?_
          refine zg_11_11 C 105 zk_105 zm_16_15 dX11_program_78 ?_
          refine zr_icmp_ge C 98 dX11_program_81 (by decide) (fun hc20 => ?_) (fun hc20 => ?_)
          · have hJ := zif hc20 hJ
            refine zr_sub [0, 1] [(0, .ref (G.1 + 105)), (1, .long w1_76)] rfl ?_
            exact hj98 _ hJ
          · have hJ := zif' hc20 hJ
            refine zr_lload_n C 1 dX11_program_84 rfl ?_
            refine zr_aload_n C 0 dX11_program_85 rfl ?_
            refine zr_iload_n C 2 dX11_program_86 rfl ?_
            obtain ⟨r21, hr21, hJ⟩ := zb_e hJ
            refine zr_callVL C 105 (zk_lt zk_105 (by decide)) (zen_obj zk_105) (rfl : zcl[11]? = some (RX11, TX11, 56)) (M_X11_dTimes G l hr21) zin_X11_dTimes zm_19_2 rfl rfl (Nat.le_of_ble_eq_true rfl) ⟨Nat.le_of_ble_eq_true rfl, Nat.le_of_ble_eq_true rfl⟩ ⟨Nat.le_of_ble_eq_true rfl, Nat.le_of_ble_eq_true rfl⟩ dX11_program_87 ?_
            refine zr_ladd C dX11_program_90 ?_
            obtain ⟨v22, hv22, hJ⟩ := zlet_e hJ
            refine zr_topl hv22 ?_
            refine zr_lstore_n C [(1, .long v22), (0, .ref (G.1 + 105)), (3, .int w3_76)] dX11_program_91 (by decide) rfl ?_
            obtain ⟨v23, hv23, hJ⟩ := zlet_e hJ
            refine zr_iinc C v23 2 [(3, .int v23), (1, .long v22), (0, .ref (G.1 + 105))] dX11_program_92 rfl (hv23.trans (zinc (by decide))) (by decide) rfl ?_
            refine zr_goto C 76 dX11_program_95 (by decide) ?_
            refine zr_sub [2, 1, 0] [(0, .ref (G.1 + 105)), (1, .long v22), (3, .int v23)] rfl ?_
            exact ih76 _ _ hJ
      refine zr_sub [2, 1, 0] [(0, .ref (G.1 + 105)), (1, .long (0 : Int64)), (3, .int (0 : Int32))] rfl ?_
      exact hl76 _ _ _ hJ
    refine zr_if_ne C 67 dX11_program_60 (by decide) (fun hc25 => ?_) (fun hc25 => ?_)
    · have hv9 := hv9.trans (if_neg hc25)
      refine zr_iconst C dX11_program_67 (v := (0 : Int32)) (by decide) ?_
      rw [hv9] at hf24
      exact hf24
    · have hv9 := hv9.trans (if_pos hc25)
      refine zr_iconst C dX11_program_63 (v := (1 : Int32)) (by decide) ?_
      refine zr_goto C 68 dX11_program_64 (by decide) ?_
      rw [hv9] at hf24
      exact hf24
  have hl34 : ∀ (n : Nat) (σ_34 : zS), L_X11_program_34 k55 n σ_34 = some (r, σ') → zU G 4 p l e (zrm 6 135) s m args below meth c (MQ below (va_Qi (fun x (_ : Unit) => x = r) (fun _ t => zok G 137 (zen G σ') t) (zA G)) args s 0 0 (zA G)) σ_34 34 [(0, .ref (G.1 + 105))] [] := by
    intro n
    induction n with
    | zero =>
      intro σ_34 hJ
      rw [L_X11_program_34] at hJ
      cases hJ
    | succ n ih =>
      intro σ_34 hJ
      rw [L_X11_program_34] at hJ
      obtain ⟨r_34, hr_34, hJ⟩ := zlet_e hJ
      have ih34 : ∀ (σ_34 : zS), r_34 σ_34 = some (r, σ') → zU G 4 p l e (zrm 6 135) s m args below meth c (MQ below (va_Qi (fun x (_ : Unit) => x = r) (fun _ t => zok G 137 (zen G σ') t) (zA G)) args s 0 0 (zA G)) σ_34 34 [(0, .ref (G.1 + 105))] [] := by
        rw [hr_34]
        exact ih
      refine zr_aload_n C 0 dX11_program_34 rfl ?_
      refine zg_11_30 C 105 zk_105 zm_16_13 dX11_program_35 ?_
      refine zr_if_ne C 55 dX11_program_38 (by decide) (fun hc26 => ?_) (fun hc26 => ?_)
      · have hJ := zif' hc26 hJ
        exact hj55 _ hJ
      · have hJ := zif hc26 hJ
        refine zr_aload_n C 0 dX11_program_41 rfl ?_
        refine zg_11_28 C 105 zk_105 zm_16_19 dX11_program_42 ?_
        refine zr_if_eq C 55 dX11_program_45 (by decide) (fun hc27 => ?_) (fun hc27 => ?_)
        · have hJ := zif hc27 hJ
          exact hj55 _ hJ
        · have hJ := zif' hc27 hJ
          refine zr_aload_n C 0 dX11_program_48 rfl ?_
          obtain ⟨σ29, hr28, hJ⟩ := zb_e hJ
          refine zr_callVV C 105 (zk_lt zk_105 (by decide)) (zen_obj zk_105) (rfl : zcl[11]? = some (RX11, TX11, 56)) (M_X11_readItem G l hr28) zin_X11_readItem zm_17_17 rfl rfl (Nat.le_of_ble_eq_true rfl) ⟨Nat.le_of_ble_eq_true rfl, Nat.le_of_ble_eq_true rfl⟩ ⟨Nat.le_of_ble_eq_true rfl, Nat.le_of_ble_eq_true rfl⟩ dX11_program_49 ?_
          refine zr_goto C 34 dX11_program_52 (by decide) ?_
          exact ih34 _ hJ
  exact hl34 _ _ hJ
theorem dX11_ratio_0 : decode cX11_ratio 0 = .ok (.iload_n 1, 1) := by decide +kernel
theorem dX11_ratio_1 : decode cX11_ratio 1 = .ok (.bipush (-4), 2) := by decide +kernel
theorem dX11_ratio_3 : decode cX11_ratio 3 = .ok (.if_icmp .eq 11, 3) := by decide +kernel
theorem dX11_ratio_6 : decode cX11_ratio 6 = .ok (.aload_n 0, 1) := by decide +kernel
theorem dX11_ratio_7 : decode cX11_ratio 7 = .ok (.iload_n 1, 1) := by decide +kernel
theorem dX11_ratio_8 : decode cX11_ratio 8 = .ok (.invokevirtual 243, 3) := by decide +kernel
theorem dX11_ratio_11 : decode cX11_ratio 11 = .ok (.ifCond .eq 28, 3) := by decide +kernel
theorem dX11_ratio_14 : decode cX11_ratio 14 = .ok (.iload_n 2, 1) := by decide +kernel
theorem dX11_ratio_15 : decode cX11_ratio 15 = .ok (.invokestatic 260, 3) := by decide +kernel
theorem dX11_ratio_18 : decode cX11_ratio 18 = .ok (.ifCond .eq 21, 3) := by decide +kernel
theorem dX11_ratio_21 : decode cX11_ratio 21 = .ok (.iload_n 3, 1) := by decide +kernel
theorem dX11_ratio_22 : decode cX11_ratio 22 = .ok (.invokestatic 260, 3) := by decide +kernel
theorem dX11_ratio_25 : decode cX11_ratio 25 = .ok (.ifCond .eq 14, 3) := by decide +kernel
theorem dX11_ratio_28 : decode cX11_ratio 28 = .ok (.iload 4, 2) := by decide +kernel
theorem dX11_ratio_30 : decode cX11_ratio 30 = .ok (.i2l, 1) := by decide +kernel
theorem dX11_ratio_31 : decode cX11_ratio 31 = .ok (.lconst 0, 1) := by decide +kernel
theorem dX11_ratio_32 : decode cX11_ratio 32 = .ok (.lconst 1, 1) := by decide +kernel
theorem dX11_ratio_33 : decode cX11_ratio 33 = .ok (.invokestatic 124, 3) := by decide +kernel
theorem dX11_ratio_36 : decode cX11_ratio 36 = .ok (.ifCond .ne 5, 3) := by decide +kernel
theorem dX11_ratio_39 : decode cX11_ratio 39 = .ok (.iconst (-1), 1) := by decide +kernel
theorem dX11_ratio_40 : decode cX11_ratio 40 = .ok (.ireturn, 1) := by decide +kernel
theorem dX11_ratio_41 : decode cX11_ratio 41 = .ok (.iload_n 1, 1) := by decide +kernel
theorem dX11_ratio_42 : decode cX11_ratio 42 = .ok (.bipush (-4), 2) := by decide +kernel
theorem dX11_ratio_44 : decode cX11_ratio 44 = .ok (.if_icmp .ne 11, 3) := by decide +kernel
theorem dX11_ratio_47 : decode cX11_ratio 47 = .ok (.aload_n 0, 1) := by decide +kernel
theorem dX11_ratio_48 : decode cX11_ratio 48 = .ok (.iload_n 2, 1) := by decide +kernel
theorem dX11_ratio_49 : decode cX11_ratio 49 = .ok (.invokevirtual 257, 3) := by decide +kernel
theorem dX11_ratio_52 : decode cX11_ratio 52 = .ok (.goto 9, 3) := by decide +kernel
theorem dX11_ratio_55 : decode cX11_ratio 55 = .ok (.aload_n 0, 1) := by decide +kernel
theorem dX11_ratio_56 : decode cX11_ratio 56 = .ok (.iload_n 1, 1) := by decide +kernel
theorem dX11_ratio_57 : decode cX11_ratio 57 = .ok (.iload_n 2, 1) := by decide +kernel
theorem dX11_ratio_58 : decode cX11_ratio 58 = .ok (.invokevirtual 251, 3) := by decide +kernel
theorem dX11_ratio_61 : decode cX11_ratio 61 = .ok (.istore 5, 2) := by decide +kernel
theorem dX11_ratio_63 : decode cX11_ratio 63 = .ok (.iload_n 1, 1) := by decide +kernel
theorem dX11_ratio_64 : decode cX11_ratio 64 = .ok (.bipush (-4), 2) := by decide +kernel
theorem dX11_ratio_66 : decode cX11_ratio 66 = .ok (.if_icmp .ne 11, 3) := by decide +kernel
theorem dX11_ratio_69 : decode cX11_ratio 69 = .ok (.aload_n 0, 1) := by decide +kernel
theorem dX11_ratio_70 : decode cX11_ratio 70 = .ok (.iload_n 3, 1) := by decide +kernel
theorem dX11_ratio_71 : decode cX11_ratio 71 = .ok (.invokevirtual 257, 3) := by decide +kernel
theorem dX11_ratio_74 : decode cX11_ratio 74 = .ok (.goto 9, 3) := by decide +kernel
theorem dX11_ratio_77 : decode cX11_ratio 77 = .ok (.aload_n 0, 1) := by decide +kernel
theorem dX11_ratio_78 : decode cX11_ratio 78 = .ok (.iload_n 1, 1) := by decide +kernel
theorem dX11_ratio_79 : decode cX11_ratio 79 = .ok (.iload_n 3, 1) := by decide +kernel
theorem dX11_ratio_80 : decode cX11_ratio 80 = .ok (.invokevirtual 251, 3) := by decide +kernel
theorem dX11_ratio_83 : decode cX11_ratio 83 = .ok (.istore 6, 2) := by decide +kernel
theorem dX11_ratio_85 : decode cX11_ratio 85 = .ok (.iload 6, 2) := by decide +kernel
theorem dX11_ratio_87 : decode cX11_ratio 87 = .ok (.ifCond .ne 8, 3) := by decide +kernel
theorem dX11_ratio_90 : decode cX11_ratio 90 = .ok (.bipush (-4), 2) := by decide +kernel
theorem dX11_ratio_92 : decode cX11_ratio 92 = .ok (.goto 15, 3) := by decide +kernel
theorem dX11_ratio_95 : decode cX11_ratio 95 = .ok (.iload 5, 2) := by decide +kernel
theorem dX11_ratio_97 : decode cX11_ratio 97 = .ok (.i2l, 1) := by decide +kernel
theorem dX11_ratio_98 : decode cX11_ratio 98 = .ok (.iload 6, 2) := by decide +kernel
theorem dX11_ratio_100 : decode cX11_ratio 100 = .ok (.i2l, 1) := by decide +kernel
theorem dX11_ratio_101 : decode cX11_ratio 101 = .ok (.iload 4, 2) := by decide +kernel
theorem dX11_ratio_103 : decode cX11_ratio 103 = .ok (.invokestatic 263, 3) := by decide +kernel
theorem dX11_ratio_106 : decode cX11_ratio 106 = .ok (.l2i, 1) := by decide +kernel
theorem dX11_ratio_107 : decode cX11_ratio 107 = .ok (.ireturn, 1) := by decide +kernel
set_option maxRecDepth 100000 in
set_option maxHeartbeats 4000000 in
theorem M_X11_ratio (G : zG) (l : Launch) {a1 : Int32} {a2 : Int32} {a3 : Int32} {a4 : Int32} {σ : zS} {r : Int32} (hJ : J_X11_ratio a1 a2 a3 a4 σ = some r) : zMI G l yX11_ratio cX11_ratio 7 (some .int) (zrm 3 76) [.ref (G.1 + 105), .int a1, .int a2, .int a3, .int a4] 137 (zen G σ) r 137 (zen G σ) := by
  unfold J_X11_ratio at hJ
  refine zentI (by decide +kernel) (Nat.le_of_ble_eq_true rfl) ?_
  intro p e s m args below meth c C hret
  refine zr_sub [0, 1, 2, 3, 4] [(0, .ref (G.1 + 105)), (1, .int a1), (2, .int a2), (3, .int a3), (4, .int a4)] rfl ?_
  refine zr_iload_n C 1 dX11_ratio_0 rfl ?_
  refine zr_bipush C dX11_ratio_1 (v := (-4 : Int32)) (by decide) ?_
  obtain ⟨k14, hk14, hJ⟩ := zlet_e hJ
  have hj14 : k14 = some r → zU G 7 p l e (zrm 3 76) s m args below meth c (MQ below (va_Qi (fun x (_ : Unit) => x = r) (fun _ t => zok G 137 (zen G σ) t) (zA G)) args s 0 0 (zA G)) σ 14 [(0, .ref (G.1 + 105)), (1, .int a1), (2, .int a2), (3, .int a3), (4, .int a4)] [] := by
    intro hJ
    rw [hk14] at hJ
    unfold D_X11_ratio_14 at hJ
    refine zr_iload_n C 2 dX11_ratio_14 rfl ?_
    obtain ⟨r1, hr1, hJ⟩ := zb_e hJ
    refine zr_callSI C (M_X11_isEvent G l hr1) zin_X11_isEvent zm_24_0 rfl rfl (Nat.le_of_ble_eq_true rfl) ⟨Nat.le_of_ble_eq_true rfl, Nat.le_of_ble_eq_true rfl⟩ ⟨Nat.le_of_ble_eq_true rfl, Nat.le_of_ble_eq_true rfl⟩ dX11_ratio_15 ?_
    refine zr_if_eq C 39 dX11_ratio_18 (by decide) (fun hc2 => ?_) (fun hc2 => ?_)
    · have hJ := zif hc2 hJ
      refine zr_iconst C dX11_ratio_39 (v := (-1 : Int32)) (by decide) ?_
      exact zr_iret C hret (zs_e hJ) rfl rfl dX11_ratio_40
    · have hJ := zif' hc2 hJ
      refine zr_iload_n C 3 dX11_ratio_21 rfl ?_
      obtain ⟨r3, hr3, hJ⟩ := zb_e hJ
      refine zr_callSI C (M_X11_isEvent G l hr3) zin_X11_isEvent zm_24_0 rfl rfl (Nat.le_of_ble_eq_true rfl) ⟨Nat.le_of_ble_eq_true rfl, Nat.le_of_ble_eq_true rfl⟩ ⟨Nat.le_of_ble_eq_true rfl, Nat.le_of_ble_eq_true rfl⟩ dX11_ratio_22 ?_
      refine zr_if_eq C 39 dX11_ratio_25 (by decide) (fun hc4 => ?_) (fun hc4 => ?_)
      · have hJ := zif hc4 hJ
        refine zr_iconst C dX11_ratio_39 (v := (-1 : Int32)) (by decide) ?_
        exact zr_iret C hret (zs_e hJ) rfl rfl dX11_ratio_40
      · have hJ := zif' hc4 hJ
        refine zr_iload C 4 dX11_ratio_28 rfl ?_
        refine zr_i2l C dX11_ratio_30 ?_
        refine zr_lconst C dX11_ratio_31 (v := (0 : Int64)) (by decide) ?_
        refine zr_lconst C dX11_ratio_32 (v := (1 : Int64)) (by decide) ?_
        obtain ⟨r5, hr5, hJ⟩ := zb_e hJ
        refine zr_callSI C (M_X11_in G l hr5) zin_X11_in zm_9_22 rfl rfl (Nat.le_of_ble_eq_true rfl) ⟨Nat.le_of_ble_eq_true rfl, Nat.le_of_ble_eq_true rfl⟩ ⟨Nat.le_of_ble_eq_true rfl, Nat.le_of_ble_eq_true rfl⟩ dX11_ratio_33 ?_
        refine zr_if_ne C 41 dX11_ratio_36 (by decide) (fun hc6 => ?_) (fun hc6 => ?_)
        · have hJ := zif' hc6 hJ
          refine zr_iload_n C 1 dX11_ratio_41 rfl ?_
          refine zr_bipush C dX11_ratio_42 (v := (-4 : Int32)) (by decide) ?_
          obtain ⟨k61, hk61, hJ⟩ := zlet_e hJ
          have hj61 : ∀ (x0_61 : Int32), k61 x0_61 = some r → zU G 7 p l e (zrm 3 76) s m args below meth c (MQ below (va_Qi (fun x (_ : Unit) => x = r) (fun _ t => zok G 137 (zen G σ) t) (zA G)) args s 0 0 (zA G)) σ 61 [(0, .ref (G.1 + 105)), (1, .int a1), (3, .int a3), (4, .int a4)] [.int x0_61] := by
            intro x0_61 hJ
            rw [hk61] at hJ
            unfold D_X11_ratio_61 at hJ
            refine zr_istore C [(5, .int x0_61), (0, .ref (G.1 + 105)), (1, .int a1), (3, .int a3), (4, .int a4)] dX11_ratio_61 (by decide) rfl ?_
            refine zr_iload_n C 2 dX11_ratio_63 rfl ?_
            refine zr_bipush C dX11_ratio_64 (v := (-4 : Int32)) (by decide) ?_
            obtain ⟨k83, hk83, hJ⟩ := zlet_e hJ
            have hj83 : ∀ (x0_83 : Int32), k83 x0_83 = some r → zU G 7 p l e (zrm 3 76) s m args below meth c (MQ below (va_Qi (fun x (_ : Unit) => x = r) (fun _ t => zok G 137 (zen G σ) t) (zA G)) args s 0 0 (zA G)) σ 83 [(4, .int a4), (5, .int x0_61)] [.int x0_83] := by
              intro x0_83 hJ
              rw [hk83] at hJ
              unfold D_X11_ratio_83 at hJ
              refine zr_istore C [(6, .int x0_83), (4, .int a4), (5, .int x0_61)] dX11_ratio_83 (by decide) rfl ?_
              refine zr_iload C 0 dX11_ratio_85 rfl ?_
              refine zr_if_ne C 95 dX11_ratio_87 (by decide) (fun hc7 => ?_) (fun hc7 => ?_)
              · have hJ := zif' hc7 hJ
                refine zr_iload C 2 dX11_ratio_95 rfl ?_
                refine zr_i2l C dX11_ratio_97 ?_
                refine zr_iload C 0 dX11_ratio_98 rfl ?_
                refine zr_i2l C dX11_ratio_100 ?_
                refine zr_iload C 1 dX11_ratio_101 rfl ?_
                obtain ⟨r8, hr8, hJ⟩ := zb_e hJ
                refine zr_callSL C (M_X11_told G l hr8) zin_X11_told zm_24_3 rfl rfl (Nat.le_of_ble_eq_true rfl) ⟨Nat.le_of_ble_eq_true rfl, Nat.le_of_ble_eq_true rfl⟩ ⟨Nat.le_of_ble_eq_true rfl, Nat.le_of_ble_eq_true rfl⟩ dX11_ratio_103 ?_
                refine zr_l2i C dX11_ratio_106 ?_
                exact zr_iret C hret (zs_e hJ) rfl rfl dX11_ratio_107
              · have hJ := zif hc7 hJ
                refine zr_bipush C dX11_ratio_90 (v := (-4 : Int32)) (by decide) ?_
                refine zr_goto C 107 dX11_ratio_92 (by decide) ?_
                exact zr_iret C hret (zs_e hJ) rfl rfl dX11_ratio_107
            refine zr_icmp_ne C 77 dX11_ratio_66 (by decide) (fun hc9 => ?_) (fun hc9 => ?_)
            · have hJ := zif' hc9 hJ
              refine zr_aload_n C 1 dX11_ratio_77 rfl ?_
              refine zr_iload_n C 2 dX11_ratio_78 rfl ?_
              refine zr_iload_n C 3 dX11_ratio_79 rfl ?_
              obtain ⟨r10, hr10, hJ⟩ := zb_e hJ
              refine zr_callVI C 105 (zk_lt zk_105 (by decide)) (zen_obj zk_105) (rfl : zcl[11]? = some (RX11, TX11, 56)) (M_X11_made G l hr10) zin_X11_made zm_21_9 rfl rfl (Nat.le_of_ble_eq_true rfl) ⟨Nat.le_of_ble_eq_true rfl, Nat.le_of_ble_eq_true rfl⟩ ⟨Nat.le_of_ble_eq_true rfl, Nat.le_of_ble_eq_true rfl⟩ dX11_ratio_80 ?_
              refine zr_sub [4, 0] [(4, .int a4), (5, .int x0_61)] rfl ?_
              exact hj83 _ hJ
            · have hJ := zif hc9 hJ
              refine zr_aload_n C 1 dX11_ratio_69 rfl ?_
              refine zr_iload_n C 3 dX11_ratio_70 rfl ?_
              obtain ⟨r11, hr11, hJ⟩ := zb_e hJ
              refine zr_callVI C 105 (zk_lt zk_105 (by decide)) (zen_obj zk_105) (rfl : zcl[11]? = some (RX11, TX11, 56)) (M_X11_total G l hr11) zin_X11_total zm_22_23 rfl rfl (Nat.le_of_ble_eq_true rfl) ⟨Nat.le_of_ble_eq_true rfl, Nat.le_of_ble_eq_true rfl⟩ ⟨Nat.le_of_ble_eq_true rfl, Nat.le_of_ble_eq_true rfl⟩ dX11_ratio_71 ?_
              refine zr_goto C 83 dX11_ratio_74 (by decide) ?_
              refine zr_sub [4, 0] [(4, .int a4), (5, .int x0_61)] rfl ?_
              exact hj83 _ hJ
          refine zr_icmp_ne C 55 dX11_ratio_44 (by decide) (fun hc12 => ?_) (fun hc12 => ?_)
          · have hJ := zif' hc12 hJ
            refine zr_aload_n C 0 dX11_ratio_55 rfl ?_
            refine zr_iload_n C 1 dX11_ratio_56 rfl ?_
            refine zr_iload_n C 2 dX11_ratio_57 rfl ?_
            obtain ⟨r13, hr13, hJ⟩ := zb_e hJ
            refine zr_callVI C 105 (zk_lt zk_105 (by decide)) (zen_obj zk_105) (rfl : zcl[11]? = some (RX11, TX11, 56)) (M_X11_made G l hr13) zin_X11_made zm_21_9 rfl rfl (Nat.le_of_ble_eq_true rfl) ⟨Nat.le_of_ble_eq_true rfl, Nat.le_of_ble_eq_true rfl⟩ ⟨Nat.le_of_ble_eq_true rfl, Nat.le_of_ble_eq_true rfl⟩ dX11_ratio_58 ?_
            refine zr_sub [0, 1, 3, 4] [(0, .ref (G.1 + 105)), (1, .int a1), (3, .int a3), (4, .int a4)] rfl ?_
            exact hj61 _ hJ
          · have hJ := zif hc12 hJ
            refine zr_aload_n C 0 dX11_ratio_47 rfl ?_
            refine zr_iload_n C 2 dX11_ratio_48 rfl ?_
            obtain ⟨r14, hr14, hJ⟩ := zb_e hJ
            refine zr_callVI C 105 (zk_lt zk_105 (by decide)) (zen_obj zk_105) (rfl : zcl[11]? = some (RX11, TX11, 56)) (M_X11_total G l hr14) zin_X11_total zm_22_23 rfl rfl (Nat.le_of_ble_eq_true rfl) ⟨Nat.le_of_ble_eq_true rfl, Nat.le_of_ble_eq_true rfl⟩ ⟨Nat.le_of_ble_eq_true rfl, Nat.le_of_ble_eq_true rfl⟩ dX11_ratio_49 ?_
            refine zr_goto C 61 dX11_ratio_52 (by decide) ?_
            refine zr_sub [0, 1, 3, 4] [(0, .ref (G.1 + 105)), (1, .int a1), (3, .int a3), (4, .int a4)] rfl ?_
            exact hj61 _ hJ
        · have hJ := zif hc6 hJ
          refine zr_iconst C dX11_ratio_39 (v := (-1 : Int32)) (by decide) ?_
          exact zr_iret C hret (zs_e hJ) rfl rfl dX11_ratio_40
  refine zr_icmp_eq C 14 dX11_ratio_3 (by decide) (fun hc15 => ?_) (fun hc15 => ?_)
  · have hJ := zif hc15 hJ
    exact hj14 hJ
  · have hJ := zif' hc15 hJ
    refine zr_aload_n C 0 dX11_ratio_6 rfl ?_
    refine zr_iload_n C 1 dX11_ratio_7 rfl ?_
    obtain ⟨r16, hr16, hJ⟩ := zb_e hJ
    refine zr_callVI C 105 (zk_lt zk_105 (by decide)) (zen_obj zk_105) (rfl : zcl[11]? = some (RX11, TX11, 56)) (M_X11_isLine G l hr16) zin_X11_isLine zm_21_5 rfl rfl (Nat.le_of_ble_eq_true rfl) ⟨Nat.le_of_ble_eq_true rfl, Nat.le_of_ble_eq_true rfl⟩ ⟨Nat.le_of_ble_eq_true rfl, Nat.le_of_ble_eq_true rfl⟩ dX11_ratio_8 ?_
    refine zr_if_eq C 39 dX11_ratio_11 (by decide) (fun hc17 => ?_) (fun hc17 => ?_)
    · have hJ := zif hc17 hJ
      refine zr_iconst C dX11_ratio_39 (v := (-1 : Int32)) (by decide) ?_
      exact zr_iret C hret (zs_e hJ) rfl rfl dX11_ratio_40
    · have hJ := zif' hc17 hJ
      exact hj14 hJ
theorem dX11_rounds_0 : decode cX11_rounds 0 = .ok (.iload_n 1, 1) := by decide +kernel
theorem dX11_rounds_1 : decode cX11_rounds 1 = .ok (.invokestatic 286, 3) := by decide +kernel
theorem dX11_rounds_4 : decode cX11_rounds 4 = .ok (.ifCond .eq 21, 3) := by decide +kernel
theorem dX11_rounds_7 : decode cX11_rounds 7 = .ok (.iload_n 2, 1) := by decide +kernel
theorem dX11_rounds_8 : decode cX11_rounds 8 = .ok (.ifCond .eq 19, 3) := by decide +kernel
theorem dX11_rounds_11 : decode cX11_rounds 11 = .ok (.iload_n 2, 1) := by decide +kernel
theorem dX11_rounds_12 : decode cX11_rounds 12 = .ok (.i2l, 1) := by decide +kernel
theorem dX11_rounds_13 : decode cX11_rounds 13 = .ok (.ldc2_w 247, 3) := by decide +kernel
theorem dX11_rounds_16 : decode cX11_rounds 16 = .ok (.ldc2_w 249, 3) := by decide +kernel
theorem dX11_rounds_19 : decode cX11_rounds 19 = .ok (.invokestatic 124, 3) := by decide +kernel
theorem dX11_rounds_22 : decode cX11_rounds 22 = .ok (.ifCond .ne 5, 3) := by decide +kernel
theorem dX11_rounds_25 : decode cX11_rounds 25 = .ok (.iconst (-1), 1) := by decide +kernel
theorem dX11_rounds_26 : decode cX11_rounds 26 = .ok (.ireturn, 1) := by decide +kernel
theorem dX11_rounds_27 : decode cX11_rounds 27 = .ok (.aload_n 0, 1) := by decide +kernel
theorem dX11_rounds_28 : decode cX11_rounds 28 = .ok (.iload_n 1, 1) := by decide +kernel
theorem dX11_rounds_29 : decode cX11_rounds 29 = .ok (.invokevirtual 295, 3) := by decide +kernel
theorem dX11_rounds_32 : decode cX11_rounds 32 = .ok (.aload_n 0, 1) := by decide +kernel
theorem dX11_rounds_33 : decode cX11_rounds 33 = .ok (.getfield 292, 3) := by decide +kernel
theorem dX11_rounds_36 : decode cX11_rounds 36 = .ok (.bipush (-4), 2) := by decide +kernel
theorem dX11_rounds_38 : decode cX11_rounds 38 = .ok (.if_icmp .ne 6, 3) := by decide +kernel
theorem dX11_rounds_41 : decode cX11_rounds 41 = .ok (.bipush (-4), 2) := by decide +kernel
theorem dX11_rounds_43 : decode cX11_rounds 43 = .ok (.ireturn, 1) := by decide +kernel
theorem dX11_rounds_44 : decode cX11_rounds 44 = .ok (.iload_n 2, 1) := by decide +kernel
theorem dX11_rounds_45 : decode cX11_rounds 45 = .ok (.ifCond .ne 10, 3) := by decide +kernel
theorem dX11_rounds_48 : decode cX11_rounds 48 = .ok (.aload_n 0, 1) := by decide +kernel
theorem dX11_rounds_49 : decode cX11_rounds 49 = .ok (.getfield 292, 3) := by decide +kernel
theorem dX11_rounds_52 : decode cX11_rounds 52 = .ok (.goto 27, 3) := by decide +kernel
theorem dX11_rounds_55 : decode cX11_rounds 55 = .ok (.iload_n 2, 1) := by decide +kernel
theorem dX11_rounds_56 : decode cX11_rounds 56 = .ok (.bipush 10, 2) := by decide +kernel
theorem dX11_rounds_58 : decode cX11_rounds 58 = .ok (.isub, 1) := by decide +kernel
theorem dX11_rounds_59 : decode cX11_rounds 59 = .ok (.aload_n 0, 1) := by decide +kernel
theorem dX11_rounds_60 : decode cX11_rounds 60 = .ok (.getfield 292, 3) := by decide +kernel
theorem dX11_rounds_63 : decode cX11_rounds 63 = .ok (.if_icmp .ge 15, 3) := by decide +kernel
theorem dX11_rounds_66 : decode cX11_rounds 66 = .ok (.aload_n 0, 1) := by decide +kernel
theorem dX11_rounds_67 : decode cX11_rounds 67 = .ok (.getfield 84, 3) := by decide +kernel
theorem dX11_rounds_70 : decode cX11_rounds 70 = .ok (.iload_n 2, 1) := by decide +kernel
theorem dX11_rounds_71 : decode cX11_rounds 71 = .ok (.bipush 10, 2) := by decide +kernel
theorem dX11_rounds_73 : decode cX11_rounds 73 = .ok (.isub, 1) := by decide +kernel
theorem dX11_rounds_74 : decode cX11_rounds 74 = .ok (.iaload, 1) := by decide +kernel
theorem dX11_rounds_75 : decode cX11_rounds 75 = .ok (.goto 4, 3) := by decide +kernel
theorem dX11_rounds_78 : decode cX11_rounds 78 = .ok (.iconst (-1), 1) := by decide +kernel
theorem dX11_rounds_79 : decode cX11_rounds 79 = .ok (.ireturn, 1) := by decide +kernel
set_option maxRecDepth 100000 in
set_option maxHeartbeats 4000000 in
theorem M_X11_rounds (G : zG) (l : Launch) {a1 : Int32} {a2 : Int32} {σ : zS} {r : Int32} {σ' : zS} (hJ : J_X11_rounds a1 a2 σ = some (r, σ')) : zMI G l yX11_rounds cX11_rounds 3 (some .int) (zrm 3 75) [.ref (G.1 + 105), .int a1, .int a2] 137 (zen G σ) r 137 (zen G σ') := by
  unfold J_X11_rounds at hJ
  refine zentI (by decide +kernel) (Nat.le_of_ble_eq_true rfl) ?_
  intro p e s m args below meth c C hret
  refine zr_sub [0, 1, 2] [(0, .ref (G.1 + 105)), (1, .int a1), (2, .int a2)] rfl ?_
  refine zr_iload_n C 1 dX11_rounds_0 rfl ?_
  obtain ⟨r1, hr1, hJ⟩ := zb_e hJ
  refine zr_callSI C (M_X11_areEvents G l hr1) zin_X11_areEvents zm_31_17 rfl rfl (Nat.le_of_ble_eq_true rfl) ⟨Nat.le_of_ble_eq_true rfl, Nat.le_of_ble_eq_true rfl⟩ ⟨Nat.le_of_ble_eq_true rfl, Nat.le_of_ble_eq_true rfl⟩ dX11_rounds_1 ?_
  refine zr_if_eq C 25 dX11_rounds_4 (by decide) (fun hc2 => ?_) (fun hc2 => ?_)
  · have hJ := zif hc2 hJ
    refine zr_iconst C dX11_rounds_25 (v := (-1 : Int32)) (by decide) ?_
    exact zr_iret C hret (Prod.mk.inj (zs_e hJ)).1 rfl (congrArg (zen G) (Prod.mk.inj (zs_e hJ)).2) dX11_rounds_26
  · have hJ := zif' hc2 hJ
    refine zr_iload_n C 2 dX11_rounds_7 rfl ?_
    obtain ⟨k27, hk27, hJ⟩ := zlet_e hJ
    have hj27 : k27 = some (r, σ') → zU G 3 p l e (zrm 3 75) s m args below meth c (MQ below (va_Qi (fun x (_ : Unit) => x = r) (fun _ t => zok G 137 (zen G σ') t) (zA G)) args s 0 0 (zA G)) σ 27 [(0, .ref (G.1 + 105)), (1, .int a1), (2, .int a2)] [] := by
      intro hJ
      rw [hk27] at hJ
      unfold D_X11_rounds_27 at hJ
      refine zr_aload_n C 0 dX11_rounds_27 rfl ?_
      refine zr_iload_n C 1 dX11_rounds_28 rfl ?_
      obtain ⟨σ4, hr3, hJ⟩ := zb_e hJ
      refine zr_callVV C 105 (zk_lt zk_105 (by decide)) (zen_obj zk_105) (rfl : zcl[11]? = some (RX11, TX11, 56)) (M_X11_findRounds G l hr3) zin_X11_findRounds zm_33_18 rfl rfl (Nat.le_of_ble_eq_true rfl) ⟨Nat.le_of_ble_eq_true rfl, Nat.le_of_ble_eq_true rfl⟩ ⟨Nat.le_of_ble_eq_true rfl, Nat.le_of_ble_eq_true rfl⟩ dX11_rounds_29 ?_
      refine zr_aload_n C 0 dX11_rounds_32 rfl ?_
      refine zg_11_41 C 105 zk_105 zm_33_17 dX11_rounds_33 ?_
      refine zr_bipush C dX11_rounds_36 (v := (-4 : Int32)) (by decide) ?_
      refine zr_icmp_ne C 44 dX11_rounds_38 (by decide) (fun hc5 => ?_) (fun hc5 => ?_)
      · have hJ := zif' hc5 hJ
        refine zr_iload_n C 2 dX11_rounds_44 rfl ?_
        refine zr_if_ne C 55 dX11_rounds_45 (by decide) (fun hc6 => ?_) (fun hc6 => ?_)
        · have hJ := zif' hc6 hJ
          refine zr_iload_n C 2 dX11_rounds_55 rfl ?_
          refine zr_bipush C dX11_rounds_56 (v := (10 : Int32)) (by decide) ?_
          refine zr_isub C dX11_rounds_58 ?_
          refine zr_aload_n C 0 dX11_rounds_59 rfl ?_
          refine zg_11_41 C 105 zk_105 zm_33_17 dX11_rounds_60 ?_
          refine zr_icmp_ge C 78 dX11_rounds_63 (by decide) (fun hc7 => ?_) (fun hc7 => ?_)
          · have hJ := zif hc7 hJ
            refine zr_iconst C dX11_rounds_78 (v := (-1 : Int32)) (by decide) ?_
            exact zr_iret C hret (Prod.mk.inj (zs_e hJ)).1 rfl (congrArg (zen G) (Prod.mk.inj (zs_e hJ)).2) dX11_rounds_79
          · have hJ := zif' hc7 hJ
            refine zr_aload_n C 0 dX11_rounds_66 rfl ?_
            refine zg_11_42 C 105 zk_105 zm_8_11 dX11_rounds_67 ?_
            refine zr_iload_n C 2 dX11_rounds_70 rfl ?_
            refine zr_bipush C dX11_rounds_71 (v := (10 : Int32)) (by decide) ?_
            refine zr_isub C dX11_rounds_73 ?_
            obtain ⟨hg8, hJ⟩ := zg_e hJ
            refine zu_iald C 129 zk_129 hg8 dX11_rounds_74 ?_
            refine zr_goto C 79 dX11_rounds_75 (by decide) ?_
            exact zr_iret C hret (Prod.mk.inj (zs_e hJ)).1 rfl (congrArg (zen G) (Prod.mk.inj (zs_e hJ)).2) dX11_rounds_79
        · have hJ := zif hc6 hJ
          refine zr_aload_n C 0 dX11_rounds_48 rfl ?_
          refine zg_11_41 C 105 zk_105 zm_33_17 dX11_rounds_49 ?_
          refine zr_goto C 79 dX11_rounds_52 (by decide) ?_
          exact zr_iret C hret (Prod.mk.inj (zs_e hJ)).1 rfl (congrArg (zen G) (Prod.mk.inj (zs_e hJ)).2) dX11_rounds_79
      · have hJ := zif hc5 hJ
        refine zr_bipush C dX11_rounds_41 (v := (-4 : Int32)) (by decide) ?_
        exact zr_iret C hret (Prod.mk.inj (zs_e hJ)).1 rfl (congrArg (zen G) (Prod.mk.inj (zs_e hJ)).2) dX11_rounds_43
    refine zr_if_eq C 27 dX11_rounds_8 (by decide) (fun hc9 => ?_) (fun hc9 => ?_)
    · have hJ := zif hc9 hJ
      exact hj27 hJ
    · have hJ := zif' hc9 hJ
      refine zr_iload_n C 2 dX11_rounds_11 rfl ?_
      refine zr_i2l C dX11_rounds_12 ?_
      refine zr_ldc2 C dX11_rounds_13 zm_21_3 ?_
      refine zr_ldc2 C dX11_rounds_16 zm_21_4 ?_
      obtain ⟨r10, hr10, hJ⟩ := zb_e hJ
      refine zr_callSI C (M_X11_in G l hr10) zin_X11_in zm_9_22 rfl rfl (Nat.le_of_ble_eq_true rfl) ⟨Nat.le_of_ble_eq_true rfl, Nat.le_of_ble_eq_true rfl⟩ ⟨Nat.le_of_ble_eq_true rfl, Nat.le_of_ble_eq_true rfl⟩ dX11_rounds_19 ?_
      refine zr_if_ne C 27 dX11_rounds_22 (by decide) (fun hc11 => ?_) (fun hc11 => ?_)
      · have hJ := zif' hc11 hJ
        exact hj27 hJ
      · have hJ := zif hc11 hJ
        refine zr_iconst C dX11_rounds_25 (v := (-1 : Int32)) (by decide) ?_
        exact zr_iret C hret (Prod.mk.inj (zs_e hJ)).1 rfl (congrArg (zen G) (Prod.mk.inj (zs_e hJ)).2) dX11_rounds_26
theorem dX11_run_0 : decode cX11_run 0 = .ok (.aload_n 0, 1) := by decide +kernel
theorem dX11_run_1 : decode cX11_run 1 = .ok (.iload_n 1, 1) := by decide +kernel
theorem dX11_run_2 : decode cX11_run 2 = .ok (.invokevirtual 279, 3) := by decide +kernel
theorem dX11_run_5 : decode cX11_run 5 = .ok (.ifCond .eq 22, 3) := by decide +kernel
theorem dX11_run_8 : decode cX11_run 8 = .ok (.iload_n 2, 1) := by decide +kernel
theorem dX11_run_9 : decode cX11_run 9 = .ok (.invokestatic 260, 3) := by decide +kernel
theorem dX11_run_12 : decode cX11_run 12 = .ok (.ifCond .eq 15, 3) := by decide +kernel
theorem dX11_run_15 : decode cX11_run 15 = .ok (.iload_n 3, 1) := by decide +kernel
theorem dX11_run_16 : decode cX11_run 16 = .ok (.i2l, 1) := by decide +kernel
theorem dX11_run_17 : decode cX11_run 17 = .ok (.lconst 0, 1) := by decide +kernel
theorem dX11_run_18 : decode cX11_run 18 = .ok (.ldc2_w 269, 3) := by decide +kernel
theorem dX11_run_21 : decode cX11_run 21 = .ok (.invokestatic 124, 3) := by decide +kernel
theorem dX11_run_24 : decode cX11_run 24 = .ok (.ifCond .ne 5, 3) := by decide +kernel
theorem dX11_run_27 : decode cX11_run 27 = .ok (.iconst (-1), 1) := by decide +kernel
theorem dX11_run_28 : decode cX11_run 28 = .ok (.ireturn, 1) := by decide +kernel
theorem dX11_run_29 : decode cX11_run 29 = .ok (.aload_n 0, 1) := by decide +kernel
theorem dX11_run_30 : decode cX11_run 30 = .ok (.getfield 222, 3) := by decide +kernel
theorem dX11_run_33 : decode cX11_run 33 = .ok (.bipush 12, 2) := by decide +kernel
theorem dX11_run_35 : decode cX11_run 35 = .ok (.if_icmp .ne 6, 3) := by decide +kernel
theorem dX11_run_38 : decode cX11_run 38 = .ok (.bipush (-3), 2) := by decide +kernel
theorem dX11_run_40 : decode cX11_run 40 = .ok (.ireturn, 1) := by decide +kernel
theorem dX11_run_41 : decode cX11_run 41 = .ok (.aload_n 0, 1) := by decide +kernel
theorem dX11_run_42 : decode cX11_run 42 = .ok (.getfield 90, 3) := by decide +kernel
theorem dX11_run_45 : decode cX11_run 45 = .ok (.aload_n 0, 1) := by decide +kernel
theorem dX11_run_46 : decode cX11_run 46 = .ok (.getfield 222, 3) := by decide +kernel
theorem dX11_run_49 : decode cX11_run 49 = .ok (.iload_n 1, 1) := by decide +kernel
theorem dX11_run_50 : decode cX11_run 50 = .ok (.iastore, 1) := by decide +kernel
theorem dX11_run_51 : decode cX11_run 51 = .ok (.aload_n 0, 1) := by decide +kernel
theorem dX11_run_52 : decode cX11_run 52 = .ok (.getfield 93, 3) := by decide +kernel
theorem dX11_run_55 : decode cX11_run 55 = .ok (.aload_n 0, 1) := by decide +kernel
theorem dX11_run_56 : decode cX11_run 56 = .ok (.getfield 222, 3) := by decide +kernel
theorem dX11_run_59 : decode cX11_run 59 = .ok (.iload_n 2, 1) := by decide +kernel
theorem dX11_run_60 : decode cX11_run 60 = .ok (.iastore, 1) := by decide +kernel
theorem dX11_run_61 : decode cX11_run 61 = .ok (.aload_n 0, 1) := by decide +kernel
theorem dX11_run_62 : decode cX11_run 62 = .ok (.getfield 96, 3) := by decide +kernel
theorem dX11_run_65 : decode cX11_run 65 = .ok (.aload_n 0, 1) := by decide +kernel
theorem dX11_run_66 : decode cX11_run 66 = .ok (.getfield 222, 3) := by decide +kernel
theorem dX11_run_69 : decode cX11_run 69 = .ok (.iload_n 3, 1) := by decide +kernel
theorem dX11_run_70 : decode cX11_run 70 = .ok (.iastore, 1) := by decide +kernel
theorem dX11_run_71 : decode cX11_run 71 = .ok (.aload_n 0, 1) := by decide +kernel
theorem dX11_run_72 : decode cX11_run 72 = .ok (.dup, 1) := by decide +kernel
theorem dX11_run_73 : decode cX11_run 73 = .ok (.getfield 222, 3) := by decide +kernel
theorem dX11_run_76 : decode cX11_run 76 = .ok (.iconst 1, 1) := by decide +kernel
theorem dX11_run_77 : decode cX11_run 77 = .ok (.iadd, 1) := by decide +kernel
theorem dX11_run_78 : decode cX11_run 78 = .ok (.putfield 222, 3) := by decide +kernel
theorem dX11_run_81 : decode cX11_run 81 = .ok (.aload_n 0, 1) := by decide +kernel
theorem dX11_run_82 : decode cX11_run 82 = .ok (.getfield 222, 3) := by decide +kernel
theorem dX11_run_85 : decode cX11_run 85 = .ok (.ireturn, 1) := by decide +kernel
set_option maxRecDepth 100000 in
set_option maxHeartbeats 4000000 in
theorem M_X11_run (G : zG) (l : Launch) {a1 : Int32} {a2 : Int32} {a3 : Int32} {σ : zS} {r : Int32} {σ' : zS} (hJ : J_X11_run a1 a2 a3 σ = some (r, σ')) : zMI G l yX11_run cX11_run 4 (some .int) (zrm 2 46) [.ref (G.1 + 105), .int a1, .int a2, .int a3] 137 (zen G σ) r 137 (zen G σ') := by
  unfold J_X11_run at hJ
  refine zentI (by decide +kernel) (Nat.le_of_ble_eq_true rfl) ?_
  intro p e s m args below meth c C hret
  refine zr_sub [0, 1, 2, 3] [(0, .ref (G.1 + 105)), (1, .int a1), (2, .int a2), (3, .int a3)] rfl ?_
  refine zr_aload_n C 0 dX11_run_0 rfl ?_
  refine zr_iload_n C 1 dX11_run_1 rfl ?_
  obtain ⟨r1, hr1, hJ⟩ := zb_e hJ
  refine zr_callVI C 105 (zk_lt zk_105 (by decide)) (zen_obj zk_105) (rfl : zcl[11]? = some (RX11, TX11, 56)) (M_X11_isCounter G l hr1) zin_X11_isCounter zm_30_3 rfl rfl (Nat.le_of_ble_eq_true rfl) ⟨Nat.le_of_ble_eq_true rfl, Nat.le_of_ble_eq_true rfl⟩ ⟨Nat.le_of_ble_eq_true rfl, Nat.le_of_ble_eq_true rfl⟩ dX11_run_2 ?_
  refine zr_if_eq C 27 dX11_run_5 (by decide) (fun hc2 => ?_) (fun hc2 => ?_)
  · have hJ := zif hc2 hJ
    refine zr_iconst C dX11_run_27 (v := (-1 : Int32)) (by decide) ?_
    exact zr_iret C hret (Prod.mk.inj (zs_e hJ)).1 rfl (congrArg (zen G) (Prod.mk.inj (zs_e hJ)).2) dX11_run_28
  · have hJ := zif' hc2 hJ
    refine zr_iload_n C 2 dX11_run_8 rfl ?_
    obtain ⟨r3, hr3, hJ⟩ := zb_e hJ
    refine zr_callSI C (M_X11_isEvent G l hr3) zin_X11_isEvent zm_24_0 rfl rfl (Nat.le_of_ble_eq_true rfl) ⟨Nat.le_of_ble_eq_true rfl, Nat.le_of_ble_eq_true rfl⟩ ⟨Nat.le_of_ble_eq_true rfl, Nat.le_of_ble_eq_true rfl⟩ dX11_run_9 ?_
    refine zr_if_eq C 27 dX11_run_12 (by decide) (fun hc4 => ?_) (fun hc4 => ?_)
    · have hJ := zif hc4 hJ
      refine zr_iconst C dX11_run_27 (v := (-1 : Int32)) (by decide) ?_
      exact zr_iret C hret (Prod.mk.inj (zs_e hJ)).1 rfl (congrArg (zen G) (Prod.mk.inj (zs_e hJ)).2) dX11_run_28
    · have hJ := zif' hc4 hJ
      refine zr_iload_n C 3 dX11_run_15 rfl ?_
      refine zr_i2l C dX11_run_16 ?_
      refine zr_lconst C dX11_run_17 (v := (0 : Int64)) (by decide) ?_
      refine zr_ldc2 C dX11_run_18 zm_26_1 ?_
      obtain ⟨r5, hr5, hJ⟩ := zb_e hJ
      refine zr_callSI C (M_X11_in G l hr5) zin_X11_in zm_9_22 rfl rfl (Nat.le_of_ble_eq_true rfl) ⟨Nat.le_of_ble_eq_true rfl, Nat.le_of_ble_eq_true rfl⟩ ⟨Nat.le_of_ble_eq_true rfl, Nat.le_of_ble_eq_true rfl⟩ dX11_run_21 ?_
      refine zr_if_ne C 29 dX11_run_24 (by decide) (fun hc6 => ?_) (fun hc6 => ?_)
      · have hJ := zif' hc6 hJ
        refine zr_aload_n C 0 dX11_run_29 rfl ?_
        refine zg_11_49 C 105 zk_105 zm_19_13 dX11_run_30 ?_
        refine zr_bipush C dX11_run_33 (v := (12 : Int32)) (by decide) ?_
        refine zr_icmp_ne C 41 dX11_run_35 (by decide) (fun hc7 => ?_) (fun hc7 => ?_)
        · have hJ := zif' hc7 hJ
          refine zr_aload_n C 0 dX11_run_41 rfl ?_
          refine zg_11_50 C 105 zk_105 zm_8_13 dX11_run_42 ?_
          refine zr_aload_n C 0 dX11_run_45 rfl ?_
          refine zg_11_49 C 105 zk_105 zm_19_13 dX11_run_46 ?_
          refine zr_iload_n C 1 dX11_run_49 rfl ?_
          obtain ⟨hg8, hJ⟩ := zg_e hJ
          obtain ⟨σ9, hσ9, hJ⟩ := zlet_e hJ
          refine zv_iast C 131 zk_131 hg8 hσ9 dX11_run_50 ?_
          refine zr_aload_n C 0 dX11_run_51 rfl ?_
          refine zg_11_51 C 105 zk_105 zm_8_14 dX11_run_52 ?_
          refine zr_aload_n C 0 dX11_run_55 rfl ?_
          refine zg_11_49 C 105 zk_105 zm_19_13 dX11_run_56 ?_
          refine zr_iload_n C 2 dX11_run_59 rfl ?_
          obtain ⟨hg10, hJ⟩ := zg_e hJ
          obtain ⟨σ11, hσ11, hJ⟩ := zlet_e hJ
          refine zv_iast C 132 zk_132 hg10 hσ11 dX11_run_60 ?_
          refine zr_aload_n C 0 dX11_run_61 rfl ?_
          refine zg_11_52 C 105 zk_105 zm_8_15 dX11_run_62 ?_
          refine zr_aload_n C 0 dX11_run_65 rfl ?_
          refine zg_11_49 C 105 zk_105 zm_19_13 dX11_run_66 ?_
          refine zr_iload_n C 3 dX11_run_69 rfl ?_
          obtain ⟨hg12, hJ⟩ := zg_e hJ
          obtain ⟨σ13, hσ13, hJ⟩ := zlet_e hJ
          refine zv_iast C 133 zk_133 hg12 hσ13 dX11_run_70 ?_
          refine zr_aload_n C 0 dX11_run_71 rfl ?_
          refine zr_dup C dX11_run_72 rfl ?_
          refine zg_11_49 C 105 zk_105 zm_19_13 dX11_run_73 ?_
          refine zr_iconst C dX11_run_76 (v := (1 : Int32)) (by decide) ?_
          refine zr_iadd C dX11_run_77 ?_
          obtain ⟨σ14, hσ14, hJ⟩ := zlet_e hJ
          refine zp_11_49 C 105 zk_105 zm_19_13 hσ14 dX11_run_78 ?_
          refine zr_aload_n C 0 dX11_run_81 rfl ?_
          refine zg_11_49 C 105 zk_105 zm_19_13 dX11_run_82 ?_
          exact zr_iret C hret (Prod.mk.inj (zs_e hJ)).1 rfl (congrArg (zen G) (Prod.mk.inj (zs_e hJ)).2) dX11_run_85
        · have hJ := zif hc7 hJ
          refine zr_bipush C dX11_run_38 (v := (-3 : Int32)) (by decide) ?_
          exact zr_iret C hret (Prod.mk.inj (zs_e hJ)).1 rfl (congrArg (zen G) (Prod.mk.inj (zs_e hJ)).2) dX11_run_40
      · have hJ := zif hc6 hJ
        refine zr_iconst C dX11_run_27 (v := (-1 : Int32)) (by decide) ?_
        exact zr_iret C hret (Prod.mk.inj (zs_e hJ)).1 rfl (congrArg (zen G) (Prod.mk.inj (zs_e hJ)).2) dX11_run_28
theorem dX11_said_0 : decode cX11_said 0 = .ok (.iload_n 1, 1) := by decide +kernel
theorem dX11_said_1 : decode cX11_said 1 = .ok (.iload_n 2, 1) := by decide +kernel
theorem dX11_said_2 : decode cX11_said 2 = .ok (.invokestatic 368, 3) := by decide +kernel
theorem dX11_said_5 : decode cX11_said 5 = .ok (.ifCond .eq 24, 3) := by decide +kernel
theorem dX11_said_8 : decode cX11_said 8 = .ok (.iload 4, 2) := by decide +kernel
theorem dX11_said_10 : decode cX11_said 10 = .ok (.invokestatic 260, 3) := by decide +kernel
theorem dX11_said_13 : decode cX11_said 13 = .ok (.ifCond .eq 16, 3) := by decide +kernel
theorem dX11_said_16 : decode cX11_said 16 = .ok (.iload 5, 2) := by decide +kernel
theorem dX11_said_18 : decode cX11_said 18 = .ok (.i2l, 1) := by decide +kernel
theorem dX11_said_19 : decode cX11_said 19 = .ok (.lconst 0, 1) := by decide +kernel
theorem dX11_said_20 : decode cX11_said 20 = .ok (.ldc2_w 319, 3) := by decide +kernel
theorem dX11_said_23 : decode cX11_said 23 = .ok (.invokestatic 124, 3) := by decide +kernel
theorem dX11_said_26 : decode cX11_said 26 = .ok (.ifCond .ne 5, 3) := by decide +kernel
theorem dX11_said_29 : decode cX11_said 29 = .ok (.iconst (-1), 1) := by decide +kernel
theorem dX11_said_30 : decode cX11_said 30 = .ok (.ireturn, 1) := by decide +kernel
theorem dX11_said_31 : decode cX11_said 31 = .ok (.aload_n 0, 1) := by decide +kernel
theorem dX11_said_32 : decode cX11_said 32 = .ok (.getfield 99, 3) := by decide +kernel
theorem dX11_said_35 : decode cX11_said 35 = .ok (.iload_n 1, 1) := by decide +kernel
theorem dX11_said_36 : decode cX11_said 36 = .ok (.iaload, 1) := by decide +kernel
theorem dX11_said_37 : decode cX11_said 37 = .ok (.iload_n 2, 1) := by decide +kernel
theorem dX11_said_38 : decode cX11_said 38 = .ok (.if_icmp .eq 22, 3) := by decide +kernel
theorem dX11_said_41 : decode cX11_said 41 = .ok (.aload_n 0, 1) := by decide +kernel
theorem dX11_said_42 : decode cX11_said 42 = .ok (.getfield 99, 3) := by decide +kernel
theorem dX11_said_45 : decode cX11_said 45 = .ok (.iload_n 1, 1) := by decide +kernel
theorem dX11_said_46 : decode cX11_said 46 = .ok (.iaload, 1) := by decide +kernel
theorem dX11_said_47 : decode cX11_said 47 = .ok (.bipush (-4), 2) := by decide +kernel
theorem dX11_said_49 : decode cX11_said 49 = .ok (.if_icmp .ne 8, 3) := by decide +kernel
theorem dX11_said_52 : decode cX11_said 52 = .ok (.bipush (-11), 2) := by decide +kernel
theorem dX11_said_54 : decode cX11_said 54 = .ok (.goto 5, 3) := by decide +kernel
theorem dX11_said_57 : decode cX11_said 57 = .ok (.bipush (-13), 2) := by decide +kernel
theorem dX11_said_59 : decode cX11_said 59 = .ok (.ireturn, 1) := by decide +kernel
theorem dX11_said_60 : decode cX11_said 60 = .ok (.iconst 0, 1) := by decide +kernel
theorem dX11_said_61 : decode cX11_said 61 = .ok (.istore 6, 2) := by decide +kernel
theorem dX11_said_63 : decode cX11_said 63 = .ok (.bipush (-4), 2) := by decide +kernel
theorem dX11_said_65 : decode cX11_said 65 = .ok (.istore 7, 2) := by decide +kernel
theorem dX11_said_67 : decode cX11_said 67 = .ok (.iconst 0, 1) := by decide +kernel
theorem dX11_said_68 : decode cX11_said 68 = .ok (.istore 8, 2) := by decide +kernel
theorem dX11_said_70 : decode cX11_said 70 = .ok (.iconst 0, 1) := by decide +kernel
theorem dX11_said_71 : decode cX11_said 71 = .ok (.istore 9, 2) := by decide +kernel
theorem dX11_said_73 : decode cX11_said 73 = .ok (.iconst 0, 1) := by decide +kernel
theorem dX11_said_74 : decode cX11_said 74 = .ok (.istore 10, 2) := by decide +kernel
theorem dX11_said_76 : decode cX11_said 76 = .ok (.iload 10, 2) := by decide +kernel
theorem dX11_said_78 : decode cX11_said 78 = .ok (.aload_n 0, 1) := by decide +kernel
theorem dX11_said_79 : decode cX11_said 79 = .ok (.getfield 203, 3) := by decide +kernel
theorem dX11_said_82 : decode cX11_said 82 = .ok (.if_icmp .ge 164, 3) := by decide +kernel
theorem dX11_said_85 : decode cX11_said 85 = .ok (.iload_n 3, 1) := by decide +kernel
theorem dX11_said_86 : decode cX11_said 86 = .ok (.i2l, 1) := by decide +kernel
theorem dX11_said_87 : decode cX11_said 87 = .ok (.iload 10, 2) := by decide +kernel
theorem dX11_said_89 : decode cX11_said 89 = .ok (.i2l, 1) := by decide +kernel
theorem dX11_said_90 : decode cX11_said 90 = .ok (.ladd, 1) := by decide +kernel
theorem dX11_said_91 : decode cX11_said 91 = .ok (.lstore 11, 2) := by decide +kernel
theorem dX11_said_93 : decode cX11_said 93 = .ok (.lload 11, 2) := by decide +kernel
theorem dX11_said_95 : decode cX11_said 95 = .ok (.lconst 0, 1) := by decide +kernel
theorem dX11_said_96 : decode cX11_said 96 = .ok (.lcmp, 1) := by decide +kernel
theorem dX11_said_97 : decode cX11_said 97 = .ok (.ifCond .lt 16, 3) := by decide +kernel
theorem dX11_said_100 : decode cX11_said 100 = .ok (.lload 11, 2) := by decide +kernel
theorem dX11_said_102 : decode cX11_said 102 = .ok (.aload_n 0, 1) := by decide +kernel
theorem dX11_said_103 : decode cX11_said 103 = .ok (.getfield 102, 3) := by decide +kernel
theorem dX11_said_106 : decode cX11_said 106 = .ok (.iload_n 1, 1) := by decide +kernel
theorem dX11_said_107 : decode cX11_said 107 = .ok (.iaload, 1) := by decide +kernel
theorem dX11_said_108 : decode cX11_said 108 = .ok (.i2l, 1) := by decide +kernel
theorem dX11_said_109 : decode cX11_said 109 = .ok (.lcmp, 1) := by decide +kernel
theorem dX11_said_110 : decode cX11_said 110 = .ok (.ifCond .lt 6, 3) := by decide +kernel
theorem dX11_said_113 : decode cX11_said 113 = .ok (.bipush (-12), 2) := by decide +kernel
theorem dX11_said_115 : decode cX11_said 115 = .ok (.ireturn, 1) := by decide +kernel
theorem dX11_said_116 : decode cX11_said 116 = .ok (.aload_n 0, 1) := by decide +kernel
theorem dX11_said_117 : decode cX11_said 117 = .ok (.getfield 105, 3) := by decide +kernel
theorem dX11_said_120 : decode cX11_said 120 = .ok (.bipush 40, 2) := by decide +kernel
theorem dX11_said_122 : decode cX11_said 122 = .ok (.iload_n 1, 1) := by decide +kernel
theorem dX11_said_123 : decode cX11_said 123 = .ok (.imul, 1) := by decide +kernel
theorem dX11_said_124 : decode cX11_said 124 = .ok (.lload 11, 2) := by decide +kernel
theorem dX11_said_126 : decode cX11_said 126 = .ok (.l2i, 1) := by decide +kernel
theorem dX11_said_127 : decode cX11_said 127 = .ok (.iadd, 1) := by decide +kernel
theorem dX11_said_128 : decode cX11_said 128 = .ok (.iaload, 1) := by decide +kernel
theorem dX11_said_129 : decode cX11_said 129 = .ok (.istore 13, 2) := by decide +kernel
theorem dX11_said_131 : decode cX11_said 131 = .ok (.iload 13, 2) := by decide +kernel
theorem dX11_said_133 : decode cX11_said 133 = .ok (.i2l, 1) := by decide +kernel
theorem dX11_said_134 : decode cX11_said 134 = .ok (.lconst 0, 1) := by decide +kernel
theorem dX11_said_135 : decode cX11_said 135 = .ok (.ldc2_w 269, 3) := by decide +kernel
theorem dX11_said_138 : decode cX11_said 138 = .ok (.invokestatic 124, 3) := by decide +kernel
theorem dX11_said_141 : decode cX11_said 141 = .ok (.ifCond .ne 9, 3) := by decide +kernel
theorem dX11_said_144 : decode cX11_said 144 = .ok (.bipush (-20), 2) := by decide +kernel
theorem dX11_said_146 : decode cX11_said 146 = .ok (.iload 10, 2) := by decide +kernel
theorem dX11_said_148 : decode cX11_said 148 = .ok (.isub, 1) := by decide +kernel
theorem dX11_said_149 : decode cX11_said 149 = .ok (.ireturn, 1) := by decide +kernel
theorem dX11_said_150 : decode cX11_said 150 = .ok (.iload 13, 2) := by decide +kernel
theorem dX11_said_152 : decode cX11_said 152 = .ok (.aload_n 0, 1) := by decide +kernel
theorem dX11_said_153 : decode cX11_said 153 = .ok (.getfield 28, 3) := by decide +kernel
theorem dX11_said_156 : decode cX11_said 156 = .ok (.iload 10, 2) := by decide +kernel
theorem dX11_said_158 : decode cX11_said 158 = .ok (.iaload, 1) := by decide +kernel
theorem dX11_said_159 : decode cX11_said 159 = .ok (.aload_n 0, 1) := by decide +kernel
theorem dX11_said_160 : decode cX11_said 160 = .ok (.iload 10, 2) := by decide +kernel
theorem dX11_said_162 : decode cX11_said 162 = .ok (.iload 4, 2) := by decide +kernel
theorem dX11_said_164 : decode cX11_said 164 = .ok (.invokevirtual 251, 3) := by decide +kernel
theorem dX11_said_167 : decode cX11_said 167 = .ok (.imul, 1) := by decide +kernel
theorem dX11_said_168 : decode cX11_said 168 = .ok (.isub, 1) := by decide +kernel
theorem dX11_said_169 : decode cX11_said 169 = .ok (.istore 14, 2) := by decide +kernel
theorem dX11_said_171 : decode cX11_said 171 = .ok (.iload 6, 2) := by decide +kernel
theorem dX11_said_173 : decode cX11_said 173 = .ok (.iload 14, 2) := by decide +kernel
theorem dX11_said_175 : decode cX11_said 175 = .ok (.ifCond .ne 7, 3) := by decide +kernel
theorem dX11_said_178 : decode cX11_said 178 = .ok (.iconst 1, 1) := by decide +kernel
theorem dX11_said_179 : decode cX11_said 179 = .ok (.goto 4, 3) := by decide +kernel
theorem dX11_said_182 : decode cX11_said 182 = .ok (.iconst 0, 1) := by decide +kernel
theorem dX11_said_183 : decode cX11_said 183 = .ok (.iadd, 1) := by decide +kernel
theorem dX11_said_184 : decode cX11_said 184 = .ok (.istore 6, 2) := by decide +kernel
theorem dX11_said_186 : decode cX11_said 186 = .ok (.iload 14, 2) := by decide +kernel
theorem dX11_said_188 : decode cX11_said 188 = .ok (.ifCond .eq 15, 3) := by decide +kernel
theorem dX11_said_191 : decode cX11_said 191 = .ok (.iload 7, 2) := by decide +kernel
theorem dX11_said_193 : decode cX11_said 193 = .ok (.bipush (-4), 2) := by decide +kernel
theorem dX11_said_195 : decode cX11_said 195 = .ok (.if_icmp .ne 8, 3) := by decide +kernel
theorem dX11_said_198 : decode cX11_said 198 = .ok (.iload 10, 2) := by decide +kernel
theorem dX11_said_200 : decode cX11_said 200 = .ok (.goto 5, 3) := by decide +kernel
theorem dX11_said_203 : decode cX11_said 203 = .ok (.iload 7, 2) := by decide +kernel
theorem dX11_said_205 : decode cX11_said 205 = .ok (.istore 7, 2) := by decide +kernel
theorem dX11_said_207 : decode cX11_said 207 = .ok (.iload 8, 2) := by decide +kernel
theorem dX11_said_209 : decode cX11_said 209 = .ok (.iload 14, 2) := by decide +kernel
theorem dX11_said_211 : decode cX11_said 211 = .ok (.ifCond .le 8, 3) := by decide +kernel
theorem dX11_said_214 : decode cX11_said 214 = .ok (.iload 14, 2) := by decide +kernel
theorem dX11_said_216 : decode cX11_said 216 = .ok (.goto 4, 3) := by decide +kernel
theorem dX11_said_219 : decode cX11_said 219 = .ok (.iconst 0, 1) := by decide +kernel
theorem dX11_said_220 : decode cX11_said 220 = .ok (.iadd, 1) := by decide +kernel
theorem dX11_said_221 : decode cX11_said 221 = .ok (.istore 8, 2) := by decide +kernel
theorem dX11_said_223 : decode cX11_said 223 = .ok (.iload 9, 2) := by decide +kernel
theorem dX11_said_225 : decode cX11_said 225 = .ok (.iload 14, 2) := by decide +kernel
theorem dX11_said_227 : decode cX11_said 227 = .ok (.ifCond .ge 9, 3) := by decide +kernel
theorem dX11_said_230 : decode cX11_said 230 = .ok (.iload 14, 2) := by decide +kernel
theorem dX11_said_232 : decode cX11_said 232 = .ok (.ineg, 1) := by decide +kernel
theorem dX11_said_233 : decode cX11_said 233 = .ok (.goto 4, 3) := by decide +kernel
theorem dX11_said_236 : decode cX11_said 236 = .ok (.iconst 0, 1) := by decide +kernel
theorem dX11_said_237 : decode cX11_said 237 = .ok (.iadd, 1) := by decide +kernel
theorem dX11_said_238 : decode cX11_said 238 = .ok (.istore 9, 2) := by decide +kernel
theorem dX11_said_240 : decode cX11_said 240 = .ok (.iinc 10 1, 3) := by decide +kernel
theorem dX11_said_243 : decode cX11_said 243 = .ok (.goto (-167), 3) := by decide +kernel
theorem dX11_said_246 : decode cX11_said 246 = .ok (.iload 5, 2) := by decide +kernel
theorem dX11_said_248 : decode cX11_said 248 = .ok (.ifCond .ne 8, 3) := by decide +kernel
theorem dX11_said_251 : decode cX11_said 251 = .ok (.iload 6, 2) := by decide +kernel
theorem dX11_said_253 : decode cX11_said 253 = .ok (.goto 27, 3) := by decide +kernel
theorem dX11_said_256 : decode cX11_said 256 = .ok (.iload 5, 2) := by decide +kernel
theorem dX11_said_258 : decode cX11_said 258 = .ok (.iconst 1, 1) := by decide +kernel
theorem dX11_said_259 : decode cX11_said 259 = .ok (.if_icmp .ne 8, 3) := by decide +kernel
theorem dX11_said_262 : decode cX11_said 262 = .ok (.iload 7, 2) := by decide +kernel
theorem dX11_said_264 : decode cX11_said 264 = .ok (.goto 16, 3) := by decide +kernel
theorem dX11_said_267 : decode cX11_said 267 = .ok (.iload 5, 2) := by decide +kernel
theorem dX11_said_269 : decode cX11_said 269 = .ok (.iconst 2, 1) := by decide +kernel
theorem dX11_said_270 : decode cX11_said 270 = .ok (.if_icmp .ne 8, 3) := by decide +kernel
theorem dX11_said_273 : decode cX11_said 273 = .ok (.iload 8, 2) := by decide +kernel
theorem dX11_said_275 : decode cX11_said 275 = .ok (.goto 5, 3) := by decide +kernel
theorem dX11_said_278 : decode cX11_said 278 = .ok (.iload 9, 2) := by decide +kernel
theorem dX11_said_280 : decode cX11_said 280 = .ok (.ireturn, 1) := by decide +kernel
set_option maxRecDepth 100000 in
set_option maxHeartbeats 4000000 in
theorem M_X11_said (G : zG) (l : Launch) {a1 : Int32} {a2 : Int32} {a3 : Int32} {a4 : Int32} {a5 : Int32} {σ : zS} {r : Int32} (hJ : J_X11_said a1 a2 a3 a4 a5 σ = some r) : zMI G l yX11_said cX11_said 15 (some .int) (zrm 2 46) [.ref (G.1 + 105), .int a1, .int a2, .int a3, .int a4, .int a5] 137 (zen G σ) r 137 (zen G σ) := by
  unfold J_X11_said at hJ
  refine zentI (by decide +kernel) (Nat.le_of_ble_eq_true rfl) ?_
  intro p e s m args below meth c C hret
  refine zr_sub [0, 1, 2, 3, 4, 5] [(0, .ref (G.1 + 105)), (1, .int a1), (2, .int a2), (3, .int a3), (4, .int a4), (5, .int a5)] rfl ?_
  refine zr_iload_n C 1 dX11_said_0 rfl ?_
  refine zr_iload_n C 2 dX11_said_1 rfl ?_
  obtain ⟨r1, hr1, hJ⟩ := zb_e hJ
  refine zr_callSI C (M_X11_isSheet G l hr1) zin_X11_isSheet zm_47_7 rfl rfl (Nat.le_of_ble_eq_true rfl) ⟨Nat.le_of_ble_eq_true rfl, Nat.le_of_ble_eq_true rfl⟩ ⟨Nat.le_of_ble_eq_true rfl, Nat.le_of_ble_eq_true rfl⟩ dX11_said_2 ?_
  refine zr_if_eq C 29 dX11_said_5 (by decide) (fun hc2 => ?_) (fun hc2 => ?_)
  · have hJ := zif hc2 hJ
    refine zr_iconst C dX11_said_29 (v := (-1 : Int32)) (by decide) ?_
    exact zr_iret C hret (zs_e hJ) rfl rfl dX11_said_30
  · have hJ := zif' hc2 hJ
    refine zr_iload C 4 dX11_said_8 rfl ?_
    obtain ⟨r3, hr3, hJ⟩ := zb_e hJ
    refine zr_callSI C (M_X11_isEvent G l hr3) zin_X11_isEvent zm_24_0 rfl rfl (Nat.le_of_ble_eq_true rfl) ⟨Nat.le_of_ble_eq_true rfl, Nat.le_of_ble_eq_true rfl⟩ ⟨Nat.le_of_ble_eq_true rfl, Nat.le_of_ble_eq_true rfl⟩ dX11_said_10 ?_
    refine zr_if_eq C 29 dX11_said_13 (by decide) (fun hc4 => ?_) (fun hc4 => ?_)
    · have hJ := zif hc4 hJ
      refine zr_iconst C dX11_said_29 (v := (-1 : Int32)) (by decide) ?_
      exact zr_iret C hret (zs_e hJ) rfl rfl dX11_said_30
    · have hJ := zif' hc4 hJ
      refine zr_iload C 5 dX11_said_16 rfl ?_
      refine zr_i2l C dX11_said_18 ?_
      refine zr_lconst C dX11_said_19 (v := (0 : Int64)) (by decide) ?_
      refine zr_ldc2 C dX11_said_20 zm_36_14 ?_
      obtain ⟨r5, hr5, hJ⟩ := zb_e hJ
      refine zr_callSI C (M_X11_in G l hr5) zin_X11_in zm_9_22 rfl rfl (Nat.le_of_ble_eq_true rfl) ⟨Nat.le_of_ble_eq_true rfl, Nat.le_of_ble_eq_true rfl⟩ ⟨Nat.le_of_ble_eq_true rfl, Nat.le_of_ble_eq_true rfl⟩ dX11_said_23 ?_
      refine zr_if_ne C 31 dX11_said_26 (by decide) (fun hc6 => ?_) (fun hc6 => ?_)
      · have hJ := zif' hc6 hJ
        refine zr_aload_n C 0 dX11_said_31 rfl ?_
        refine zg_11_53 C 105 zk_105 zm_8_16 dX11_said_32 ?_
        refine zr_iload_n C 1 dX11_said_35 rfl ?_
        obtain ⟨hg7, hJ⟩ := zg_e hJ
        refine zu_iald C 134 zk_134 hg7 dX11_said_36 ?_
        refine zr_iload_n C 2 dX11_said_37 rfl ?_
        refine zr_icmp_eq C 60 dX11_said_38 (by decide) (fun hc8 => ?_) (fun hc8 => ?_)
        · have hJ := zif hc8 hJ
          refine zr_iconst C dX11_said_60 (v := (0 : Int32)) (by decide) ?_
          refine zr_istore C [(6, .int (0 : Int32)), (0, .ref (G.1 + 105)), (1, .int a1), (2, .int a2), (3, .int a3), (4, .int a4), (5, .int a5)] dX11_said_61 (by decide) rfl ?_
          refine zr_bipush C dX11_said_63 (v := (-4 : Int32)) (by decide) ?_
          refine zr_istore C [(7, .int (-4 : Int32)), (6, .int (0 : Int32)), (0, .ref (G.1 + 105)), (1, .int a1), (2, .int a2), (3, .int a3), (4, .int a4), (5, .int a5)] dX11_said_65 (by decide) rfl ?_
          refine zr_iconst C dX11_said_67 (v := (0 : Int32)) (by decide) ?_
          refine zr_istore C [(8, .int (0 : Int32)), (7, .int (-4 : Int32)), (6, .int (0 : Int32)), (0, .ref (G.1 + 105)), (1, .int a1), (2, .int a2), (3, .int a3), (4, .int a4), (5, .int a5)] dX11_said_68 (by decide) rfl ?_
          refine zr_iconst C dX11_said_70 (v := (0 : Int32)) (by decide) ?_
          refine zr_istore C [(9, .int (0 : Int32)), (8, .int (0 : Int32)), (7, .int (-4 : Int32)), (6, .int (0 : Int32)), (0, .ref (G.1 + 105)), (1, .int a1), (2, .int a2), (3, .int a3), (4, .int a4), (5, .int a5)] dX11_said_71 (by decide) rfl ?_
          refine zr_iconst C dX11_said_73 (v := (0 : Int32)) (by decide) ?_
          refine zr_istore C [(10, .int (0 : Int32)), (9, .int (0 : Int32)), (8, .int (0 : Int32)), (7, .int (-4 : Int32)), (6, .int (0 : Int32)), (0, .ref (G.1 + 105)), (1, .int a1), (2, .int a2), (3, .int a3), (4, .int a4), (5, .int a5)] dX11_said_74 (by decide) rfl ?_
          obtain ⟨k246, hk246, hJ⟩ := zlet_e hJ
          have hj246 : ∀ (w6_246 : Int32) (w7_246 : Int32) (w8_246 : Int32) (w9_246 : Int32), k246 w6_246 w7_246 w8_246 w9_246 = some r → zU G 15 p l e (zrm 2 46) s m args below meth c (MQ below (va_Qi (fun x (_ : Unit) => x = r) (fun _ t => zok G 137 (zen G σ) t) (zA G)) args s 0 0 (zA G)) σ 246 [(5, .int a5), (6, .int w6_246), (7, .int w7_246), (8, .int w8_246), (9, .int w9_246)] [] := by
            intro w6_246 w7_246 w8_246 w9_246 hJ
            rw [hk246] at hJ
            unfold D_X11_said_246 at hJ
            refine zr_iload C 0 dX11_said_246 rfl ?_
            refine zr_if_ne C 256 dX11_said_248 (by decide) (fun hc9 => ?_) (fun hc9 => ?_)
            · have hJ := zif' hc9 hJ
              refine zr_iload C 0 dX11_said_256 rfl ?_
              refine zr_iconst C dX11_said_258 (v := (1 : Int32)) (by decide) ?_
              refine zr_icmp_ne C 267 dX11_said_259 (by decide) (fun hc10 => ?_) (fun hc10 => ?_)
              · have hJ := zif' hc10 hJ
                refine zr_iload C 0 dX11_said_267 rfl ?_
                refine zr_iconst C dX11_said_269 (v := (2 : Int32)) (by decide) ?_
                refine zr_icmp_ne C 278 dX11_said_270 (by decide) (fun hc11 => ?_) (fun hc11 => ?_)
                · have hJ := zif' hc11 hJ
                  refine zr_iload C 4 dX11_said_278 rfl ?_
                  exact zr_iret C hret (zs_e hJ) rfl rfl dX11_said_280
                · have hJ := zif hc11 hJ
                  refine zr_iload C 3 dX11_said_273 rfl ?_
                  refine zr_goto C 280 dX11_said_275 (by decide) ?_
                  exact zr_iret C hret (zs_e hJ) rfl rfl dX11_said_280
              · have hJ := zif hc10 hJ
                refine zr_iload C 2 dX11_said_262 rfl ?_
                refine zr_goto C 280 dX11_said_264 (by decide) ?_
                exact zr_iret C hret (zs_e hJ) rfl rfl dX11_said_280
            · have hJ := zif hc9 hJ
              refine zr_iload C 1 dX11_said_251 rfl ?_
              refine zr_goto C 280 dX11_said_253 (by decide) ?_
              exact zr_iret C hret (zs_e hJ) rfl rfl dX11_said_280
          have hl76 : ∀ (n : Nat) (w6_76 : Int32) (w7_76 : Int32) (w8_76 : Int32) (w9_76 : Int32) (w10_76 : Int32), L_X11_said_76 a1 a3 a4 σ k246 n w6_76 w7_76 w8_76 w9_76 w10_76 = some r → zU G 15 p l e (zrm 2 46) s m args below meth c (MQ below (va_Qi (fun x (_ : Unit) => x = r) (fun _ t => zok G 137 (zen G σ) t) (zA G)) args s 0 0 (zA G)) σ 76 [(0, .ref (G.1 + 105)), (1, .int a1), (3, .int a3), (4, .int a4), (5, .int a5), (6, .int w6_76), (7, .int w7_76), (8, .int w8_76), (9, .int w9_76), (10, .int w10_76)] [] := by
            intro n
            induction n with
            | zero =>
              intro w6_76 w7_76 w8_76 w9_76 w10_76 hJ
              rw [L_X11_said_76] at hJ
              cases hJ
            | succ n ih =>
              intro w6_76 w7_76 w8_76 w9_76 w10_76 hJ
              rw [L_X11_said_76] at hJ
              obtain ⟨r_76, hr_76, hJ⟩ := zlet_e hJ
              have ih76 : ∀ (w6_76 : Int32) (w7_76 : Int32) (w8_76 : Int32) (w9_76 : Int32) (w10_76 : Int32), r_76 w6_76 w7_76 w8_76 w9_76 w10_76 = some r → zU G 15 p l e (zrm 2 46) s m args below meth c (MQ below (va_Qi (fun x (_ : Unit) => x = r) (fun _ t => zok G 137 (zen G σ) t) (zA G)) args s 0 0 (zA G)) σ 76 [(0, .ref (G.1 + 105)), (1, .int a1), (3, .int a3), (4, .int a4), (5, .int a5), (6, .int w6_76), (7, .int w7_76), (8, .int w8_76), (9, .int w9_76), (10, .int w10_76)] [] := by
                rw [hr_76]
                exact ih
              refine zr_iload C 9 dX11_said_76 rfl ?_
              refine zr_aload_n C 0 dX11_said_78 rfl ?_
              refine zg_11_0 C 105 zk_105 zm_16_22 dX11_said_79 ?_
              refine zr_icmp_ge C 246 dX11_said_82 (by decide) (fun hc12 => ?_) (fun hc12 => ?_)
              · have hJ := zif hc12 hJ
                refine zr_sub [4, 5, 6, 7, 8] [(5, .int a5), (6, .int w6_76), (7, .int w7_76), (8, .int w8_76), (9, .int w9_76)] rfl ?_
                exact hj246 _ _ _ _ hJ
              · have hJ := zif' hc12 hJ
                refine zr_iload_n C 2 dX11_said_85 rfl ?_
                refine zr_i2l C dX11_said_86 ?_
                refine zr_iload C 9 dX11_said_87 rfl ?_
                refine zr_i2l C dX11_said_89 ?_
                refine zr_ladd C dX11_said_90 ?_
                obtain ⟨v13, hv13, hJ⟩ := zlet_e hJ
                refine zr_topl hv13 ?_
                refine zr_lstore C [(11, .long v13), (0, .ref (G.1 + 105)), (1, .int a1), (3, .int a3), (4, .int a4), (5, .int a5), (6, .int w6_76), (7, .int w7_76), (8, .int w8_76), (9, .int w9_76), (10, .int w10_76)] dX11_said_91 (by decide) rfl ?_
                refine zr_lload C 0 dX11_said_93 rfl ?_
                refine zr_lconst C dX11_said_95 (v := (0 : Int64)) (by decide) ?_
                refine zr_lcmp C dX11_said_96 ?_
                refine zr_if_lt C 113 dX11_said_97 (by decide) (fun hc14 => ?_) (fun hc14 => ?_)
                · have hJ := zif hc14 hJ
                  refine zr_bipush C dX11_said_113 (v := (-12 : Int32)) (by decide) ?_
                  exact zr_iret C hret (zs_e hJ) rfl rfl dX11_said_115
                · have hJ := zif' hc14 hJ
                  refine zr_lload C 0 dX11_said_100 rfl ?_
                  refine zr_aload_n C 1 dX11_said_102 rfl ?_
                  refine zg_11_54 C 105 zk_105 zm_8_17 dX11_said_103 ?_
                  refine zr_iload_n C 2 dX11_said_106 rfl ?_
                  obtain ⟨hg15, hJ⟩ := zg_e hJ
                  refine zu_iald C 135 zk_135 hg15 dX11_said_107 ?_
                  refine zr_i2l C dX11_said_108 ?_
                  refine zr_lcmp C dX11_said_109 ?_
                  refine zr_if_lt C 116 dX11_said_110 (by decide) (fun hc16 => ?_) (fun hc16 => ?_)
                  · have hJ := zif hc16 hJ
                    refine zr_aload_n C 1 dX11_said_116 rfl ?_
                    refine zg_11_55 C 105 zk_105 zm_8_18 dX11_said_117 ?_
                    refine zr_bipush C dX11_said_120 (v := (40 : Int32)) (by decide) ?_
                    refine zr_iload_n C 2 dX11_said_122 rfl ?_
                    refine zr_imul C dX11_said_123 ?_
                    refine zr_lload C 0 dX11_said_124 rfl ?_
                    refine zr_l2i C dX11_said_126 ?_
                    refine zr_iadd C dX11_said_127 ?_
                    obtain ⟨hg17, hJ⟩ := zg_e hJ
                    refine zu_iald C 136 zk_136 hg17 dX11_said_128 ?_
                    obtain ⟨v18, hv18, hJ⟩ := zlet_e hJ
                    refine zr_topi hv18 ?_
                    refine zr_istore C [(13, .int v18), (11, .long v13), (0, .ref (G.1 + 105)), (1, .int a1), (3, .int a3), (4, .int a4), (5, .int a5), (6, .int w6_76), (7, .int w7_76), (8, .int w8_76), (9, .int w9_76), (10, .int w10_76)] dX11_said_129 (by decide) rfl ?_
                    refine zr_iload C 0 dX11_said_131 rfl ?_
                    refine zr_i2l C dX11_said_133 ?_
                    refine zr_lconst C dX11_said_134 (v := (0 : Int64)) (by decide) ?_
                    refine zr_ldc2 C dX11_said_135 zm_26_1 ?_
                    obtain ⟨r19, hr19, hJ⟩ := zb_e hJ
                    refine zr_callSI C (M_X11_in G l hr19) zin_X11_in zm_9_22 rfl rfl (Nat.le_of_ble_eq_true rfl) ⟨Nat.le_of_ble_eq_true rfl, Nat.le_of_ble_eq_true rfl⟩ ⟨Nat.le_of_ble_eq_true rfl, Nat.le_of_ble_eq_true rfl⟩ dX11_said_138 ?_
                    refine zr_if_ne C 150 dX11_said_141 (by decide) (fun hc20 => ?_) (fun hc20 => ?_)
                    · have hJ := zif' hc20 hJ
                      refine zr_iload C 0 dX11_said_150 rfl ?_
                      refine zr_aload_n C 2 dX11_said_152 rfl ?_
                      refine zg_11_9 C 105 zk_105 zm_7_17 dX11_said_153 ?_
                      refine zr_iload C 11 dX11_said_156 rfl ?_
                      obtain ⟨hg21, hJ⟩ := zg_e hJ
                      refine zu_iald C 112 zk_112 hg21 dX11_said_158 ?_
                      refine zr_aload_n C 2 dX11_said_159 rfl ?_
                      refine zr_iload C 11 dX11_said_160 rfl ?_
                      refine zr_iload C 5 dX11_said_162 rfl ?_
                      obtain ⟨r22, hr22, hJ⟩ := zb_e hJ
                      refine zr_callVI C 105 (zk_lt zk_105 (by decide)) (zen_obj zk_105) (rfl : zcl[11]? = some (RX11, TX11, 56)) (M_X11_made G l hr22) zin_X11_made zm_21_9 rfl rfl (Nat.le_of_ble_eq_true rfl) ⟨Nat.le_of_ble_eq_true rfl, Nat.le_of_ble_eq_true rfl⟩ ⟨Nat.le_of_ble_eq_true rfl, Nat.le_of_ble_eq_true rfl⟩ dX11_said_164 ?_
                      refine zr_imul C dX11_said_167 ?_
                      refine zr_isub C dX11_said_168 ?_
                      obtain ⟨v23, hv23, hJ⟩ := zlet_e hJ
                      refine zr_topi hv23 ?_
                      refine zr_istore C [(14, .int v23), (13, .int v18), (11, .long v13), (0, .ref (G.1 + 105)), (1, .int a1), (3, .int a3), (4, .int a4), (5, .int a5), (6, .int w6_76), (7, .int w7_76), (8, .int w8_76), (9, .int w9_76), (10, .int w10_76)] dX11_said_169 (by decide) rfl ?_
                      refine zr_iload C 8 dX11_said_171 rfl ?_
                      refine zr_iload C 0 dX11_said_173 rfl ?_
                      obtain ⟨v24, hv24, hJ⟩ := zlet_e hJ
                      have hf39 : zU G 15 p l e (zrm 2 46) s m args below meth c (MQ below (va_Qi (fun x (_ : Unit) => x = r) (fun _ t => zok G 137 (zen G σ) t) (zA G)) args s 0 0 (zA G)) σ 183 [(0, .ref (G.1 + 105)), (1, .int a1), (3, .int a3), (4, .int a4), (5, .int a5), (7, .int w7_76), (8, .int w8_76), (9, .int w9_76), (10, .int w10_76), (14, .int v23)] [.int v24, .int w6_76] := by
                        refine zr_iadd C dX11_said_183 ?_
                        obtain ⟨v25, hv25, hJ⟩ := zlet_e hJ
                        refine zr_topi hv25 ?_
                        refine zr_istore C [(6, .int v25), (0, .ref (G.1 + 105)), (1, .int a1), (3, .int a3), (4, .int a4), (5, .int a5), (7, .int w7_76), (8, .int w8_76), (9, .int w9_76), (10, .int w10_76), (14, .int v23)] dX11_said_184 (by decide) rfl ?_
                        refine zr_iload C 10 dX11_said_186 rfl ?_
                        obtain ⟨v26, hv26, hJ⟩ := zlet_e hJ
                        have hf36 : zU G 15 p l e (zrm 2 46) s m args below meth c (MQ below (va_Qi (fun x (_ : Unit) => x = r) (fun _ t => zok G 137 (zen G σ) t) (zA G)) args s 0 0 (zA G)) σ 205 [(0, .ref (G.1 + 105)), (1, .int a1), (3, .int a3), (4, .int a4), (5, .int a5), (6, .int v25), (8, .int w8_76), (9, .int w9_76), (10, .int w10_76), (14, .int v23)] [.int v26] := by
                          refine zr_istore C [(7, .int v26), (0, .ref (G.1 + 105)), (1, .int a1), (3, .int a3), (4, .int a4), (5, .int a5), (6, .int v25), (8, .int w8_76), (9, .int w9_76), (10, .int w10_76), (14, .int v23)] dX11_said_205 (by decide) rfl ?_
                          refine zr_iload C 7 dX11_said_207 rfl ?_
                          refine zr_iload C 10 dX11_said_209 rfl ?_
                          obtain ⟨v27, hv27, hJ⟩ := zlet_e hJ
                          have hf34 : zU G 15 p l e (zrm 2 46) s m args below meth c (MQ below (va_Qi (fun x (_ : Unit) => x = r) (fun _ t => zok G 137 (zen G σ) t) (zA G)) args s 0 0 (zA G)) σ 220 [(0, .ref (G.1 + 105)), (1, .int a1), (3, .int a3), (4, .int a4), (5, .int a5), (6, .int v25), (7, .int v26), (9, .int w9_76), (10, .int w10_76), (14, .int v23)] [.int v27, .int w8_76] := by
                            refine zr_iadd C dX11_said_220 ?_
                            obtain ⟨v28, hv28, hJ⟩ := zlet_e hJ
                            refine zr_topi hv28 ?_
                            refine zr_istore C [(8, .int v28), (0, .ref (G.1 + 105)), (1, .int a1), (3, .int a3), (4, .int a4), (5, .int a5), (6, .int v25), (7, .int v26), (9, .int w9_76), (10, .int w10_76), (14, .int v23)] dX11_said_221 (by decide) rfl ?_
                            refine zr_iload C 8 dX11_said_223 rfl ?_
                            refine zr_iload C 10 dX11_said_225 rfl ?_
                            obtain ⟨v29, hv29, hJ⟩ := zlet_e hJ
                            have hf32 : zU G 15 p l e (zrm 2 46) s m args below meth c (MQ below (va_Qi (fun x (_ : Unit) => x = r) (fun _ t => zok G 137 (zen G σ) t) (zA G)) args s 0 0 (zA G)) σ 237 [(0, .ref (G.1 + 105)), (1, .int a1), (3, .int a3), (4, .int a4), (5, .int a5), (6, .int v25), (7, .int v26), (8, .int v28), (10, .int w10_76)] [.int v29, .int w9_76] := by
                              refine zr_iadd C dX11_said_237 ?_
                              obtain ⟨v30, hv30, hJ⟩ := zlet_e hJ
                              refine zr_topi hv30 ?_
                              refine zr_istore C [(9, .int v30), (0, .ref (G.1 + 105)), (1, .int a1), (3, .int a3), (4, .int a4), (5, .int a5), (6, .int v25), (7, .int v26), (8, .int v28), (10, .int w10_76)] dX11_said_238 (by decide) rfl ?_
                              obtain ⟨v31, hv31, hJ⟩ := zlet_e hJ
                              refine zr_iinc C v31 9 [(10, .int v31), (9, .int v30), (0, .ref (G.1 + 105)), (1, .int a1), (3, .int a3), (4, .int a4), (5, .int a5), (6, .int v25), (7, .int v26), (8, .int v28)] dX11_said_240 rfl (hv31.trans (zinc (by decide))) (by decide) rfl ?_
                              refine zr_goto C 76 dX11_said_243 (by decide) ?_
                              refine zr_sub [2, 3, 4, 5, 6, 7, 8, 9, 1, 0] [(0, .ref (G.1 + 105)), (1, .int a1), (3, .int a3), (4, .int a4), (5, .int a5), (6, .int v25), (7, .int v26), (8, .int v28), (9, .int v30), (10, .int v31)] rfl ?_
                              exact ih76 _ _ _ _ _ hJ
                            refine zr_if_ge C 236 dX11_said_227 (by decide) (fun hc33 => ?_) (fun hc33 => ?_)
                            · have hv29 := hv29.trans (if_pos hc33)
                              refine zr_iconst C dX11_said_236 (v := (0 : Int32)) (by decide) ?_
                              refine zr_sub [1, 2, 3, 4, 5, 6, 7, 0, 9] [(0, .ref (G.1 + 105)), (1, .int a1), (3, .int a3), (4, .int a4), (5, .int a5), (6, .int v25), (7, .int v26), (8, .int v28), (10, .int w10_76)] rfl ?_
                              rw [hv29] at hf32
                              exact hf32
                            · have hv29 := hv29.trans (if_neg hc33)
                              refine zr_iload C 10 dX11_said_230 rfl ?_
                              refine zr_ineg C dX11_said_232 ?_
                              refine zr_goto C 237 dX11_said_233 (by decide) ?_
                              refine zr_sub [1, 2, 3, 4, 5, 6, 7, 0, 9] [(0, .ref (G.1 + 105)), (1, .int a1), (3, .int a3), (4, .int a4), (5, .int a5), (6, .int v25), (7, .int v26), (8, .int v28), (10, .int w10_76)] rfl ?_
                              rw [hv29] at hf32
                              exact hf32
                          refine zr_if_le C 219 dX11_said_211 (by decide) (fun hc35 => ?_) (fun hc35 => ?_)
                          · have hv27 := hv27.trans (if_pos hc35)
                            refine zr_iconst C dX11_said_219 (v := (0 : Int32)) (by decide) ?_
                            refine zr_sub [1, 2, 3, 4, 5, 6, 0, 8, 9, 10] [(0, .ref (G.1 + 105)), (1, .int a1), (3, .int a3), (4, .int a4), (5, .int a5), (6, .int v25), (7, .int v26), (9, .int w9_76), (10, .int w10_76), (14, .int v23)] rfl ?_
                            rw [hv27] at hf34
                            exact hf34
                          · have hv27 := hv27.trans (if_neg hc35)
                            refine zr_iload C 10 dX11_said_214 rfl ?_
                            refine zr_goto C 220 dX11_said_216 (by decide) ?_
                            refine zr_sub [1, 2, 3, 4, 5, 6, 0, 8, 9, 10] [(0, .ref (G.1 + 105)), (1, .int a1), (3, .int a3), (4, .int a4), (5, .int a5), (6, .int v25), (7, .int v26), (9, .int w9_76), (10, .int w10_76), (14, .int v23)] rfl ?_
                            rw [hv27] at hf34
                            exact hf34
                        refine zr_if_eq C 203 dX11_said_188 (by decide) (fun hc37 => ?_) (fun hc37 => ?_)
                        · have hv26 := hv26.trans (if_pos hc37)
                          refine zr_iload C 6 dX11_said_203 rfl ?_
                          refine zr_sub [1, 2, 3, 4, 5, 0, 7, 8, 9, 10] [(0, .ref (G.1 + 105)), (1, .int a1), (3, .int a3), (4, .int a4), (5, .int a5), (6, .int v25), (8, .int w8_76), (9, .int w9_76), (10, .int w10_76), (14, .int v23)] rfl ?_
                          rw [hv26] at hf36
                          exact hf36
                        · have hv26 := hv26.trans (if_neg hc37)
                          refine zr_iload C 6 dX11_said_191 rfl ?_
                          refine zr_bipush C dX11_said_193 (v := (-4 : Int32)) (by decide) ?_
                          refine zr_icmp_ne C 203 dX11_said_195 (by decide) (fun hc38 => ?_) (fun hc38 => ?_)
                          · have hv26 := hv26.trans (if_neg hc38)
                            refine zr_iload C 6 dX11_said_203 rfl ?_
                            refine zr_sub [1, 2, 3, 4, 5, 0, 7, 8, 9, 10] [(0, .ref (G.1 + 105)), (1, .int a1), (3, .int a3), (4, .int a4), (5, .int a5), (6, .int v25), (8, .int w8_76), (9, .int w9_76), (10, .int w10_76), (14, .int v23)] rfl ?_
                            rw [hv26] at hf36
                            exact hf36
                          · have hv26 := hv26.trans (if_pos hc38)
                            refine zr_iload C 9 dX11_said_198 rfl ?_
                            refine zr_goto C 205 dX11_said_200 (by decide) ?_
                            refine zr_sub [1, 2, 3, 4, 5, 0, 7, 8, 9, 10] [(0, .ref (G.1 + 105)), (1, .int a1), (3, .int a3), (4, .int a4), (5, .int a5), (6, .int v25), (8, .int w8_76), (9, .int w9_76), (10, .int w10_76), (14, .int v23)] rfl ?_
                            rw [hv26] at hf36
                            exact hf36
                      refine zr_if_ne C 182 dX11_said_175 (by decide) (fun hc40 => ?_) (fun hc40 => ?_)
                      · have hv24 := hv24.trans (if_neg hc40)
                        refine zr_iconst C dX11_said_182 (v := (0 : Int32)) (by decide) ?_
                        refine zr_sub [3, 4, 5, 6, 7, 9, 10, 11, 12, 0] [(0, .ref (G.1 + 105)), (1, .int a1), (3, .int a3), (4, .int a4), (5, .int a5), (7, .int w7_76), (8, .int w8_76), (9, .int w9_76), (10, .int w10_76), (14, .int v23)] rfl ?_
                        rw [hv24] at hf39
                        exact hf39
                      · have hv24 := hv24.trans (if_pos hc40)
                        refine zr_iconst C dX11_said_178 (v := (1 : Int32)) (by decide) ?_
                        refine zr_goto C 183 dX11_said_179 (by decide) ?_
                        refine zr_sub [3, 4, 5, 6, 7, 9, 10, 11, 12, 0] [(0, .ref (G.1 + 105)), (1, .int a1), (3, .int a3), (4, .int a4), (5, .int a5), (7, .int w7_76), (8, .int w8_76), (9, .int w9_76), (10, .int w10_76), (14, .int v23)] rfl ?_
                        rw [hv24] at hf39
                        exact hf39
                    · have hJ := zif hc20 hJ
                      refine zr_bipush C dX11_said_144 (v := (-20 : Int32)) (by decide) ?_
                      refine zr_iload C 11 dX11_said_146 rfl ?_
                      refine zr_isub C dX11_said_148 ?_
                      exact zr_iret C hret (zs_e hJ) rfl rfl dX11_said_149
                  · have hJ := zif' hc16 hJ
                    refine zr_bipush C dX11_said_113 (v := (-12 : Int32)) (by decide) ?_
                    exact zr_iret C hret (zs_e hJ) rfl rfl dX11_said_115
          refine zr_sub [5, 6, 8, 9, 10, 4, 3, 2, 1, 0] [(0, .ref (G.1 + 105)), (1, .int a1), (3, .int a3), (4, .int a4), (5, .int a5), (6, .int (0 : Int32)), (7, .int (-4 : Int32)), (8, .int (0 : Int32)), (9, .int (0 : Int32)), (10, .int (0 : Int32))] rfl ?_
          exact hl76 _ _ _ _ _ _ hJ
        · have hJ := zif' hc8 hJ
          refine zr_aload_n C 0 dX11_said_41 rfl ?_
          refine zg_11_53 C 105 zk_105 zm_8_16 dX11_said_42 ?_
          refine zr_iload_n C 1 dX11_said_45 rfl ?_
          obtain ⟨hg41, hJ⟩ := zg_e hJ
          refine zu_iald C 134 zk_134 hg41 dX11_said_46 ?_
          refine zr_bipush C dX11_said_47 (v := (-4 : Int32)) (by decide) ?_
          refine zr_icmp_ne C 57 dX11_said_49 (by decide) (fun hc42 => ?_) (fun hc42 => ?_)
          · have hJ := zif' hc42 hJ
            refine zr_bipush C dX11_said_57 (v := (-13 : Int32)) (by decide) ?_
            exact zr_iret C hret (zs_e hJ) rfl rfl dX11_said_59
          · have hJ := zif hc42 hJ
            refine zr_bipush C dX11_said_52 (v := (-11 : Int32)) (by decide) ?_
            refine zr_goto C 59 dX11_said_54 (by decide) ?_
            exact zr_iret C hret (zs_e hJ) rfl rfl dX11_said_59
      · have hJ := zif hc6 hJ
        refine zr_iconst C dX11_said_29 (v := (-1 : Int32)) (by decide) ?_
        exact zr_iret C hret (zs_e hJ) rfl rfl dX11_said_30
theorem dX11_samples_0 : decode cX11_samples 0 = .ok (.iload_n 1, 1) := by decide +kernel
theorem dX11_samples_1 : decode cX11_samples 1 = .ok (.iload_n 2, 1) := by decide +kernel
theorem dX11_samples_2 : decode cX11_samples 2 = .ok (.iload_n 3, 1) := by decide +kernel
theorem dX11_samples_3 : decode cX11_samples 3 = .ok (.iload 4, 2) := by decide +kernel
theorem dX11_samples_5 : decode cX11_samples 5 = .ok (.invokestatic 335, 3) := by decide +kernel
theorem dX11_samples_8 : decode cX11_samples 8 = .ok (.ifCond .eq 16, 3) := by decide +kernel
theorem dX11_samples_11 : decode cX11_samples 11 = .ok (.iload 5, 2) := by decide +kernel
theorem dX11_samples_13 : decode cX11_samples 13 = .ok (.i2l, 1) := by decide +kernel
theorem dX11_samples_14 : decode cX11_samples 14 = .ok (.lconst 0, 1) := by decide +kernel
theorem dX11_samples_15 : decode cX11_samples 15 = .ok (.ldc2_w 343, 3) := by decide +kernel
theorem dX11_samples_18 : decode cX11_samples 18 = .ok (.invokestatic 124, 3) := by decide +kernel
theorem dX11_samples_21 : decode cX11_samples 21 = .ok (.ifCond .ne 5, 3) := by decide +kernel
theorem dX11_samples_24 : decode cX11_samples 24 = .ok (.iconst (-1), 1) := by decide +kernel
theorem dX11_samples_25 : decode cX11_samples 25 = .ok (.ireturn, 1) := by decide +kernel
theorem dX11_samples_26 : decode cX11_samples 26 = .ok (.aload_n 0, 1) := by decide +kernel
theorem dX11_samples_27 : decode cX11_samples 27 = .ok (.iload_n 1, 1) := by decide +kernel
theorem dX11_samples_28 : decode cX11_samples 28 = .ok (.iload_n 2, 1) := by decide +kernel
theorem dX11_samples_29 : decode cX11_samples 29 = .ok (.iload_n 3, 1) := by decide +kernel
theorem dX11_samples_30 : decode cX11_samples 30 = .ok (.iload 4, 2) := by decide +kernel
theorem dX11_samples_32 : decode cX11_samples 32 = .ok (.invokevirtual 339, 3) := by decide +kernel
theorem dX11_samples_35 : decode cX11_samples 35 = .ok (.iconst 0, 1) := by decide +kernel
theorem dX11_samples_36 : decode cX11_samples 36 = .ok (.istore 6, 2) := by decide +kernel
theorem dX11_samples_38 : decode cX11_samples 38 = .ok (.iconst 0, 1) := by decide +kernel
theorem dX11_samples_39 : decode cX11_samples 39 = .ok (.istore 7, 2) := by decide +kernel
theorem dX11_samples_41 : decode cX11_samples 41 = .ok (.iconst 0, 1) := by decide +kernel
theorem dX11_samples_42 : decode cX11_samples 42 = .ok (.istore 8, 2) := by decide +kernel
theorem dX11_samples_44 : decode cX11_samples 44 = .ok (.bipush (-4), 2) := by decide +kernel
theorem dX11_samples_46 : decode cX11_samples 46 = .ok (.istore 9, 2) := by decide +kernel
theorem dX11_samples_48 : decode cX11_samples 48 = .ok (.iconst 0, 1) := by decide +kernel
theorem dX11_samples_49 : decode cX11_samples 49 = .ok (.istore 10, 2) := by decide +kernel
theorem dX11_samples_51 : decode cX11_samples 51 = .ok (.iload 10, 2) := by decide +kernel
theorem dX11_samples_53 : decode cX11_samples 53 = .ok (.aload_n 0, 1) := by decide +kernel
theorem dX11_samples_54 : decode cX11_samples 54 = .ok (.getfield 203, 3) := by decide +kernel
theorem dX11_samples_57 : decode cX11_samples 57 = .ok (.if_icmp .ge 141, 3) := by decide +kernel
theorem dX11_samples_60 : decode cX11_samples 60 = .ok (.iload 6, 2) := by decide +kernel
theorem dX11_samples_62 : decode cX11_samples 62 = .ok (.aload_n 0, 1) := by decide +kernel
theorem dX11_samples_63 : decode cX11_samples 63 = .ok (.getfield 87, 3) := by decide +kernel
theorem dX11_samples_66 : decode cX11_samples 66 = .ok (.iload 10, 2) := by decide +kernel
theorem dX11_samples_68 : decode cX11_samples 68 = .ok (.iaload, 1) := by decide +kernel
theorem dX11_samples_69 : decode cX11_samples 69 = .ok (.ifCond .le 10, 3) := by decide +kernel
theorem dX11_samples_72 : decode cX11_samples 72 = .ok (.iconst 1, 1) := by decide +kernel
theorem dX11_samples_73 : decode cX11_samples 73 = .ok (.iload 10, 2) := by decide +kernel
theorem dX11_samples_75 : decode cX11_samples 75 = .ok (.ishl, 1) := by decide +kernel
theorem dX11_samples_76 : decode cX11_samples 76 = .ok (.goto 4, 3) := by decide +kernel
theorem dX11_samples_79 : decode cX11_samples 79 = .ok (.iconst 0, 1) := by decide +kernel
theorem dX11_samples_80 : decode cX11_samples 80 = .ok (.ior, 1) := by decide +kernel
theorem dX11_samples_81 : decode cX11_samples 81 = .ok (.istore 6, 2) := by decide +kernel
theorem dX11_samples_83 : decode cX11_samples 83 = .ok (.iload 7, 2) := by decide +kernel
theorem dX11_samples_85 : decode cX11_samples 85 = .ok (.aload_n 0, 1) := by decide +kernel
theorem dX11_samples_86 : decode cX11_samples 86 = .ok (.getfield 87, 3) := by decide +kernel
theorem dX11_samples_89 : decode cX11_samples 89 = .ok (.iload 10, 2) := by decide +kernel
theorem dX11_samples_91 : decode cX11_samples 91 = .ok (.iaload, 1) := by decide +kernel
theorem dX11_samples_92 : decode cX11_samples 92 = .ok (.ifCond .ne 20, 3) := by decide +kernel
theorem dX11_samples_95 : decode cX11_samples 95 = .ok (.aload_n 0, 1) := by decide +kernel
theorem dX11_samples_96 : decode cX11_samples 96 = .ok (.iload 10, 2) := by decide +kernel
theorem dX11_samples_98 : decode cX11_samples 98 = .ok (.iload_n 1, 1) := by decide +kernel
theorem dX11_samples_99 : decode cX11_samples 99 = .ok (.invokevirtual 251, 3) := by decide +kernel
theorem dX11_samples_102 : decode cX11_samples 102 = .ok (.ifCond .le 10, 3) := by decide +kernel
theorem dX11_samples_105 : decode cX11_samples 105 = .ok (.iconst 1, 1) := by decide +kernel
theorem dX11_samples_106 : decode cX11_samples 106 = .ok (.iload 10, 2) := by decide +kernel
theorem dX11_samples_108 : decode cX11_samples 108 = .ok (.ishl, 1) := by decide +kernel
theorem dX11_samples_109 : decode cX11_samples 109 = .ok (.goto 4, 3) := by decide +kernel
theorem dX11_samples_112 : decode cX11_samples 112 = .ok (.iconst 0, 1) := by decide +kernel
theorem dX11_samples_113 : decode cX11_samples 113 = .ok (.ior, 1) := by decide +kernel
theorem dX11_samples_114 : decode cX11_samples 114 = .ok (.istore 7, 2) := by decide +kernel
theorem dX11_samples_116 : decode cX11_samples 116 = .ok (.iload 8, 2) := by decide +kernel
theorem dX11_samples_118 : decode cX11_samples 118 = .ok (.aload_n 0, 1) := by decide +kernel
theorem dX11_samples_119 : decode cX11_samples 119 = .ok (.getfield 87, 3) := by decide +kernel
theorem dX11_samples_122 : decode cX11_samples 122 = .ok (.iload 10, 2) := by decide +kernel
theorem dX11_samples_124 : decode cX11_samples 124 = .ok (.iaload, 1) := by decide +kernel
theorem dX11_samples_125 : decode cX11_samples 125 = .ok (.ifCond .le 20, 3) := by decide +kernel
theorem dX11_samples_128 : decode cX11_samples 128 = .ok (.aload_n 0, 1) := by decide +kernel
theorem dX11_samples_129 : decode cX11_samples 129 = .ok (.iload 10, 2) := by decide +kernel
theorem dX11_samples_131 : decode cX11_samples 131 = .ok (.iload_n 1, 1) := by decide +kernel
theorem dX11_samples_132 : decode cX11_samples 132 = .ok (.invokevirtual 251, 3) := by decide +kernel
theorem dX11_samples_135 : decode cX11_samples 135 = .ok (.ifCond .ne 10, 3) := by decide +kernel
theorem dX11_samples_138 : decode cX11_samples 138 = .ok (.iconst 1, 1) := by decide +kernel
theorem dX11_samples_139 : decode cX11_samples 139 = .ok (.iload 10, 2) := by decide +kernel
theorem dX11_samples_141 : decode cX11_samples 141 = .ok (.ishl, 1) := by decide +kernel
theorem dX11_samples_142 : decode cX11_samples 142 = .ok (.goto 4, 3) := by decide +kernel
theorem dX11_samples_145 : decode cX11_samples 145 = .ok (.iconst 0, 1) := by decide +kernel
theorem dX11_samples_146 : decode cX11_samples 146 = .ok (.ior, 1) := by decide +kernel
theorem dX11_samples_147 : decode cX11_samples 147 = .ok (.istore 8, 2) := by decide +kernel
theorem dX11_samples_149 : decode cX11_samples 149 = .ok (.aload_n 0, 1) := by decide +kernel
theorem dX11_samples_150 : decode cX11_samples 150 = .ok (.getfield 87, 3) := by decide +kernel
theorem dX11_samples_153 : decode cX11_samples 153 = .ok (.iload 10, 2) := by decide +kernel
theorem dX11_samples_155 : decode cX11_samples 155 = .ok (.iaload, 1) := by decide +kernel
theorem dX11_samples_156 : decode cX11_samples 156 = .ok (.ifCond .le 32, 3) := by decide +kernel
theorem dX11_samples_159 : decode cX11_samples 159 = .ok (.iload 9, 2) := by decide +kernel
theorem dX11_samples_161 : decode cX11_samples 161 = .ok (.bipush (-4), 2) := by decide +kernel
theorem dX11_samples_163 : decode cX11_samples 163 = .ok (.if_icmp .eq 20, 3) := by decide +kernel
theorem dX11_samples_166 : decode cX11_samples 166 = .ok (.aload_n 0, 1) := by decide +kernel
theorem dX11_samples_167 : decode cX11_samples 167 = .ok (.getfield 87, 3) := by decide +kernel
theorem dX11_samples_170 : decode cX11_samples 170 = .ok (.iload 10, 2) := by decide +kernel
theorem dX11_samples_172 : decode cX11_samples 172 = .ok (.iaload, 1) := by decide +kernel
theorem dX11_samples_173 : decode cX11_samples 173 = .ok (.aload_n 0, 1) := by decide +kernel
theorem dX11_samples_174 : decode cX11_samples 174 = .ok (.getfield 87, 3) := by decide +kernel
theorem dX11_samples_177 : decode cX11_samples 177 = .ok (.iload 9, 2) := by decide +kernel
theorem dX11_samples_179 : decode cX11_samples 179 = .ok (.iaload, 1) := by decide +kernel
theorem dX11_samples_180 : decode cX11_samples 180 = .ok (.if_icmp .le 8, 3) := by decide +kernel
theorem dX11_samples_183 : decode cX11_samples 183 = .ok (.iload 10, 2) := by decide +kernel
theorem dX11_samples_185 : decode cX11_samples 185 = .ok (.goto 5, 3) := by decide +kernel
theorem dX11_samples_188 : decode cX11_samples 188 = .ok (.iload 9, 2) := by decide +kernel
theorem dX11_samples_190 : decode cX11_samples 190 = .ok (.istore 9, 2) := by decide +kernel
theorem dX11_samples_192 : decode cX11_samples 192 = .ok (.iinc 10 1, 3) := by decide +kernel
theorem dX11_samples_195 : decode cX11_samples 195 = .ok (.goto (-144), 3) := by decide +kernel
theorem dX11_samples_198 : decode cX11_samples 198 = .ok (.iload 5, 2) := by decide +kernel
theorem dX11_samples_200 : decode cX11_samples 200 = .ok (.tableswitch 55 0 4 #[36, 41, 46, 49, 52], 36) := by decide +kernel
theorem dX11_samples_236 : decode cX11_samples 236 = .ok (.aload_n 0, 1) := by decide +kernel
theorem dX11_samples_237 : decode cX11_samples 237 = .ok (.getfield 325, 3) := by decide +kernel
theorem dX11_samples_240 : decode cX11_samples 240 = .ok (.ireturn, 1) := by decide +kernel
theorem dX11_samples_241 : decode cX11_samples 241 = .ok (.aload_n 0, 1) := by decide +kernel
theorem dX11_samples_242 : decode cX11_samples 242 = .ok (.getfield 328, 3) := by decide +kernel
theorem dX11_samples_245 : decode cX11_samples 245 = .ok (.ireturn, 1) := by decide +kernel
theorem dX11_samples_246 : decode cX11_samples 246 = .ok (.iload 6, 2) := by decide +kernel
theorem dX11_samples_248 : decode cX11_samples 248 = .ok (.ireturn, 1) := by decide +kernel
theorem dX11_samples_249 : decode cX11_samples 249 = .ok (.iload 7, 2) := by decide +kernel
theorem dX11_samples_251 : decode cX11_samples 251 = .ok (.ireturn, 1) := by decide +kernel
theorem dX11_samples_252 : decode cX11_samples 252 = .ok (.iload 8, 2) := by decide +kernel
theorem dX11_samples_254 : decode cX11_samples 254 = .ok (.ireturn, 1) := by decide +kernel
theorem dX11_samples_255 : decode cX11_samples 255 = .ok (.iload 9, 2) := by decide +kernel
theorem dX11_samples_257 : decode cX11_samples 257 = .ok (.ireturn, 1) := by decide +kernel
set_option maxRecDepth 100000 in
set_option maxHeartbeats 4000000 in
theorem M_X11_samples (G : zG) (l : Launch) {a1 : Int32} {a2 : Int32} {a3 : Int32} {a4 : Int32} {a5 : Int32} {σ : zS} {r : Int32} {σ' : zS} (hJ : J_X11_samples a1 a2 a3 a4 a5 σ = some (r, σ')) : zMI G l yX11_samples cX11_samples 11 (some .int) (zrm 3 68) [.ref (G.1 + 105), .int a1, .int a2, .int a3, .int a4, .int a5] 137 (zen G σ) r 137 (zen G σ') := by
  unfold J_X11_samples at hJ
  refine zentI (by decide +kernel) (Nat.le_of_ble_eq_true rfl) ?_
  intro p e s m args below meth c C hret
  refine zr_sub [0, 1, 2, 3, 4, 5] [(0, .ref (G.1 + 105)), (1, .int a1), (2, .int a2), (3, .int a3), (4, .int a4), (5, .int a5)] rfl ?_
  refine zr_iload_n C 1 dX11_samples_0 rfl ?_
  refine zr_iload_n C 2 dX11_samples_1 rfl ?_
  refine zr_iload_n C 3 dX11_samples_2 rfl ?_
  refine zr_iload C 4 dX11_samples_3 rfl ?_
  obtain ⟨r1, hr1, hJ⟩ := zb_e hJ
  refine zr_callSI C (M_X11_isSampling G l hr1) zin_X11_isSampling zm_38_7 rfl rfl (Nat.le_of_ble_eq_true rfl) ⟨Nat.le_of_ble_eq_true rfl, Nat.le_of_ble_eq_true rfl⟩ ⟨Nat.le_of_ble_eq_true rfl, Nat.le_of_ble_eq_true rfl⟩ dX11_samples_5 ?_
  refine zr_if_eq C 24 dX11_samples_8 (by decide) (fun hc2 => ?_) (fun hc2 => ?_)
  · have hJ := zif hc2 hJ
    refine zr_iconst C dX11_samples_24 (v := (-1 : Int32)) (by decide) ?_
    exact zr_iret C hret (Prod.mk.inj (zs_e hJ)).1 rfl (congrArg (zen G) (Prod.mk.inj (zs_e hJ)).2) dX11_samples_25
  · have hJ := zif' hc2 hJ
    refine zr_iload C 5 dX11_samples_11 rfl ?_
    refine zr_i2l C dX11_samples_13 ?_
    refine zr_lconst C dX11_samples_14 (v := (0 : Int64)) (by decide) ?_
    refine zr_ldc2 C dX11_samples_15 zm_39_16 ?_
    obtain ⟨r3, hr3, hJ⟩ := zb_e hJ
    refine zr_callSI C (M_X11_in G l hr3) zin_X11_in zm_9_22 rfl rfl (Nat.le_of_ble_eq_true rfl) ⟨Nat.le_of_ble_eq_true rfl, Nat.le_of_ble_eq_true rfl⟩ ⟨Nat.le_of_ble_eq_true rfl, Nat.le_of_ble_eq_true rfl⟩ dX11_samples_18 ?_
    refine zr_if_ne C 26 dX11_samples_21 (by decide) (fun hc4 => ?_) (fun hc4 => ?_)
    · have hJ := zif' hc4 hJ
      refine zr_aload_n C 0 dX11_samples_26 rfl ?_
      refine zr_iload_n C 1 dX11_samples_27 rfl ?_
      refine zr_iload_n C 2 dX11_samples_28 rfl ?_
      refine zr_iload_n C 3 dX11_samples_29 rfl ?_
      refine zr_iload C 4 dX11_samples_30 rfl ?_
      obtain ⟨σ6, hr5, hJ⟩ := zb_e hJ
      refine zr_callVV C 105 (zk_lt zk_105 (by decide)) (zen_obj zk_105) (rfl : zcl[11]? = some (RX11, TX11, 56)) (M_X11_findSamples G l hr5) zin_X11_findSamples zm_38_12 rfl rfl (Nat.le_of_ble_eq_true rfl) ⟨Nat.le_of_ble_eq_true rfl, Nat.le_of_ble_eq_true rfl⟩ ⟨Nat.le_of_ble_eq_true rfl, Nat.le_of_ble_eq_true rfl⟩ dX11_samples_32 ?_
      refine zr_iconst C dX11_samples_35 (v := (0 : Int32)) (by decide) ?_
      refine zr_istore C [(6, .int (0 : Int32)), (0, .ref (G.1 + 105)), (1, .int a1), (2, .int a2), (3, .int a3), (4, .int a4), (5, .int a5)] dX11_samples_36 (by decide) rfl ?_
      refine zr_iconst C dX11_samples_38 (v := (0 : Int32)) (by decide) ?_
      refine zr_istore C [(7, .int (0 : Int32)), (6, .int (0 : Int32)), (0, .ref (G.1 + 105)), (1, .int a1), (2, .int a2), (3, .int a3), (4, .int a4), (5, .int a5)] dX11_samples_39 (by decide) rfl ?_
      refine zr_iconst C dX11_samples_41 (v := (0 : Int32)) (by decide) ?_
      refine zr_istore C [(8, .int (0 : Int32)), (7, .int (0 : Int32)), (6, .int (0 : Int32)), (0, .ref (G.1 + 105)), (1, .int a1), (2, .int a2), (3, .int a3), (4, .int a4), (5, .int a5)] dX11_samples_42 (by decide) rfl ?_
      refine zr_bipush C dX11_samples_44 (v := (-4 : Int32)) (by decide) ?_
      refine zr_istore C [(9, .int (-4 : Int32)), (8, .int (0 : Int32)), (7, .int (0 : Int32)), (6, .int (0 : Int32)), (0, .ref (G.1 + 105)), (1, .int a1), (2, .int a2), (3, .int a3), (4, .int a4), (5, .int a5)] dX11_samples_46 (by decide) rfl ?_
      refine zr_iconst C dX11_samples_48 (v := (0 : Int32)) (by decide) ?_
      refine zr_istore C [(10, .int (0 : Int32)), (9, .int (-4 : Int32)), (8, .int (0 : Int32)), (7, .int (0 : Int32)), (6, .int (0 : Int32)), (0, .ref (G.1 + 105)), (1, .int a1), (2, .int a2), (3, .int a3), (4, .int a4), (5, .int a5)] dX11_samples_49 (by decide) rfl ?_
      obtain ⟨k198, hk198, hJ⟩ := zlet_e hJ
      have hj198 : ∀ (w6_198 : Int32) (w7_198 : Int32) (w8_198 : Int32) (w9_198 : Int32), k198 w6_198 w7_198 w8_198 w9_198 = some (r, σ') → zU G 11 p l e (zrm 3 68) s m args below meth c (MQ below (va_Qi (fun x (_ : Unit) => x = r) (fun _ t => zok G 137 (zen G σ') t) (zA G)) args s 0 0 (zA G)) σ6 198 [(0, .ref (G.1 + 105)), (5, .int a5), (6, .int w6_198), (7, .int w7_198), (8, .int w8_198), (9, .int w9_198)] [] := by
        intro w6_198 w7_198 w8_198 w9_198 hJ
        rw [hk198] at hJ
        unfold D_X11_samples_198 at hJ
        refine zr_iload C 1 dX11_samples_198 rfl ?_
        by_cases hs7 : a5 = (0 : Int32)
        · have hJ := zif hs7 hJ
          refine zr_tin C 236 dX11_samples_200 (by rw [hs7]; decide) (by rw [hs7]; decide) (by rw [hs7]; rfl) (by decide) ?_
          refine zr_aload_n C 0 dX11_samples_236 rfl ?_
          refine zg_11_45 C 105 zk_105 zm_38_16 dX11_samples_237 ?_
          exact zr_iret C hret (Prod.mk.inj (zs_e hJ)).1 rfl (congrArg (zen G) (Prod.mk.inj (zs_e hJ)).2) dX11_samples_240
        have hJ := zif' hs7 hJ
        by_cases hs8 : a5 = (1 : Int32)
        · have hJ := zif hs8 hJ
          refine zr_tin C 241 dX11_samples_200 (by rw [hs8]; decide) (by rw [hs8]; decide) (by rw [hs8]; rfl) (by decide) ?_
          refine zr_aload_n C 0 dX11_samples_241 rfl ?_
          refine zg_11_46 C 105 zk_105 zm_38_17 dX11_samples_242 ?_
          exact zr_iret C hret (Prod.mk.inj (zs_e hJ)).1 rfl (congrArg (zen G) (Prod.mk.inj (zs_e hJ)).2) dX11_samples_245
        have hJ := zif' hs8 hJ
        by_cases hs9 : a5 = (2 : Int32)
        · have hJ := zif hs9 hJ
          refine zr_tin C 246 dX11_samples_200 (by rw [hs9]; decide) (by rw [hs9]; decide) (by rw [hs9]; rfl) (by decide) ?_
          refine zr_iload C 2 dX11_samples_246 rfl ?_
          exact zr_iret C hret (Prod.mk.inj (zs_e hJ)).1 rfl (congrArg (zen G) (Prod.mk.inj (zs_e hJ)).2) dX11_samples_248
        have hJ := zif' hs9 hJ
        by_cases hs10 : a5 = (3 : Int32)
        · have hJ := zif hs10 hJ
          refine zr_tin C 249 dX11_samples_200 (by rw [hs10]; decide) (by rw [hs10]; decide) (by rw [hs10]; rfl) (by decide) ?_
          refine zr_iload C 3 dX11_samples_249 rfl ?_
          exact zr_iret C hret (Prod.mk.inj (zs_e hJ)).1 rfl (congrArg (zen G) (Prod.mk.inj (zs_e hJ)).2) dX11_samples_251
        have hJ := zif' hs10 hJ
        by_cases hs11 : a5 = (4 : Int32)
        · have hJ := zif hs11 hJ
          refine zr_tin C 252 dX11_samples_200 (by rw [hs11]; decide) (by rw [hs11]; decide) (by rw [hs11]; rfl) (by decide) ?_
          refine zr_iload C 4 dX11_samples_252 rfl ?_
          exact zr_iret C hret (Prod.mk.inj (zs_e hJ)).1 rfl (congrArg (zen G) (Prod.mk.inj (zs_e hJ)).2) dX11_samples_254
        have hJ := zif' hs11 hJ
        refine zr_tout C 255 dX11_samples_200 (by have ghs7 := lv_neT hs7 (show ((0 : Int32)).toInt = 0 by decide); have ghs8 := lv_neT hs8 (show ((1 : Int32)).toInt = 1 by decide); have ghs9 := lv_neT hs9 (show ((2 : Int32)).toInt = 2 by decide); have ghs10 := lv_neT hs10 (show ((3 : Int32)).toInt = 3 by decide); have ghs11 := lv_neT hs11 (show ((4 : Int32)).toInt = 4 by decide); omega) (by decide) ?_
        refine zr_iload C 5 dX11_samples_255 rfl ?_
        exact zr_iret C hret (Prod.mk.inj (zs_e hJ)).1 rfl (congrArg (zen G) (Prod.mk.inj (zs_e hJ)).2) dX11_samples_257
      have hl51 : ∀ (n : Nat) (w6_51 : Int32) (w7_51 : Int32) (w8_51 : Int32) (w9_51 : Int32) (w10_51 : Int32), L_X11_samples_51 a1 σ6 k198 n w6_51 w7_51 w8_51 w9_51 w10_51 = some (r, σ') → zU G 11 p l e (zrm 3 68) s m args below meth c (MQ below (va_Qi (fun x (_ : Unit) => x = r) (fun _ t => zok G 137 (zen G σ') t) (zA G)) args s 0 0 (zA G)) σ6 51 [(0, .ref (G.1 + 105)), (1, .int a1), (5, .int a5), (6, .int w6_51), (7, .int w7_51), (8, .int w8_51), (9, .int w9_51), (10, .int w10_51)] [] := by
        intro n
        induction n with
        | zero =>
          intro w6_51 w7_51 w8_51 w9_51 w10_51 hJ
          rw [L_X11_samples_51] at hJ
          cases hJ
        | succ n ih =>
          intro w6_51 w7_51 w8_51 w9_51 w10_51 hJ
          rw [L_X11_samples_51] at hJ
          obtain ⟨r_51, hr_51, hJ⟩ := zlet_e hJ
          have ih51 : ∀ (w6_51 : Int32) (w7_51 : Int32) (w8_51 : Int32) (w9_51 : Int32) (w10_51 : Int32), r_51 w6_51 w7_51 w8_51 w9_51 w10_51 = some (r, σ') → zU G 11 p l e (zrm 3 68) s m args below meth c (MQ below (va_Qi (fun x (_ : Unit) => x = r) (fun _ t => zok G 137 (zen G σ') t) (zA G)) args s 0 0 (zA G)) σ6 51 [(0, .ref (G.1 + 105)), (1, .int a1), (5, .int a5), (6, .int w6_51), (7, .int w7_51), (8, .int w8_51), (9, .int w9_51), (10, .int w10_51)] [] := by
            rw [hr_51]
            exact ih
          refine zr_iload C 7 dX11_samples_51 rfl ?_
          refine zr_aload_n C 0 dX11_samples_53 rfl ?_
          refine zg_11_0 C 105 zk_105 zm_16_22 dX11_samples_54 ?_
          refine zr_icmp_ge C 198 dX11_samples_57 (by decide) (fun hc12 => ?_) (fun hc12 => ?_)
          · have hJ := zif hc12 hJ
            refine zr_sub [0, 2, 3, 4, 5, 6] [(0, .ref (G.1 + 105)), (5, .int a5), (6, .int w6_51), (7, .int w7_51), (8, .int w8_51), (9, .int w9_51)] rfl ?_
            exact hj198 _ _ _ _ hJ
          · have hJ := zif' hc12 hJ
            refine zr_iload C 3 dX11_samples_60 rfl ?_
            refine zr_aload_n C 0 dX11_samples_62 rfl ?_
            refine zg_11_47 C 105 zk_105 zm_8_12 dX11_samples_63 ?_
            refine zr_iload C 7 dX11_samples_66 rfl ?_
            obtain ⟨hg13, hJ⟩ := zg_e hJ
            refine zu_iald C 130 zk_130 hg13 dX11_samples_68 ?_
            obtain ⟨v14, hv14, hJ⟩ := zlet_e hJ
            have hf35 : zU G 11 p l e (zrm 3 68) s m args below meth c (MQ below (va_Qi (fun x (_ : Unit) => x = r) (fun _ t => zok G 137 (zen G σ') t) (zA G)) args s 0 0 (zA G)) σ6 80 [(0, .ref (G.1 + 105)), (1, .int a1), (5, .int a5), (7, .int w7_51), (8, .int w8_51), (9, .int w9_51), (10, .int w10_51)] [.int v14, .int w6_51] := by
              refine zr_ior C dX11_samples_80 ?_
              obtain ⟨v15, hv15, hJ⟩ := zlet_e hJ
              refine zr_topi hv15 ?_
              refine zr_istore C [(6, .int v15), (0, .ref (G.1 + 105)), (1, .int a1), (5, .int a5), (7, .int w7_51), (8, .int w8_51), (9, .int w9_51), (10, .int w10_51)] dX11_samples_81 (by decide) rfl ?_
              refine zr_iload C 4 dX11_samples_83 rfl ?_
              refine zr_aload_n C 1 dX11_samples_85 rfl ?_
              refine zg_11_47 C 105 zk_105 zm_8_12 dX11_samples_86 ?_
              refine zr_iload C 7 dX11_samples_89 rfl ?_
              obtain ⟨hg16, hJ⟩ := zg_e hJ
              refine zu_iald C 130 zk_130 hg16 dX11_samples_91 ?_
              obtain ⟨k113, hk113, hJ⟩ := zlet_e hJ
              have hj113 : ∀ (x0_113 : Int32), k113 x0_113 = some (r, σ') → zU G 11 p l e (zrm 3 68) s m args below meth c (MQ below (va_Qi (fun x (_ : Unit) => x = r) (fun _ t => zok G 137 (zen G σ') t) (zA G)) args s 0 0 (zA G)) σ6 113 [(0, .ref (G.1 + 105)), (1, .int a1), (5, .int a5), (6, .int v15), (8, .int w8_51), (9, .int w9_51), (10, .int w10_51)] [.int x0_113, .int w7_51] := by
                intro x0_113 hJ
                rw [hk113] at hJ
                unfold D_X11_samples_113 at hJ
                refine zr_ior C dX11_samples_113 ?_
                obtain ⟨v17, hv17, hJ⟩ := zlet_e hJ
                refine zr_topi hv17 ?_
                refine zr_istore C [(7, .int v17), (0, .ref (G.1 + 105)), (1, .int a1), (5, .int a5), (6, .int v15), (8, .int w8_51), (9, .int w9_51), (10, .int w10_51)] dX11_samples_114 (by decide) rfl ?_
                refine zr_iload C 5 dX11_samples_116 rfl ?_
                refine zr_aload_n C 1 dX11_samples_118 rfl ?_
                refine zg_11_47 C 105 zk_105 zm_8_12 dX11_samples_119 ?_
                refine zr_iload C 7 dX11_samples_122 rfl ?_
                obtain ⟨hg18, hJ⟩ := zg_e hJ
                refine zu_iald C 130 zk_130 hg18 dX11_samples_124 ?_
                obtain ⟨k146, hk146, hJ⟩ := zlet_e hJ
                have hj146 : ∀ (x0_146 : Int32), k146 x0_146 = some (r, σ') → zU G 11 p l e (zrm 3 68) s m args below meth c (MQ below (va_Qi (fun x (_ : Unit) => x = r) (fun _ t => zok G 137 (zen G σ') t) (zA G)) args s 0 0 (zA G)) σ6 146 [(0, .ref (G.1 + 105)), (1, .int a1), (5, .int a5), (6, .int v15), (7, .int v17), (9, .int w9_51), (10, .int w10_51)] [.int x0_146, .int w8_51] := by
                  intro x0_146 hJ
                  rw [hk146] at hJ
                  unfold D_X11_samples_146 at hJ
                  refine zr_ior C dX11_samples_146 ?_
                  obtain ⟨v19, hv19, hJ⟩ := zlet_e hJ
                  refine zr_topi hv19 ?_
                  refine zr_istore C [(8, .int v19), (0, .ref (G.1 + 105)), (1, .int a1), (5, .int a5), (6, .int v15), (7, .int v17), (9, .int w9_51), (10, .int w10_51)] dX11_samples_147 (by decide) rfl ?_
                  refine zr_aload_n C 1 dX11_samples_149 rfl ?_
                  refine zg_11_47 C 105 zk_105 zm_8_12 dX11_samples_150 ?_
                  refine zr_iload C 7 dX11_samples_153 rfl ?_
                  obtain ⟨hg20, hJ⟩ := zg_e hJ
                  refine zu_iald C 130 zk_130 hg20 dX11_samples_155 ?_
                  refine zr_if_le C 188 dX11_samples_156 (by decide) (fun hc21 => ?_) (fun hc21 => ?_)
                  · have hJ := zif hc21 hJ
                    refine zr_iload C 6 dX11_samples_188 rfl ?_
                    refine zr_istore C [(9, .int w9_51), (8, .int v19), (0, .ref (G.1 + 105)), (1, .int a1), (5, .int a5), (6, .int v15), (7, .int v17), (10, .int w10_51)] dX11_samples_190 (by decide) rfl ?_
                    obtain ⟨v22, hv22, hJ⟩ := zlet_e hJ
                    refine zr_iinc C v22 7 [(10, .int v22), (9, .int w9_51), (8, .int v19), (0, .ref (G.1 + 105)), (1, .int a1), (5, .int a5), (6, .int v15), (7, .int v17)] dX11_samples_192 rfl (hv22.trans (zinc (by decide))) (by decide) rfl ?_
                    refine zr_goto C 51 dX11_samples_195 (by decide) ?_
                    refine zr_sub [3, 4, 5, 6, 7, 2, 1, 0] [(0, .ref (G.1 + 105)), (1, .int a1), (5, .int a5), (6, .int v15), (7, .int v17), (8, .int v19), (9, .int w9_51), (10, .int v22)] rfl ?_
                    exact ih51 _ _ _ _ _ hJ
                  · have hJ := zif' hc21 hJ
                    refine zr_iload C 6 dX11_samples_159 rfl ?_
                    refine zr_bipush C dX11_samples_161 (v := (-4 : Int32)) (by decide) ?_
                    obtain ⟨k183, hk183, hJ⟩ := zlet_e hJ
                    have hj183 : k183 = some (r, σ') → zU G 11 p l e (zrm 3 68) s m args below meth c (MQ below (va_Qi (fun x (_ : Unit) => x = r) (fun _ t => zok G 137 (zen G σ') t) (zA G)) args s 0 0 (zA G)) σ6 183 [(0, .ref (G.1 + 105)), (1, .int a1), (5, .int a5), (6, .int v15), (7, .int v17), (8, .int v19), (10, .int w10_51)] [] := by
                      intro hJ
                      rw [hk183] at hJ
                      unfold D_X11_samples_183 at hJ
                      refine zr_iload C 6 dX11_samples_183 rfl ?_
                      refine zr_goto C 190 dX11_samples_185 (by decide) ?_
                      refine zr_istore C [(9, .int w10_51), (0, .ref (G.1 + 105)), (1, .int a1), (5, .int a5), (6, .int v15), (7, .int v17), (8, .int v19), (10, .int w10_51)] dX11_samples_190 (by decide) rfl ?_
                      obtain ⟨v23, hv23, hJ⟩ := zlet_e hJ
                      refine zr_iinc C v23 7 [(10, .int v23), (9, .int w10_51), (0, .ref (G.1 + 105)), (1, .int a1), (5, .int a5), (6, .int v15), (7, .int v17), (8, .int v19)] dX11_samples_192 rfl (hv23.trans (zinc (by decide))) (by decide) rfl ?_
                      refine zr_goto C 51 dX11_samples_195 (by decide) ?_
                      refine zr_sub [2, 3, 4, 5, 6, 7, 1, 0] [(0, .ref (G.1 + 105)), (1, .int a1), (5, .int a5), (6, .int v15), (7, .int v17), (8, .int v19), (9, .int w10_51), (10, .int v23)] rfl ?_
                      exact ih51 _ _ _ _ _ hJ
                    refine zr_icmp_eq C 183 dX11_samples_163 (by decide) (fun hc24 => ?_) (fun hc24 => ?_)
                    · have hJ := zif hc24 hJ
                      refine zr_sub [1, 2, 3, 4, 5, 0, 7] [(0, .ref (G.1 + 105)), (1, .int a1), (5, .int a5), (6, .int v15), (7, .int v17), (8, .int v19), (10, .int w10_51)] rfl ?_
                      exact hj183 hJ
                    · have hJ := zif' hc24 hJ
                      refine zr_aload_n C 1 dX11_samples_166 rfl ?_
                      refine zg_11_47 C 105 zk_105 zm_8_12 dX11_samples_167 ?_
                      refine zr_iload C 7 dX11_samples_170 rfl ?_
                      obtain ⟨hg25, hJ⟩ := zg_e hJ
                      refine zu_iald C 130 zk_130 hg25 dX11_samples_172 ?_
                      refine zr_aload_n C 1 dX11_samples_173 rfl ?_
                      refine zg_11_47 C 105 zk_105 zm_8_12 dX11_samples_174 ?_
                      refine zr_iload C 6 dX11_samples_177 rfl ?_
                      obtain ⟨hg26, hJ⟩ := zg_e hJ
                      refine zu_iald C 130 zk_130 hg26 dX11_samples_179 ?_
                      refine zr_icmp_le C 188 dX11_samples_180 (by decide) (fun hc27 => ?_) (fun hc27 => ?_)
                      · have hJ := zif hc27 hJ
                        refine zr_iload C 6 dX11_samples_188 rfl ?_
                        refine zr_istore C [(9, .int w9_51), (8, .int v19), (0, .ref (G.1 + 105)), (1, .int a1), (5, .int a5), (6, .int v15), (7, .int v17), (10, .int w10_51)] dX11_samples_190 (by decide) rfl ?_
                        obtain ⟨v28, hv28, hJ⟩ := zlet_e hJ
                        refine zr_iinc C v28 7 [(10, .int v28), (9, .int w9_51), (8, .int v19), (0, .ref (G.1 + 105)), (1, .int a1), (5, .int a5), (6, .int v15), (7, .int v17)] dX11_samples_192 rfl (hv28.trans (zinc (by decide))) (by decide) rfl ?_
                        refine zr_goto C 51 dX11_samples_195 (by decide) ?_
                        refine zr_sub [3, 4, 5, 6, 7, 2, 1, 0] [(0, .ref (G.1 + 105)), (1, .int a1), (5, .int a5), (6, .int v15), (7, .int v17), (8, .int v19), (9, .int w9_51), (10, .int v28)] rfl ?_
                        exact ih51 _ _ _ _ _ hJ
                      · have hJ := zif' hc27 hJ
                        refine zr_sub [1, 2, 3, 4, 5, 0, 7] [(0, .ref (G.1 + 105)), (1, .int a1), (5, .int a5), (6, .int v15), (7, .int v17), (8, .int v19), (10, .int w10_51)] rfl ?_
                        exact hj183 hJ
                refine zr_if_le C 145 dX11_samples_125 (by decide) (fun hc29 => ?_) (fun hc29 => ?_)
                · have hJ := zif hc29 hJ
                  refine zr_iconst C dX11_samples_145 (v := (0 : Int32)) (by decide) ?_
                  refine zr_sub [1, 2, 3, 4, 0, 6, 7] [(0, .ref (G.1 + 105)), (1, .int a1), (5, .int a5), (6, .int v15), (7, .int v17), (9, .int w9_51), (10, .int w10_51)] rfl ?_
                  exact hj146 _ hJ
                · have hJ := zif' hc29 hJ
                  refine zr_aload_n C 1 dX11_samples_128 rfl ?_
                  refine zr_iload C 7 dX11_samples_129 rfl ?_
                  refine zr_iload_n C 2 dX11_samples_131 rfl ?_
                  obtain ⟨r30, hr30, hJ⟩ := zb_e hJ
                  refine zr_callVI C 105 (zk_lt zk_105 (by decide)) (zen_obj zk_105) (rfl : zcl[11]? = some (RX11, TX11, 56)) (M_X11_made G l hr30) zin_X11_made zm_21_9 rfl rfl (Nat.le_of_ble_eq_true rfl) ⟨Nat.le_of_ble_eq_true rfl, Nat.le_of_ble_eq_true rfl⟩ ⟨Nat.le_of_ble_eq_true rfl, Nat.le_of_ble_eq_true rfl⟩ dX11_samples_132 ?_
                  refine zr_if_ne C 145 dX11_samples_135 (by decide) (fun hc31 => ?_) (fun hc31 => ?_)
                  · have hJ := zif' hc31 hJ
                    refine zr_iconst C dX11_samples_145 (v := (0 : Int32)) (by decide) ?_
                    refine zr_sub [1, 2, 3, 4, 0, 6, 7] [(0, .ref (G.1 + 105)), (1, .int a1), (5, .int a5), (6, .int v15), (7, .int v17), (9, .int w9_51), (10, .int w10_51)] rfl ?_
                    exact hj146 _ hJ
                  · have hJ := zif hc31 hJ
                    refine zr_iconst C dX11_samples_138 (v := (1 : Int32)) (by decide) ?_
                    refine zr_iload C 7 dX11_samples_139 rfl ?_
                    refine zr_ishl C dX11_samples_141 ?_
                    refine zr_goto C 146 dX11_samples_142 (by decide) ?_
                    refine zr_sub [1, 2, 3, 4, 0, 6, 7] [(0, .ref (G.1 + 105)), (1, .int a1), (5, .int a5), (6, .int v15), (7, .int v17), (9, .int w9_51), (10, .int w10_51)] rfl ?_
                    exact hj146 _ hJ
              refine zr_if_ne C 112 dX11_samples_92 (by decide) (fun hc32 => ?_) (fun hc32 => ?_)
              · have hJ := zif' hc32 hJ
                refine zr_iconst C dX11_samples_112 (v := (0 : Int32)) (by decide) ?_
                refine zr_sub [1, 2, 3, 0, 5, 6, 7] [(0, .ref (G.1 + 105)), (1, .int a1), (5, .int a5), (6, .int v15), (8, .int w8_51), (9, .int w9_51), (10, .int w10_51)] rfl ?_
                exact hj113 _ hJ
              · have hJ := zif hc32 hJ
                refine zr_aload_n C 1 dX11_samples_95 rfl ?_
                refine zr_iload C 7 dX11_samples_96 rfl ?_
                refine zr_iload_n C 2 dX11_samples_98 rfl ?_
                obtain ⟨r33, hr33, hJ⟩ := zb_e hJ
                refine zr_callVI C 105 (zk_lt zk_105 (by decide)) (zen_obj zk_105) (rfl : zcl[11]? = some (RX11, TX11, 56)) (M_X11_made G l hr33) zin_X11_made zm_21_9 rfl rfl (Nat.le_of_ble_eq_true rfl) ⟨Nat.le_of_ble_eq_true rfl, Nat.le_of_ble_eq_true rfl⟩ ⟨Nat.le_of_ble_eq_true rfl, Nat.le_of_ble_eq_true rfl⟩ dX11_samples_99 ?_
                refine zr_if_le C 112 dX11_samples_102 (by decide) (fun hc34 => ?_) (fun hc34 => ?_)
                · have hJ := zif hc34 hJ
                  refine zr_iconst C dX11_samples_112 (v := (0 : Int32)) (by decide) ?_
                  refine zr_sub [1, 2, 3, 0, 5, 6, 7] [(0, .ref (G.1 + 105)), (1, .int a1), (5, .int a5), (6, .int v15), (8, .int w8_51), (9, .int w9_51), (10, .int w10_51)] rfl ?_
                  exact hj113 _ hJ
                · have hJ := zif' hc34 hJ
                  refine zr_iconst C dX11_samples_105 (v := (1 : Int32)) (by decide) ?_
                  refine zr_iload C 7 dX11_samples_106 rfl ?_
                  refine zr_ishl C dX11_samples_108 ?_
                  refine zr_goto C 113 dX11_samples_109 (by decide) ?_
                  refine zr_sub [1, 2, 3, 0, 5, 6, 7] [(0, .ref (G.1 + 105)), (1, .int a1), (5, .int a5), (6, .int v15), (8, .int w8_51), (9, .int w9_51), (10, .int w10_51)] rfl ?_
                  exact hj113 _ hJ
            refine zr_if_le C 79 dX11_samples_69 (by decide) (fun hc36 => ?_) (fun hc36 => ?_)
            · have hv14 := hv14.trans (if_pos hc36)
              refine zr_iconst C dX11_samples_79 (v := (0 : Int32)) (by decide) ?_
              refine zr_sub [0, 1, 2, 4, 5, 6, 7] [(0, .ref (G.1 + 105)), (1, .int a1), (5, .int a5), (7, .int w7_51), (8, .int w8_51), (9, .int w9_51), (10, .int w10_51)] rfl ?_
              rw [hv14] at hf35
              exact hf35
            · have hv14 := hv14.trans (if_neg hc36)
              refine zr_iconst C dX11_samples_72 (v := (1 : Int32)) (by decide) ?_
              refine zr_iload C 7 dX11_samples_73 rfl ?_
              refine zr_ishl C dX11_samples_75 ?_
              refine zr_goto C 80 dX11_samples_76 (by decide) ?_
              refine zr_sub [0, 1, 2, 4, 5, 6, 7] [(0, .ref (G.1 + 105)), (1, .int a1), (5, .int a5), (7, .int w7_51), (8, .int w8_51), (9, .int w9_51), (10, .int w10_51)] rfl ?_
              rw [hv14] at hf35
              exact hf35
      refine zr_sub [5, 6, 10, 4, 3, 2, 1, 0] [(0, .ref (G.1 + 105)), (1, .int a1), (5, .int a5), (6, .int (0 : Int32)), (7, .int (0 : Int32)), (8, .int (0 : Int32)), (9, .int (-4 : Int32)), (10, .int (0 : Int32))] rfl ?_
      exact hl51 _ _ _ _ _ _ hJ
    · have hJ := zif hc4 hJ
      refine zr_iconst C dX11_samples_24 (v := (-1 : Int32)) (by decide) ?_
      exact zr_iret C hret (Prod.mk.inj (zs_e hJ)).1 rfl (congrArg (zen G) (Prod.mk.inj (zs_e hJ)).2) dX11_samples_25
theorem dX11_scaled_0 : decode cX11_scaled 0 = .ok (.iload_n 1, 1) := by decide +kernel
theorem dX11_scaled_1 : decode cX11_scaled 1 = .ok (.iload_n 3, 1) := by decide +kernel
theorem dX11_scaled_2 : decode cX11_scaled 2 = .ok (.invokestatic 310, 3) := by decide +kernel
theorem dX11_scaled_5 : decode cX11_scaled 5 = .ok (.ifCond .eq 28, 3) := by decide +kernel
theorem dX11_scaled_8 : decode cX11_scaled 8 = .ok (.iload_n 2, 1) := by decide +kernel
theorem dX11_scaled_9 : decode cX11_scaled 9 = .ok (.i2l, 1) := by decide +kernel
theorem dX11_scaled_10 : decode cX11_scaled 10 = .ok (.lconst 1, 1) := by decide +kernel
theorem dX11_scaled_11 : decode cX11_scaled 11 = .ok (.ldc2_w 313, 3) := by decide +kernel
theorem dX11_scaled_14 : decode cX11_scaled 14 = .ok (.invokestatic 124, 3) := by decide +kernel
theorem dX11_scaled_17 : decode cX11_scaled 17 = .ok (.ifCond .eq 16, 3) := by decide +kernel
theorem dX11_scaled_20 : decode cX11_scaled 20 = .ok (.iload 4, 2) := by decide +kernel
theorem dX11_scaled_22 : decode cX11_scaled 22 = .ok (.i2l, 1) := by decide +kernel
theorem dX11_scaled_23 : decode cX11_scaled 23 = .ok (.lconst 0, 1) := by decide +kernel
theorem dX11_scaled_24 : decode cX11_scaled 24 = .ok (.ldc2_w 319, 3) := by decide +kernel
theorem dX11_scaled_27 : decode cX11_scaled 27 = .ok (.invokestatic 124, 3) := by decide +kernel
theorem dX11_scaled_30 : decode cX11_scaled 30 = .ok (.ifCond .ne 7, 3) := by decide +kernel
theorem dX11_scaled_33 : decode cX11_scaled 33 = .ok (.ldc2_w 321, 3) := by decide +kernel
theorem dX11_scaled_36 : decode cX11_scaled 36 = .ok (.lreturn, 1) := by decide +kernel
theorem dX11_scaled_37 : decode cX11_scaled 37 = .ok (.aload_n 0, 1) := by decide +kernel
theorem dX11_scaled_38 : decode cX11_scaled 38 = .ok (.iload_n 1, 1) := by decide +kernel
theorem dX11_scaled_39 : decode cX11_scaled 39 = .ok (.iload_n 2, 1) := by decide +kernel
theorem dX11_scaled_40 : decode cX11_scaled 40 = .ok (.iload_n 3, 1) := by decide +kernel
theorem dX11_scaled_41 : decode cX11_scaled 41 = .ok (.invokevirtual 315, 3) := by decide +kernel
theorem dX11_scaled_44 : decode cX11_scaled 44 = .ok (.ifCond .eq 12, 3) := by decide +kernel
theorem dX11_scaled_47 : decode cX11_scaled 47 = .ok (.aload_n 0, 1) := by decide +kernel
theorem dX11_scaled_48 : decode cX11_scaled 48 = .ok (.getfield 307, 3) := by decide +kernel
theorem dX11_scaled_51 : decode cX11_scaled 51 = .ok (.lconst 0, 1) := by decide +kernel
theorem dX11_scaled_52 : decode cX11_scaled 52 = .ok (.lcmp, 1) := by decide +kernel
theorem dX11_scaled_53 : decode cX11_scaled 53 = .ok (.ifCond .ne 7, 3) := by decide +kernel
theorem dX11_scaled_56 : decode cX11_scaled 56 = .ok (.ldc2_w 323, 3) := by decide +kernel
theorem dX11_scaled_59 : decode cX11_scaled 59 = .ok (.lreturn, 1) := by decide +kernel
theorem dX11_scaled_60 : decode cX11_scaled 60 = .ok (.aload_n 0, 1) := by decide +kernel
theorem dX11_scaled_61 : decode cX11_scaled 61 = .ok (.getfield 303, 3) := by decide +kernel
theorem dX11_scaled_64 : decode cX11_scaled 64 = .ok (.aload_n 0, 1) := by decide +kernel
theorem dX11_scaled_65 : decode cX11_scaled 65 = .ok (.getfield 212, 3) := by decide +kernel
theorem dX11_scaled_68 : decode cX11_scaled 68 = .ok (.i2l, 1) := by decide +kernel
theorem dX11_scaled_69 : decode cX11_scaled 69 = .ok (.lmul, 1) := by decide +kernel
theorem dX11_scaled_70 : decode cX11_scaled 70 = .ok (.iload 4, 2) := by decide +kernel
theorem dX11_scaled_72 : decode cX11_scaled 72 = .ok (.iconst 2, 1) := by decide +kernel
theorem dX11_scaled_73 : decode cX11_scaled 73 = .ok (.if_icmp .ge 7, 3) := by decide +kernel
theorem dX11_scaled_76 : decode cX11_scaled 76 = .ok (.lconst 0, 1) := by decide +kernel
theorem dX11_scaled_77 : decode cX11_scaled 77 = .ok (.goto 14, 3) := by decide +kernel
theorem dX11_scaled_80 : decode cX11_scaled 80 = .ok (.aload_n 0, 1) := by decide +kernel
theorem dX11_scaled_81 : decode cX11_scaled 81 = .ok (.iload_n 3, 1) := by decide +kernel
theorem dX11_scaled_82 : decode cX11_scaled 82 = .ok (.invokevirtual 257, 3) := by decide +kernel
theorem dX11_scaled_85 : decode cX11_scaled 85 = .ok (.i2l, 1) := by decide +kernel
theorem dX11_scaled_86 : decode cX11_scaled 86 = .ok (.aload_n 0, 1) := by decide +kernel
theorem dX11_scaled_87 : decode cX11_scaled 87 = .ok (.getfield 307, 3) := by decide +kernel
theorem dX11_scaled_90 : decode cX11_scaled 90 = .ok (.lmul, 1) := by decide +kernel
theorem dX11_scaled_91 : decode cX11_scaled 91 = .ok (.lsub, 1) := by decide +kernel
theorem dX11_scaled_92 : decode cX11_scaled 92 = .ok (.aload_n 0, 1) := by decide +kernel
theorem dX11_scaled_93 : decode cX11_scaled 93 = .ok (.getfield 307, 3) := by decide +kernel
theorem dX11_scaled_96 : decode cX11_scaled 96 = .ok (.iload 4, 2) := by decide +kernel
theorem dX11_scaled_98 : decode cX11_scaled 98 = .ok (.iconst 2, 1) := by decide +kernel
theorem dX11_scaled_99 : decode cX11_scaled 99 = .ok (.irem, 1) := by decide +kernel
theorem dX11_scaled_100 : decode cX11_scaled 100 = .ok (.invokestatic 263, 3) := by decide +kernel
theorem dX11_scaled_103 : decode cX11_scaled 103 = .ok (.lreturn, 1) := by decide +kernel
set_option maxRecDepth 100000 in
set_option maxHeartbeats 4000000 in
theorem M_X11_scaled (G : zG) (l : Launch) {a1 : Int32} {a2 : Int32} {a3 : Int32} {a4 : Int32} {σ : zS} {r : Int64} {σ' : zS} (hJ : J_X11_scaled a1 a2 a3 a4 σ = some (r, σ')) : zML G l yX11_scaled cX11_scaled 5 (some .long) (zrm 4 98) [.ref (G.1 + 105), .int a1, .int a2, .int a3, .int a4] 137 (zen G σ) r 137 (zen G σ') := by
  unfold J_X11_scaled at hJ
  refine zentL (by decide +kernel) (Nat.le_of_ble_eq_true rfl) ?_
  intro p e s m args below meth c C hret
  refine zr_sub [0, 1, 2, 3, 4] [(0, .ref (G.1 + 105)), (1, .int a1), (2, .int a2), (3, .int a3), (4, .int a4)] rfl ?_
  refine zr_iload_n C 1 dX11_scaled_0 rfl ?_
  refine zr_iload_n C 3 dX11_scaled_1 rfl ?_
  obtain ⟨r1, hr1, hJ⟩ := zb_e hJ
  refine zr_callSI C (M_X11_isOf G l hr1) zin_X11_isOf zm_35_6 rfl rfl (Nat.le_of_ble_eq_true rfl) ⟨Nat.le_of_ble_eq_true rfl, Nat.le_of_ble_eq_true rfl⟩ ⟨Nat.le_of_ble_eq_true rfl, Nat.le_of_ble_eq_true rfl⟩ dX11_scaled_2 ?_
  refine zr_if_eq C 33 dX11_scaled_5 (by decide) (fun hc2 => ?_) (fun hc2 => ?_)
  · have hJ := zif hc2 hJ
    refine zr_ldc2 C dX11_scaled_33 zm_36_15 ?_
    exact zr_lret C hret (Prod.mk.inj (zs_e hJ)).1 rfl (congrArg (zen G) (Prod.mk.inj (zs_e hJ)).2) dX11_scaled_36
  · have hJ := zif' hc2 hJ
    refine zr_iload_n C 2 dX11_scaled_8 rfl ?_
    refine zr_i2l C dX11_scaled_9 ?_
    refine zr_lconst C dX11_scaled_10 (v := (1 : Int64)) (by decide) ?_
    refine zr_ldc2 C dX11_scaled_11 zm_35_3 ?_
    obtain ⟨r3, hr3, hJ⟩ := zb_e hJ
    refine zr_callSI C (M_X11_in G l hr3) zin_X11_in zm_9_22 rfl rfl (Nat.le_of_ble_eq_true rfl) ⟨Nat.le_of_ble_eq_true rfl, Nat.le_of_ble_eq_true rfl⟩ ⟨Nat.le_of_ble_eq_true rfl, Nat.le_of_ble_eq_true rfl⟩ dX11_scaled_14 ?_
    refine zr_if_eq C 33 dX11_scaled_17 (by decide) (fun hc4 => ?_) (fun hc4 => ?_)
    · have hJ := zif hc4 hJ
      refine zr_ldc2 C dX11_scaled_33 zm_36_15 ?_
      exact zr_lret C hret (Prod.mk.inj (zs_e hJ)).1 rfl (congrArg (zen G) (Prod.mk.inj (zs_e hJ)).2) dX11_scaled_36
    · have hJ := zif' hc4 hJ
      refine zr_iload C 4 dX11_scaled_20 rfl ?_
      refine zr_i2l C dX11_scaled_22 ?_
      refine zr_lconst C dX11_scaled_23 (v := (0 : Int64)) (by decide) ?_
      refine zr_ldc2 C dX11_scaled_24 zm_36_14 ?_
      obtain ⟨r5, hr5, hJ⟩ := zb_e hJ
      refine zr_callSI C (M_X11_in G l hr5) zin_X11_in zm_9_22 rfl rfl (Nat.le_of_ble_eq_true rfl) ⟨Nat.le_of_ble_eq_true rfl, Nat.le_of_ble_eq_true rfl⟩ ⟨Nat.le_of_ble_eq_true rfl, Nat.le_of_ble_eq_true rfl⟩ dX11_scaled_27 ?_
      refine zr_if_ne C 37 dX11_scaled_30 (by decide) (fun hc6 => ?_) (fun hc6 => ?_)
      · have hJ := zif' hc6 hJ
        refine zr_aload_n C 0 dX11_scaled_37 rfl ?_
        refine zr_iload_n C 1 dX11_scaled_38 rfl ?_
        refine zr_iload_n C 2 dX11_scaled_39 rfl ?_
        refine zr_iload_n C 3 dX11_scaled_40 rfl ?_
        obtain ⟨r7, σ8, hr7, hJ⟩ := zb2_e hJ
        refine zr_callVI C 105 (zk_lt zk_105 (by decide)) (zen_obj zk_105) (rfl : zcl[11]? = some (RX11, TX11, 56)) (M_X11_countsBy G l hr7) zin_X11_countsBy zm_35_9 rfl rfl (Nat.le_of_ble_eq_true rfl) ⟨Nat.le_of_ble_eq_true rfl, Nat.le_of_ble_eq_true rfl⟩ ⟨Nat.le_of_ble_eq_true rfl, Nat.le_of_ble_eq_true rfl⟩ dX11_scaled_41 ?_
        refine zr_if_eq C 56 dX11_scaled_44 (by decide) (fun hc9 => ?_) (fun hc9 => ?_)
        · have hJ := zif hc9 hJ
          refine zr_ldc2 C dX11_scaled_56 zm_36_16 ?_
          exact zr_lret C hret (Prod.mk.inj (zs_e hJ)).1 rfl (congrArg (zen G) (Prod.mk.inj (zs_e hJ)).2) dX11_scaled_59
        · have hJ := zif' hc9 hJ
          refine zr_aload_n C 0 dX11_scaled_47 rfl ?_
          refine zg_11_44 C 105 zk_105 zm_35_5 dX11_scaled_48 ?_
          refine zr_lconst C dX11_scaled_51 (v := (0 : Int64)) (by decide) ?_
          refine zr_lcmp C dX11_scaled_52 ?_
          refine zr_if_ne C 60 dX11_scaled_53 (by decide) (fun hc10 => ?_) (fun hc10 => ?_)
          · have hJ := zif' hc10 hJ
            refine zr_aload_n C 0 dX11_scaled_60 rfl ?_
            refine zg_11_43 C 105 zk_105 zm_35_4 dX11_scaled_61 ?_
            refine zr_aload_n C 0 dX11_scaled_64 rfl ?_
            refine zg_11_10 C 105 zk_105 zm_19_12 dX11_scaled_65 ?_
            refine zr_i2l C dX11_scaled_68 ?_
            refine zr_lmul C dX11_scaled_69 ?_
            refine zr_iload C 4 dX11_scaled_70 rfl ?_
            refine zr_iconst C dX11_scaled_72 (v := (2 : Int32)) (by decide) ?_
            obtain ⟨v11, hv11, hJ⟩ := zlet_e hJ
            refine zr_steq [.int (2 : Int32), .int a4, .long v11] (by rw [hv11]) ?_
            obtain ⟨k91, hk91, hJ⟩ := zlet_e hJ
            have hj91 : ∀ (x0_91 : Int64), k91 x0_91 = some (r, σ') → zU G 5 p l e (zrm 4 98) s m args below meth c (MQ below (va_Ql (fun x (_ : Unit) => x = r) (fun _ t => zok G 137 (zen G σ') t) (zA G)) args s 0 0 (zA G)) σ8 91 [(0, .ref (G.1 + 105)), (4, .int a4)] [.long x0_91, .long v11] := by
              intro x0_91 hJ
              rw [hk91] at hJ
              unfold D_X11_scaled_91 at hJ
              refine zr_lsub C dX11_scaled_91 ?_
              refine zr_aload_n C 0 dX11_scaled_92 rfl ?_
              refine zg_11_44 C 105 zk_105 zm_35_5 dX11_scaled_93 ?_
              refine zr_iload C 1 dX11_scaled_96 rfl ?_
              refine zr_iconst C dX11_scaled_98 (v := (2 : Int32)) (by decide) ?_
              refine zr_irem C dX11_scaled_99 (by decide) ?_
              obtain ⟨r12, hr12, hJ⟩ := zb_e hJ
              refine zr_callSL C (M_X11_told G l hr12) zin_X11_told zm_24_3 rfl rfl (Nat.le_of_ble_eq_true rfl) ⟨Nat.le_of_ble_eq_true rfl, Nat.le_of_ble_eq_true rfl⟩ ⟨Nat.le_of_ble_eq_true rfl, Nat.le_of_ble_eq_true rfl⟩ dX11_scaled_100 ?_
              exact zr_lret C hret (Prod.mk.inj (zs_e hJ)).1 rfl (congrArg (zen G) (Prod.mk.inj (zs_e hJ)).2) dX11_scaled_103
            refine zr_icmp_ge C 80 dX11_scaled_73 (by decide) (fun hc13 => ?_) (fun hc13 => ?_)
            · have hJ := zif hc13 hJ
              refine zr_aload_n C 0 dX11_scaled_80 rfl ?_
              refine zr_iload_n C 3 dX11_scaled_81 rfl ?_
              obtain ⟨r14, hr14, hJ⟩ := zb_e hJ
              refine zr_callVI C 105 (zk_lt zk_105 (by decide)) (zen_obj zk_105) (rfl : zcl[11]? = some (RX11, TX11, 56)) (M_X11_total G l hr14) zin_X11_total zm_22_23 rfl rfl (Nat.le_of_ble_eq_true rfl) ⟨Nat.le_of_ble_eq_true rfl, Nat.le_of_ble_eq_true rfl⟩ ⟨Nat.le_of_ble_eq_true rfl, Nat.le_of_ble_eq_true rfl⟩ dX11_scaled_82 ?_
              refine zr_i2l C dX11_scaled_85 ?_
              refine zr_aload_n C 0 dX11_scaled_86 rfl ?_
              refine zg_11_44 C 105 zk_105 zm_35_5 dX11_scaled_87 ?_
              refine zr_lmul C dX11_scaled_90 ?_
              refine zr_sub [0, 4] [(0, .ref (G.1 + 105)), (4, .int a4)] rfl ?_
              exact hj91 _ hJ
            · have hJ := zif' hc13 hJ
              refine zr_lconst C dX11_scaled_76 (v := (0 : Int64)) (by decide) ?_
              refine zr_goto C 91 dX11_scaled_77 (by decide) ?_
              refine zr_sub [0, 4] [(0, .ref (G.1 + 105)), (4, .int a4)] rfl ?_
              exact hj91 _ hJ
          · have hJ := zif hc10 hJ
            refine zr_ldc2 C dX11_scaled_56 zm_36_16 ?_
            exact zr_lret C hret (Prod.mk.inj (zs_e hJ)).1 rfl (congrArg (zen G) (Prod.mk.inj (zs_e hJ)).2) dX11_scaled_59
      · have hJ := zif hc6 hJ
        refine zr_ldc2 C dX11_scaled_33 zm_36_15 ?_
        exact zr_lret C hret (Prod.mk.inj (zs_e hJ)).1 rfl (congrArg (zen G) (Prod.mk.inj (zs_e hJ)).2) dX11_scaled_36
theorem dX11_seldom_0 : decode cX11_seldom 0 = .ok (.aload_n 0, 1) := by decide +kernel
theorem dX11_seldom_1 : decode cX11_seldom 1 = .ok (.iload_n 1, 1) := by decide +kernel
theorem dX11_seldom_2 : decode cX11_seldom 2 = .ok (.iload_n 2, 1) := by decide +kernel
theorem dX11_seldom_3 : decode cX11_seldom 3 = .ok (.invokevirtual 352, 3) := by decide +kernel
theorem dX11_seldom_6 : decode cX11_seldom 6 = .ok (.ifCond .ne 5, 3) := by decide +kernel
theorem dX11_seldom_9 : decode cX11_seldom 9 = .ok (.iconst (-1), 1) := by decide +kernel
theorem dX11_seldom_10 : decode cX11_seldom 10 = .ok (.ireturn, 1) := by decide +kernel
theorem dX11_seldom_11 : decode cX11_seldom 11 = .ok (.aload_n 0, 1) := by decide +kernel
theorem dX11_seldom_12 : decode cX11_seldom 12 = .ok (.iload_n 2, 1) := by decide +kernel
theorem dX11_seldom_13 : decode cX11_seldom 13 = .ok (.invokevirtual 257, 3) := by decide +kernel
theorem dX11_seldom_16 : decode cX11_seldom 16 = .ok (.istore_n 3, 1) := by decide +kernel
theorem dX11_seldom_17 : decode cX11_seldom 17 = .ok (.sipush 999, 3) := by decide +kernel
theorem dX11_seldom_20 : decode cX11_seldom 20 = .ok (.istore 4, 2) := by decide +kernel
theorem dX11_seldom_22 : decode cX11_seldom 22 = .ok (.iload 4, 2) := by decide +kernel
theorem dX11_seldom_24 : decode cX11_seldom 24 = .ok (.ifCond .le 24, 3) := by decide +kernel
theorem dX11_seldom_27 : decode cX11_seldom 27 = .ok (.aload_n 0, 1) := by decide +kernel
theorem dX11_seldom_28 : decode cX11_seldom 28 = .ok (.iload_n 1, 1) := by decide +kernel
theorem dX11_seldom_29 : decode cX11_seldom 29 = .ok (.iload_n 2, 1) := by decide +kernel
theorem dX11_seldom_30 : decode cX11_seldom 30 = .ok (.iload 4, 2) := by decide +kernel
theorem dX11_seldom_32 : decode cX11_seldom 32 = .ok (.invokevirtual 358, 3) := by decide +kernel
theorem dX11_seldom_35 : decode cX11_seldom 35 = .ok (.iload_n 3, 1) := by decide +kernel
theorem dX11_seldom_36 : decode cX11_seldom 36 = .ok (.if_icmp .ne 6, 3) := by decide +kernel
theorem dX11_seldom_39 : decode cX11_seldom 39 = .ok (.iload 4, 2) := by decide +kernel
theorem dX11_seldom_41 : decode cX11_seldom 41 = .ok (.ireturn, 1) := by decide +kernel
theorem dX11_seldom_42 : decode cX11_seldom 42 = .ok (.iinc 4 (-1), 3) := by decide +kernel
theorem dX11_seldom_45 : decode cX11_seldom 45 = .ok (.goto (-23), 3) := by decide +kernel
theorem dX11_seldom_48 : decode cX11_seldom 48 = .ok (.bipush (-4), 2) := by decide +kernel
theorem dX11_seldom_50 : decode cX11_seldom 50 = .ok (.ireturn, 1) := by decide +kernel
set_option maxRecDepth 100000 in
set_option maxHeartbeats 4000000 in
theorem M_X11_seldom (G : zG) (l : Launch) {a1 : Int32} {a2 : Int32} {σ : zS} {r : Int32} {σ' : zS} (hJ : J_X11_seldom a1 a2 σ = some (r, σ')) : zMI G l yX11_seldom cX11_seldom 5 (some .int) (zrm 3 68) [.ref (G.1 + 105), .int a1, .int a2] 137 (zen G σ) r 137 (zen G σ') := by
  unfold J_X11_seldom at hJ
  refine zentI (by decide +kernel) (Nat.le_of_ble_eq_true rfl) ?_
  intro p e s m args below meth c C hret
  refine zr_sub [0, 1, 2] [(0, .ref (G.1 + 105)), (1, .int a1), (2, .int a2)] rfl ?_
  refine zr_aload_n C 0 dX11_seldom_0 rfl ?_
  refine zr_iload_n C 1 dX11_seldom_1 rfl ?_
  refine zr_iload_n C 2 dX11_seldom_2 rfl ?_
  obtain ⟨r1, hr1, hJ⟩ := zb_e hJ
  refine zr_callVI C 105 (zk_lt zk_105 (by decide)) (zen_obj zk_105) (rfl : zcl[11]? = some (RX11, TX11, 56)) (M_X11_canCount G l hr1) zin_X11_canCount zm_42_1 rfl rfl (Nat.le_of_ble_eq_true rfl) ⟨Nat.le_of_ble_eq_true rfl, Nat.le_of_ble_eq_true rfl⟩ ⟨Nat.le_of_ble_eq_true rfl, Nat.le_of_ble_eq_true rfl⟩ dX11_seldom_3 ?_
  refine zr_if_ne C 11 dX11_seldom_6 (by decide) (fun hc2 => ?_) (fun hc2 => ?_)
  · have hJ := zif' hc2 hJ
    refine zr_aload_n C 0 dX11_seldom_11 rfl ?_
    refine zr_iload_n C 2 dX11_seldom_12 rfl ?_
    obtain ⟨r3, hr3, hJ⟩ := zb_e hJ
    refine zr_callVI C 105 (zk_lt zk_105 (by decide)) (zen_obj zk_105) (rfl : zcl[11]? = some (RX11, TX11, 56)) (M_X11_total G l hr3) zin_X11_total zm_22_23 rfl rfl (Nat.le_of_ble_eq_true rfl) ⟨Nat.le_of_ble_eq_true rfl, Nat.le_of_ble_eq_true rfl⟩ ⟨Nat.le_of_ble_eq_true rfl, Nat.le_of_ble_eq_true rfl⟩ dX11_seldom_13 ?_
    refine zr_istore_n C [(3, .int r3), (0, .ref (G.1 + 105)), (1, .int a1), (2, .int a2)] dX11_seldom_16 (by decide) rfl ?_
    refine zr_sipush C dX11_seldom_17 (v := (999 : Int32)) (by decide) ?_
    refine zr_istore C [(4, .int (999 : Int32)), (3, .int r3), (0, .ref (G.1 + 105)), (1, .int a1), (2, .int a2)] dX11_seldom_20 (by decide) rfl ?_
    have hl22 : ∀ (n : Nat) (w4_22 : Int32) (σ_22 : zS), L_X11_seldom_22 a1 a2 r3 n w4_22 σ_22 = some (r, σ') → zU G 5 p l e (zrm 3 68) s m args below meth c (MQ below (va_Qi (fun x (_ : Unit) => x = r) (fun _ t => zok G 137 (zen G σ') t) (zA G)) args s 0 0 (zA G)) σ_22 22 [(0, .ref (G.1 + 105)), (1, .int a1), (2, .int a2), (3, .int r3), (4, .int w4_22)] [] := by
      intro n
      induction n with
      | zero =>
        intro w4_22 σ_22 hJ
        rw [L_X11_seldom_22] at hJ
        cases hJ
      | succ n ih =>
        intro w4_22 σ_22 hJ
        rw [L_X11_seldom_22] at hJ
        obtain ⟨r_22, hr_22, hJ⟩ := zlet_e hJ
        have ih22 : ∀ (w4_22 : Int32) (σ_22 : zS), r_22 w4_22 σ_22 = some (r, σ') → zU G 5 p l e (zrm 3 68) s m args below meth c (MQ below (va_Qi (fun x (_ : Unit) => x = r) (fun _ t => zok G 137 (zen G σ') t) (zA G)) args s 0 0 (zA G)) σ_22 22 [(0, .ref (G.1 + 105)), (1, .int a1), (2, .int a2), (3, .int r3), (4, .int w4_22)] [] := by
          rw [hr_22]
          exact ih
        refine zr_iload C 4 dX11_seldom_22 rfl ?_
        refine zr_if_le C 48 dX11_seldom_24 (by decide) (fun hc4 => ?_) (fun hc4 => ?_)
        · have hJ := zif hc4 hJ
          refine zr_bipush C dX11_seldom_48 (v := (-4 : Int32)) (by decide) ?_
          exact zr_iret C hret (Prod.mk.inj (zs_e hJ)).1 rfl (congrArg (zen G) (Prod.mk.inj (zs_e hJ)).2) dX11_seldom_50
        · have hJ := zif' hc4 hJ
          refine zr_aload_n C 0 dX11_seldom_27 rfl ?_
          refine zr_iload_n C 1 dX11_seldom_28 rfl ?_
          refine zr_iload_n C 2 dX11_seldom_29 rfl ?_
          refine zr_iload C 4 dX11_seldom_30 rfl ?_
          obtain ⟨r5, σ6, hr5, hJ⟩ := zb2_e hJ
          refine zr_callVI C 105 (zk_lt zk_105 (by decide)) (zen_obj zk_105) (rfl : zcl[11]? = some (RX11, TX11, 56)) (M_X11_toldBy G l hr5) zin_X11_toldBy zm_43_0 rfl rfl (Nat.le_of_ble_eq_true rfl) ⟨Nat.le_of_ble_eq_true rfl, Nat.le_of_ble_eq_true rfl⟩ ⟨Nat.le_of_ble_eq_true rfl, Nat.le_of_ble_eq_true rfl⟩ dX11_seldom_32 ?_
          refine zr_iload_n C 3 dX11_seldom_35 rfl ?_
          refine zr_icmp_ne C 42 dX11_seldom_36 (by decide) (fun hc7 => ?_) (fun hc7 => ?_)
          · have hJ := zif' hc7 hJ
            obtain ⟨v8, hv8, hJ⟩ := zlet_e hJ
            refine zr_iinc C v8 4 [(4, .int v8), (0, .ref (G.1 + 105)), (1, .int a1), (2, .int a2), (3, .int r3)] dX11_seldom_42 rfl (hv8.trans (zinc (by decide))) (by decide) rfl ?_
            refine zr_goto C 22 dX11_seldom_45 (by decide) ?_
            refine zr_sub [1, 2, 3, 4, 0] [(0, .ref (G.1 + 105)), (1, .int a1), (2, .int a2), (3, .int r3), (4, .int v8)] rfl ?_
            exact ih22 _ _ hJ
          · have hJ := zif hc7 hJ
            refine zr_iload C 4 dX11_seldom_39 rfl ?_
            exact zr_iret C hret (Prod.mk.inj (zs_e hJ)).1 rfl (congrArg (zen G) (Prod.mk.inj (zs_e hJ)).2) dX11_seldom_41
    refine zr_sub [2, 3, 4, 1, 0] [(0, .ref (G.1 + 105)), (1, .int a1), (2, .int a2), (3, .int r3), (4, .int (999 : Int32))] rfl ?_
    exact hl22 _ _ _ hJ
  · have hJ := zif hc2 hJ
    refine zr_iconst C dX11_seldom_9 (v := (-1 : Int32)) (by decide) ?_
    exact zr_iret C hret (Prod.mk.inj (zs_e hJ)).1 rfl (congrArg (zen G) (Prod.mk.inj (zs_e hJ)).2) dX11_seldom_10
theorem dX11_sheet_0 : decode cX11_sheet 0 = .ok (.iload_n 1, 1) := by decide +kernel
theorem dX11_sheet_1 : decode cX11_sheet 1 = .ok (.iload_n 2, 1) := by decide +kernel
theorem dX11_sheet_2 : decode cX11_sheet 2 = .ok (.invokestatic 368, 3) := by decide +kernel
theorem dX11_sheet_5 : decode cX11_sheet 5 = .ok (.ifCond .eq 9, 3) := by decide +kernel
theorem dX11_sheet_8 : decode cX11_sheet 8 = .ok (.iload_n 3, 1) := by decide +kernel
theorem dX11_sheet_9 : decode cX11_sheet 9 = .ok (.bipush 40, 2) := by decide +kernel
theorem dX11_sheet_11 : decode cX11_sheet 11 = .ok (.if_icmp .le 5, 3) := by decide +kernel
theorem dX11_sheet_14 : decode cX11_sheet 14 = .ok (.iconst (-1), 1) := by decide +kernel
theorem dX11_sheet_15 : decode cX11_sheet 15 = .ok (.ireturn, 1) := by decide +kernel
theorem dX11_sheet_16 : decode cX11_sheet 16 = .ok (.iload_n 3, 1) := by decide +kernel
theorem dX11_sheet_17 : decode cX11_sheet 17 = .ok (.ifCond .ge 6, 3) := by decide +kernel
theorem dX11_sheet_20 : decode cX11_sheet 20 = .ok (.bipush (-14), 2) := by decide +kernel
theorem dX11_sheet_22 : decode cX11_sheet 22 = .ok (.ireturn, 1) := by decide +kernel
theorem dX11_sheet_23 : decode cX11_sheet 23 = .ok (.aload_n 0, 1) := by decide +kernel
theorem dX11_sheet_24 : decode cX11_sheet 24 = .ok (.getfield 99, 3) := by decide +kernel
theorem dX11_sheet_27 : decode cX11_sheet 27 = .ok (.iload_n 1, 1) := by decide +kernel
theorem dX11_sheet_28 : decode cX11_sheet 28 = .ok (.iload_n 2, 1) := by decide +kernel
theorem dX11_sheet_29 : decode cX11_sheet 29 = .ok (.iastore, 1) := by decide +kernel
theorem dX11_sheet_30 : decode cX11_sheet 30 = .ok (.aload_n 0, 1) := by decide +kernel
theorem dX11_sheet_31 : decode cX11_sheet 31 = .ok (.getfield 102, 3) := by decide +kernel
theorem dX11_sheet_34 : decode cX11_sheet 34 = .ok (.iload_n 1, 1) := by decide +kernel
theorem dX11_sheet_35 : decode cX11_sheet 35 = .ok (.iload_n 3, 1) := by decide +kernel
theorem dX11_sheet_36 : decode cX11_sheet 36 = .ok (.iastore, 1) := by decide +kernel
theorem dX11_sheet_37 : decode cX11_sheet 37 = .ok (.iconst 0, 1) := by decide +kernel
theorem dX11_sheet_38 : decode cX11_sheet 38 = .ok (.istore 4, 2) := by decide +kernel
theorem dX11_sheet_40 : decode cX11_sheet 40 = .ok (.iload 4, 2) := by decide +kernel
theorem dX11_sheet_42 : decode cX11_sheet 42 = .ok (.bipush 40, 2) := by decide +kernel
theorem dX11_sheet_44 : decode cX11_sheet 44 = .ok (.if_icmp .ge 22, 3) := by decide +kernel
theorem dX11_sheet_47 : decode cX11_sheet 47 = .ok (.aload_n 0, 1) := by decide +kernel
theorem dX11_sheet_48 : decode cX11_sheet 48 = .ok (.getfield 105, 3) := by decide +kernel
theorem dX11_sheet_51 : decode cX11_sheet 51 = .ok (.bipush 40, 2) := by decide +kernel
theorem dX11_sheet_53 : decode cX11_sheet 53 = .ok (.iload_n 1, 1) := by decide +kernel
theorem dX11_sheet_54 : decode cX11_sheet 54 = .ok (.imul, 1) := by decide +kernel
theorem dX11_sheet_55 : decode cX11_sheet 55 = .ok (.iload 4, 2) := by decide +kernel
theorem dX11_sheet_57 : decode cX11_sheet 57 = .ok (.iadd, 1) := by decide +kernel
theorem dX11_sheet_58 : decode cX11_sheet 58 = .ok (.iconst 0, 1) := by decide +kernel
theorem dX11_sheet_59 : decode cX11_sheet 59 = .ok (.iastore, 1) := by decide +kernel
theorem dX11_sheet_60 : decode cX11_sheet 60 = .ok (.iinc 4 1, 3) := by decide +kernel
theorem dX11_sheet_63 : decode cX11_sheet 63 = .ok (.goto (-23), 3) := by decide +kernel
theorem dX11_sheet_66 : decode cX11_sheet 66 = .ok (.iconst 1, 1) := by decide +kernel
theorem dX11_sheet_67 : decode cX11_sheet 67 = .ok (.ireturn, 1) := by decide +kernel
set_option maxRecDepth 100000 in
set_option maxHeartbeats 4000000 in
theorem M_X11_sheet (G : zG) (l : Launch) {a1 : Int32} {a2 : Int32} {a3 : Int32} {σ : zS} {r : Int32} {σ' : zS} (hJ : J_X11_sheet a1 a2 a3 σ = some (r, σ')) : zMI G l yX11_sheet cX11_sheet 5 (some .int) (zrm 2 46) [.ref (G.1 + 105), .int a1, .int a2, .int a3] 137 (zen G σ) r 137 (zen G σ') := by
  unfold J_X11_sheet at hJ
  refine zentI (by decide +kernel) (Nat.le_of_ble_eq_true rfl) ?_
  intro p e s m args below meth c C hret
  refine zr_sub [0, 1, 2, 3] [(0, .ref (G.1 + 105)), (1, .int a1), (2, .int a2), (3, .int a3)] rfl ?_
  refine zr_iload_n C 1 dX11_sheet_0 rfl ?_
  refine zr_iload_n C 2 dX11_sheet_1 rfl ?_
  obtain ⟨r1, hr1, hJ⟩ := zb_e hJ
  refine zr_callSI C (M_X11_isSheet G l hr1) zin_X11_isSheet zm_47_7 rfl rfl (Nat.le_of_ble_eq_true rfl) ⟨Nat.le_of_ble_eq_true rfl, Nat.le_of_ble_eq_true rfl⟩ ⟨Nat.le_of_ble_eq_true rfl, Nat.le_of_ble_eq_true rfl⟩ dX11_sheet_2 ?_
  refine zr_if_eq C 14 dX11_sheet_5 (by decide) (fun hc2 => ?_) (fun hc2 => ?_)
  · have hJ := zif hc2 hJ
    refine zr_iconst C dX11_sheet_14 (v := (-1 : Int32)) (by decide) ?_
    exact zr_iret C hret (Prod.mk.inj (zs_e hJ)).1 rfl (congrArg (zen G) (Prod.mk.inj (zs_e hJ)).2) dX11_sheet_15
  · have hJ := zif' hc2 hJ
    refine zr_iload_n C 3 dX11_sheet_8 rfl ?_
    refine zr_bipush C dX11_sheet_9 (v := (40 : Int32)) (by decide) ?_
    refine zr_icmp_le C 16 dX11_sheet_11 (by decide) (fun hc3 => ?_) (fun hc3 => ?_)
    · have hJ := zif hc3 hJ
      refine zr_iload_n C 3 dX11_sheet_16 rfl ?_
      refine zr_if_ge C 23 dX11_sheet_17 (by decide) (fun hc4 => ?_) (fun hc4 => ?_)
      · have hJ := zif hc4 hJ
        refine zr_aload_n C 0 dX11_sheet_23 rfl ?_
        refine zg_11_53 C 105 zk_105 zm_8_16 dX11_sheet_24 ?_
        refine zr_iload_n C 1 dX11_sheet_27 rfl ?_
        refine zr_iload_n C 2 dX11_sheet_28 rfl ?_
        obtain ⟨hg5, hJ⟩ := zg_e hJ
        obtain ⟨σ6, hσ6, hJ⟩ := zlet_e hJ
        refine zv_iast C 134 zk_134 hg5 hσ6 dX11_sheet_29 ?_
        refine zr_aload_n C 0 dX11_sheet_30 rfl ?_
        refine zg_11_54 C 105 zk_105 zm_8_17 dX11_sheet_31 ?_
        refine zr_iload_n C 1 dX11_sheet_34 rfl ?_
        refine zr_iload_n C 3 dX11_sheet_35 rfl ?_
        obtain ⟨hg7, hJ⟩ := zg_e hJ
        obtain ⟨σ8, hσ8, hJ⟩ := zlet_e hJ
        refine zv_iast C 135 zk_135 hg7 hσ8 dX11_sheet_36 ?_
        refine zr_iconst C dX11_sheet_37 (v := (0 : Int32)) (by decide) ?_
        refine zr_istore C [(4, .int (0 : Int32)), (0, .ref (G.1 + 105)), (1, .int a1), (2, .int a2), (3, .int a3)] dX11_sheet_38 (by decide) rfl ?_
        have hl40 : ∀ (n : Nat) (w4_40 : Int32) (σ_40 : zS), L_X11_sheet_40 a1 n w4_40 σ_40 = some (r, σ') → zU G 5 p l e (zrm 2 46) s m args below meth c (MQ below (va_Qi (fun x (_ : Unit) => x = r) (fun _ t => zok G 137 (zen G σ') t) (zA G)) args s 0 0 (zA G)) σ_40 40 [(0, .ref (G.1 + 105)), (1, .int a1), (4, .int w4_40)] [] := by
          intro n
          induction n with
          | zero =>
            intro w4_40 σ_40 hJ
            rw [L_X11_sheet_40] at hJ
            cases hJ
          | succ n ih =>
            intro w4_40 σ_40 hJ
            rw [L_X11_sheet_40] at hJ
            obtain ⟨r_40, hr_40, hJ⟩ := zlet_e hJ
            have ih40 : ∀ (w4_40 : Int32) (σ_40 : zS), r_40 w4_40 σ_40 = some (r, σ') → zU G 5 p l e (zrm 2 46) s m args below meth c (MQ below (va_Qi (fun x (_ : Unit) => x = r) (fun _ t => zok G 137 (zen G σ') t) (zA G)) args s 0 0 (zA G)) σ_40 40 [(0, .ref (G.1 + 105)), (1, .int a1), (4, .int w4_40)] [] := by
              rw [hr_40]
              exact ih
            refine zr_iload C 2 dX11_sheet_40 rfl ?_
            refine zr_bipush C dX11_sheet_42 (v := (40 : Int32)) (by decide) ?_
            refine zr_icmp_ge C 66 dX11_sheet_44 (by decide) (fun hc9 => ?_) (fun hc9 => ?_)
            · have hJ := zif hc9 hJ
              refine zr_iconst C dX11_sheet_66 (v := (1 : Int32)) (by decide) ?_
              exact zr_iret C hret (Prod.mk.inj (zs_e hJ)).1 rfl (congrArg (zen G) (Prod.mk.inj (zs_e hJ)).2) dX11_sheet_67
            · have hJ := zif' hc9 hJ
              refine zr_aload_n C 0 dX11_sheet_47 rfl ?_
              refine zg_11_55 C 105 zk_105 zm_8_18 dX11_sheet_48 ?_
              refine zr_bipush C dX11_sheet_51 (v := (40 : Int32)) (by decide) ?_
              refine zr_iload_n C 1 dX11_sheet_53 rfl ?_
              refine zr_imul C dX11_sheet_54 ?_
              refine zr_iload C 2 dX11_sheet_55 rfl ?_
              refine zr_iadd C dX11_sheet_57 ?_
              refine zr_iconst C dX11_sheet_58 (v := (0 : Int32)) (by decide) ?_
              obtain ⟨hg10, hJ⟩ := zg_e hJ
              obtain ⟨σ11, hσ11, hJ⟩ := zlet_e hJ
              refine zv_iast C 136 zk_136 hg10 hσ11 dX11_sheet_59 ?_
              obtain ⟨v12, hv12, hJ⟩ := zlet_e hJ
              refine zr_iinc C v12 2 [(4, .int v12), (0, .ref (G.1 + 105)), (1, .int a1)] dX11_sheet_60 rfl (hv12.trans (zinc (by decide))) (by decide) rfl ?_
              refine zr_goto C 40 dX11_sheet_63 (by decide) ?_
              refine zr_sub [1, 2, 0] [(0, .ref (G.1 + 105)), (1, .int a1), (4, .int v12)] rfl ?_
              exact ih40 _ _ hJ
        refine zr_sub [1, 2, 0] [(0, .ref (G.1 + 105)), (1, .int a1), (4, .int (0 : Int32))] rfl ?_
        exact hl40 _ _ _ hJ
      · have hJ := zif' hc4 hJ
        refine zr_bipush C dX11_sheet_20 (v := (-14 : Int32)) (by decide) ?_
        exact zr_iret C hret (Prod.mk.inj (zs_e hJ)).1 rfl (congrArg (zen G) (Prod.mk.inj (zs_e hJ)).2) dX11_sheet_22
    · have hJ := zif' hc3 hJ
      refine zr_iconst C dX11_sheet_14 (v := (-1 : Int32)) (by decide) ?_
      exact zr_iret C hret (Prod.mk.inj (zs_e hJ)).1 rfl (congrArg (zen G) (Prod.mk.inj (zs_e hJ)).2) dX11_sheet_15
theorem dX11_shows_0 : decode cX11_shows 0 = .ok (.iload_n 1, 1) := by decide +kernel
theorem dX11_shows_1 : decode cX11_shows 1 = .ok (.iload_n 2, 1) := by decide +kernel
theorem dX11_shows_2 : decode cX11_shows 2 = .ok (.iload_n 3, 1) := by decide +kernel
theorem dX11_shows_3 : decode cX11_shows 3 = .ok (.iload 4, 2) := by decide +kernel
theorem dX11_shows_5 : decode cX11_shows 5 = .ok (.invokestatic 335, 3) := by decide +kernel
theorem dX11_shows_8 : decode cX11_shows 8 = .ok (.ifCond .eq 12, 3) := by decide +kernel
theorem dX11_shows_11 : decode cX11_shows 11 = .ok (.aload_n 0, 1) := by decide +kernel
theorem dX11_shows_12 : decode cX11_shows 12 = .ok (.iload 5, 2) := by decide +kernel
theorem dX11_shows_14 : decode cX11_shows 14 = .ok (.invokevirtual 243, 3) := by decide +kernel
theorem dX11_shows_17 : decode cX11_shows 17 = .ok (.ifCond .ne 5, 3) := by decide +kernel
theorem dX11_shows_20 : decode cX11_shows 20 = .ok (.iconst (-1), 1) := by decide +kernel
theorem dX11_shows_21 : decode cX11_shows 21 = .ok (.ireturn, 1) := by decide +kernel
theorem dX11_shows_22 : decode cX11_shows 22 = .ok (.aload_n 0, 1) := by decide +kernel
theorem dX11_shows_23 : decode cX11_shows 23 = .ok (.iload_n 1, 1) := by decide +kernel
theorem dX11_shows_24 : decode cX11_shows 24 = .ok (.iload_n 2, 1) := by decide +kernel
theorem dX11_shows_25 : decode cX11_shows 25 = .ok (.iload_n 3, 1) := by decide +kernel
theorem dX11_shows_26 : decode cX11_shows 26 = .ok (.iload 4, 2) := by decide +kernel
theorem dX11_shows_28 : decode cX11_shows 28 = .ok (.invokevirtual 339, 3) := by decide +kernel
theorem dX11_shows_31 : decode cX11_shows 31 = .ok (.aload_n 0, 1) := by decide +kernel
theorem dX11_shows_32 : decode cX11_shows 32 = .ok (.getfield 87, 3) := by decide +kernel
theorem dX11_shows_35 : decode cX11_shows 35 = .ok (.iload 5, 2) := by decide +kernel
theorem dX11_shows_37 : decode cX11_shows 37 = .ok (.iaload, 1) := by decide +kernel
theorem dX11_shows_38 : decode cX11_shows 38 = .ok (.ireturn, 1) := by decide +kernel
set_option maxRecDepth 100000 in
set_option maxHeartbeats 4000000 in
theorem M_X11_shows (G : zG) (l : Launch) {a1 : Int32} {a2 : Int32} {a3 : Int32} {a4 : Int32} {a5 : Int32} {σ : zS} {r : Int32} {σ' : zS} (hJ : J_X11_shows a1 a2 a3 a4 a5 σ = some (r, σ')) : zMI G l yX11_shows cX11_shows 6 (some .int) (zrm 3 68) [.ref (G.1 + 105), .int a1, .int a2, .int a3, .int a4, .int a5] 137 (zen G σ) r 137 (zen G σ') := by
  unfold J_X11_shows at hJ
  refine zentI (by decide +kernel) (Nat.le_of_ble_eq_true rfl) ?_
  intro p e s m args below meth c C hret
  refine zr_sub [0, 1, 2, 3, 4, 5] [(0, .ref (G.1 + 105)), (1, .int a1), (2, .int a2), (3, .int a3), (4, .int a4), (5, .int a5)] rfl ?_
  refine zr_iload_n C 1 dX11_shows_0 rfl ?_
  refine zr_iload_n C 2 dX11_shows_1 rfl ?_
  refine zr_iload_n C 3 dX11_shows_2 rfl ?_
  refine zr_iload C 4 dX11_shows_3 rfl ?_
  obtain ⟨r1, hr1, hJ⟩ := zb_e hJ
  refine zr_callSI C (M_X11_isSampling G l hr1) zin_X11_isSampling zm_38_7 rfl rfl (Nat.le_of_ble_eq_true rfl) ⟨Nat.le_of_ble_eq_true rfl, Nat.le_of_ble_eq_true rfl⟩ ⟨Nat.le_of_ble_eq_true rfl, Nat.le_of_ble_eq_true rfl⟩ dX11_shows_5 ?_
  refine zr_if_eq C 20 dX11_shows_8 (by decide) (fun hc2 => ?_) (fun hc2 => ?_)
  · have hJ := zif hc2 hJ
    refine zr_iconst C dX11_shows_20 (v := (-1 : Int32)) (by decide) ?_
    exact zr_iret C hret (Prod.mk.inj (zs_e hJ)).1 rfl (congrArg (zen G) (Prod.mk.inj (zs_e hJ)).2) dX11_shows_21
  · have hJ := zif' hc2 hJ
    refine zr_aload_n C 0 dX11_shows_11 rfl ?_
    refine zr_iload C 5 dX11_shows_12 rfl ?_
    obtain ⟨r3, hr3, hJ⟩ := zb_e hJ
    refine zr_callVI C 105 (zk_lt zk_105 (by decide)) (zen_obj zk_105) (rfl : zcl[11]? = some (RX11, TX11, 56)) (M_X11_isLine G l hr3) zin_X11_isLine zm_21_5 rfl rfl (Nat.le_of_ble_eq_true rfl) ⟨Nat.le_of_ble_eq_true rfl, Nat.le_of_ble_eq_true rfl⟩ ⟨Nat.le_of_ble_eq_true rfl, Nat.le_of_ble_eq_true rfl⟩ dX11_shows_14 ?_
    refine zr_if_ne C 22 dX11_shows_17 (by decide) (fun hc4 => ?_) (fun hc4 => ?_)
    · have hJ := zif' hc4 hJ
      refine zr_aload_n C 0 dX11_shows_22 rfl ?_
      refine zr_iload_n C 1 dX11_shows_23 rfl ?_
      refine zr_iload_n C 2 dX11_shows_24 rfl ?_
      refine zr_iload_n C 3 dX11_shows_25 rfl ?_
      refine zr_iload C 4 dX11_shows_26 rfl ?_
      obtain ⟨σ6, hr5, hJ⟩ := zb_e hJ
      refine zr_callVV C 105 (zk_lt zk_105 (by decide)) (zen_obj zk_105) (rfl : zcl[11]? = some (RX11, TX11, 56)) (M_X11_findSamples G l hr5) zin_X11_findSamples zm_38_12 rfl rfl (Nat.le_of_ble_eq_true rfl) ⟨Nat.le_of_ble_eq_true rfl, Nat.le_of_ble_eq_true rfl⟩ ⟨Nat.le_of_ble_eq_true rfl, Nat.le_of_ble_eq_true rfl⟩ dX11_shows_28 ?_
      refine zr_aload_n C 0 dX11_shows_31 rfl ?_
      refine zg_11_47 C 105 zk_105 zm_8_12 dX11_shows_32 ?_
      refine zr_iload C 5 dX11_shows_35 rfl ?_
      obtain ⟨hg7, hJ⟩ := zg_e hJ
      refine zu_iald C 130 zk_130 hg7 dX11_shows_37 ?_
      exact zr_iret C hret (Prod.mk.inj (zs_e hJ)).1 rfl (congrArg (zen G) (Prod.mk.inj (zs_e hJ)).2) dX11_shows_38
    · have hJ := zif hc4 hJ
      refine zr_iconst C dX11_shows_20 (v := (-1 : Int32)) (by decide) ?_
      exact zr_iret C hret (Prod.mk.inj (zs_e hJ)).1 rfl (congrArg (zen G) (Prod.mk.inj (zs_e hJ)).2) dX11_shows_21
theorem dX11_sliced_0 : decode cX11_sliced 0 = .ok (.iload_n 1, 1) := by decide +kernel
theorem dX11_sliced_1 : decode cX11_sliced 1 = .ok (.iload_n 3, 1) := by decide +kernel
theorem dX11_sliced_2 : decode cX11_sliced 2 = .ok (.invokestatic 310, 3) := by decide +kernel
theorem dX11_sliced_5 : decode cX11_sliced 5 = .ok (.ifCond .eq 26, 3) := by decide +kernel
theorem dX11_sliced_8 : decode cX11_sliced 8 = .ok (.iload_n 2, 1) := by decide +kernel
theorem dX11_sliced_9 : decode cX11_sliced 9 = .ok (.i2l, 1) := by decide +kernel
theorem dX11_sliced_10 : decode cX11_sliced 10 = .ok (.lconst 1, 1) := by decide +kernel
theorem dX11_sliced_11 : decode cX11_sliced 11 = .ok (.ldc2_w 313, 3) := by decide +kernel
theorem dX11_sliced_14 : decode cX11_sliced 14 = .ok (.invokestatic 124, 3) := by decide +kernel
theorem dX11_sliced_17 : decode cX11_sliced 17 = .ok (.ifCond .eq 14, 3) := by decide +kernel
theorem dX11_sliced_20 : decode cX11_sliced 20 = .ok (.iload 4, 2) := by decide +kernel
theorem dX11_sliced_22 : decode cX11_sliced 22 = .ok (.i2l, 1) := by decide +kernel
theorem dX11_sliced_23 : decode cX11_sliced 23 = .ok (.lconst 0, 1) := by decide +kernel
theorem dX11_sliced_24 : decode cX11_sliced 24 = .ok (.lconst 1, 1) := by decide +kernel
theorem dX11_sliced_25 : decode cX11_sliced 25 = .ok (.invokestatic 124, 3) := by decide +kernel
theorem dX11_sliced_28 : decode cX11_sliced 28 = .ok (.ifCond .ne 5, 3) := by decide +kernel
theorem dX11_sliced_31 : decode cX11_sliced 31 = .ok (.iconst (-1), 1) := by decide +kernel
theorem dX11_sliced_32 : decode cX11_sliced 32 = .ok (.ireturn, 1) := by decide +kernel
theorem dX11_sliced_33 : decode cX11_sliced 33 = .ok (.aload_n 0, 1) := by decide +kernel
theorem dX11_sliced_34 : decode cX11_sliced 34 = .ok (.iload_n 1, 1) := by decide +kernel
theorem dX11_sliced_35 : decode cX11_sliced 35 = .ok (.iload_n 2, 1) := by decide +kernel
theorem dX11_sliced_36 : decode cX11_sliced 36 = .ok (.iload_n 3, 1) := by decide +kernel
theorem dX11_sliced_37 : decode cX11_sliced 37 = .ok (.invokevirtual 315, 3) := by decide +kernel
theorem dX11_sliced_40 : decode cX11_sliced 40 = .ok (.ifCond .ne 8, 3) := by decide +kernel
theorem dX11_sliced_43 : decode cX11_sliced 43 = .ok (.bipush (-4), 2) := by decide +kernel
theorem dX11_sliced_45 : decode cX11_sliced 45 = .ok (.goto 20, 3) := by decide +kernel
theorem dX11_sliced_48 : decode cX11_sliced 48 = .ok (.iload 4, 2) := by decide +kernel
theorem dX11_sliced_50 : decode cX11_sliced 50 = .ok (.ifCond .ne 10, 3) := by decide +kernel
theorem dX11_sliced_53 : decode cX11_sliced 53 = .ok (.aload_n 0, 1) := by decide +kernel
theorem dX11_sliced_54 : decode cX11_sliced 54 = .ok (.getfield 303, 3) := by decide +kernel
theorem dX11_sliced_57 : decode cX11_sliced 57 = .ok (.goto 7, 3) := by decide +kernel
theorem dX11_sliced_60 : decode cX11_sliced 60 = .ok (.aload_n 0, 1) := by decide +kernel
theorem dX11_sliced_61 : decode cX11_sliced 61 = .ok (.getfield 307, 3) := by decide +kernel
theorem dX11_sliced_64 : decode cX11_sliced 64 = .ok (.l2i, 1) := by decide +kernel
theorem dX11_sliced_65 : decode cX11_sliced 65 = .ok (.ireturn, 1) := by decide +kernel
set_option maxRecDepth 100000 in
set_option maxHeartbeats 4000000 in
theorem M_X11_sliced (G : zG) (l : Launch) {a1 : Int32} {a2 : Int32} {a3 : Int32} {a4 : Int32} {σ : zS} {r : Int32} {σ' : zS} (hJ : J_X11_sliced a1 a2 a3 a4 σ = some (r, σ')) : zMI G l yX11_sliced cX11_sliced 5 (some .int) (zrm 4 98) [.ref (G.1 + 105), .int a1, .int a2, .int a3, .int a4] 137 (zen G σ) r 137 (zen G σ') := by
  unfold J_X11_sliced at hJ
  refine zentI (by decide +kernel) (Nat.le_of_ble_eq_true rfl) ?_
  intro p e s m args below meth c C hret
  refine zr_sub [0, 1, 2, 3, 4] [(0, .ref (G.1 + 105)), (1, .int a1), (2, .int a2), (3, .int a3), (4, .int a4)] rfl ?_
  refine zr_iload_n C 1 dX11_sliced_0 rfl ?_
  refine zr_iload_n C 3 dX11_sliced_1 rfl ?_
  obtain ⟨r1, hr1, hJ⟩ := zb_e hJ
  refine zr_callSI C (M_X11_isOf G l hr1) zin_X11_isOf zm_35_6 rfl rfl (Nat.le_of_ble_eq_true rfl) ⟨Nat.le_of_ble_eq_true rfl, Nat.le_of_ble_eq_true rfl⟩ ⟨Nat.le_of_ble_eq_true rfl, Nat.le_of_ble_eq_true rfl⟩ dX11_sliced_2 ?_
  refine zr_if_eq C 31 dX11_sliced_5 (by decide) (fun hc2 => ?_) (fun hc2 => ?_)
  · have hJ := zif hc2 hJ
    refine zr_iconst C dX11_sliced_31 (v := (-1 : Int32)) (by decide) ?_
    exact zr_iret C hret (Prod.mk.inj (zs_e hJ)).1 rfl (congrArg (zen G) (Prod.mk.inj (zs_e hJ)).2) dX11_sliced_32
  · have hJ := zif' hc2 hJ
    refine zr_iload_n C 2 dX11_sliced_8 rfl ?_
    refine zr_i2l C dX11_sliced_9 ?_
    refine zr_lconst C dX11_sliced_10 (v := (1 : Int64)) (by decide) ?_
    refine zr_ldc2 C dX11_sliced_11 zm_35_3 ?_
    obtain ⟨r3, hr3, hJ⟩ := zb_e hJ
    refine zr_callSI C (M_X11_in G l hr3) zin_X11_in zm_9_22 rfl rfl (Nat.le_of_ble_eq_true rfl) ⟨Nat.le_of_ble_eq_true rfl, Nat.le_of_ble_eq_true rfl⟩ ⟨Nat.le_of_ble_eq_true rfl, Nat.le_of_ble_eq_true rfl⟩ dX11_sliced_14 ?_
    refine zr_if_eq C 31 dX11_sliced_17 (by decide) (fun hc4 => ?_) (fun hc4 => ?_)
    · have hJ := zif hc4 hJ
      refine zr_iconst C dX11_sliced_31 (v := (-1 : Int32)) (by decide) ?_
      exact zr_iret C hret (Prod.mk.inj (zs_e hJ)).1 rfl (congrArg (zen G) (Prod.mk.inj (zs_e hJ)).2) dX11_sliced_32
    · have hJ := zif' hc4 hJ
      refine zr_iload C 4 dX11_sliced_20 rfl ?_
      refine zr_i2l C dX11_sliced_22 ?_
      refine zr_lconst C dX11_sliced_23 (v := (0 : Int64)) (by decide) ?_
      refine zr_lconst C dX11_sliced_24 (v := (1 : Int64)) (by decide) ?_
      obtain ⟨r5, hr5, hJ⟩ := zb_e hJ
      refine zr_callSI C (M_X11_in G l hr5) zin_X11_in zm_9_22 rfl rfl (Nat.le_of_ble_eq_true rfl) ⟨Nat.le_of_ble_eq_true rfl, Nat.le_of_ble_eq_true rfl⟩ ⟨Nat.le_of_ble_eq_true rfl, Nat.le_of_ble_eq_true rfl⟩ dX11_sliced_25 ?_
      refine zr_if_ne C 33 dX11_sliced_28 (by decide) (fun hc6 => ?_) (fun hc6 => ?_)
      · have hJ := zif' hc6 hJ
        refine zr_aload_n C 0 dX11_sliced_33 rfl ?_
        refine zr_iload_n C 1 dX11_sliced_34 rfl ?_
        refine zr_iload_n C 2 dX11_sliced_35 rfl ?_
        refine zr_iload_n C 3 dX11_sliced_36 rfl ?_
        obtain ⟨r7, σ8, hr7, hJ⟩ := zb2_e hJ
        refine zr_callVI C 105 (zk_lt zk_105 (by decide)) (zen_obj zk_105) (rfl : zcl[11]? = some (RX11, TX11, 56)) (M_X11_countsBy G l hr7) zin_X11_countsBy zm_35_9 rfl rfl (Nat.le_of_ble_eq_true rfl) ⟨Nat.le_of_ble_eq_true rfl, Nat.le_of_ble_eq_true rfl⟩ ⟨Nat.le_of_ble_eq_true rfl, Nat.le_of_ble_eq_true rfl⟩ dX11_sliced_37 ?_
        refine zr_if_ne C 48 dX11_sliced_40 (by decide) (fun hc9 => ?_) (fun hc9 => ?_)
        · have hJ := zif' hc9 hJ
          refine zr_iload C 4 dX11_sliced_48 rfl ?_
          refine zr_if_ne C 60 dX11_sliced_50 (by decide) (fun hc10 => ?_) (fun hc10 => ?_)
          · have hJ := zif' hc10 hJ
            refine zr_aload_n C 0 dX11_sliced_60 rfl ?_
            refine zg_11_44 C 105 zk_105 zm_35_5 dX11_sliced_61 ?_
            refine zr_l2i C dX11_sliced_64 ?_
            exact zr_iret C hret (Prod.mk.inj (zs_e hJ)).1 rfl (congrArg (zen G) (Prod.mk.inj (zs_e hJ)).2) dX11_sliced_65
          · have hJ := zif hc10 hJ
            refine zr_aload_n C 0 dX11_sliced_53 rfl ?_
            refine zg_11_43 C 105 zk_105 zm_35_4 dX11_sliced_54 ?_
            refine zr_goto C 64 dX11_sliced_57 (by decide) ?_
            refine zr_l2i C dX11_sliced_64 ?_
            exact zr_iret C hret (Prod.mk.inj (zs_e hJ)).1 rfl (congrArg (zen G) (Prod.mk.inj (zs_e hJ)).2) dX11_sliced_65
        · have hJ := zif hc9 hJ
          refine zr_bipush C dX11_sliced_43 (v := (-4 : Int32)) (by decide) ?_
          refine zr_goto C 65 dX11_sliced_45 (by decide) ?_
          exact zr_iret C hret (Prod.mk.inj (zs_e hJ)).1 rfl (congrArg (zen G) (Prod.mk.inj (zs_e hJ)).2) dX11_sliced_65
      · have hJ := zif hc6 hJ
        refine zr_iconst C dX11_sliced_31 (v := (-1 : Int32)) (by decide) ?_
        exact zr_iret C hret (Prod.mk.inj (zs_e hJ)).1 rfl (congrArg (zen G) (Prod.mk.inj (zs_e hJ)).2) dX11_sliced_32
theorem dX11_step_0 : decode cX11_step 0 = .ok (.iload_n 1, 1) := by decide +kernel
theorem dX11_step_1 : decode cX11_step 1 = .ok (.i2l, 1) := by decide +kernel
theorem dX11_step_2 : decode cX11_step 2 = .ok (.lconst 0, 1) := by decide +kernel
theorem dX11_step_3 : decode cX11_step 3 = .ok (.aload_n 0, 1) := by decide +kernel
theorem dX11_step_4 : decode cX11_step 4 = .ok (.getfield 225, 3) := by decide +kernel
theorem dX11_step_7 : decode cX11_step 7 = .ok (.iconst 1, 1) := by decide +kernel
theorem dX11_step_8 : decode cX11_step 8 = .ok (.isub, 1) := by decide +kernel
theorem dX11_step_9 : decode cX11_step 9 = .ok (.i2l, 1) := by decide +kernel
theorem dX11_step_10 : decode cX11_step 10 = .ok (.invokestatic 124, 3) := by decide +kernel
theorem dX11_step_13 : decode cX11_step 13 = .ok (.ifCond .eq 12, 3) := by decide +kernel
theorem dX11_step_16 : decode cX11_step 16 = .ok (.aload_n 0, 1) := by decide +kernel
theorem dX11_step_17 : decode cX11_step 17 = .ok (.getfield 25, 3) := by decide +kernel
theorem dX11_step_20 : decode cX11_step 20 = .ok (.iload_n 1, 1) := by decide +kernel
theorem dX11_step_21 : decode cX11_step 21 = .ok (.iaload, 1) := by decide +kernel
theorem dX11_step_22 : decode cX11_step 22 = .ok (.goto 4, 3) := by decide +kernel
theorem dX11_step_25 : decode cX11_step 25 = .ok (.iconst (-1), 1) := by decide +kernel
theorem dX11_step_26 : decode cX11_step 26 = .ok (.ireturn, 1) := by decide +kernel
set_option maxRecDepth 100000 in
set_option maxHeartbeats 4000000 in
theorem M_X11_step (G : zG) (l : Launch) {a1 : Int32} {σ : zS} {r : Int32} (hJ : J_X11_step a1 σ = some r) : zMI G l yX11_step cX11_step 2 (some .int) (zrm 1 25) [.ref (G.1 + 105), .int a1] 137 (zen G σ) r 137 (zen G σ) := by
  unfold J_X11_step at hJ
  refine zentI (by decide +kernel) (Nat.le_of_ble_eq_true rfl) ?_
  intro p e s m args below meth c C hret
  refine zr_sub [0, 1] [(0, .ref (G.1 + 105)), (1, .int a1)] rfl ?_
  refine zr_iload_n C 1 dX11_step_0 rfl ?_
  refine zr_i2l C dX11_step_1 ?_
  refine zr_lconst C dX11_step_2 (v := (0 : Int64)) (by decide) ?_
  refine zr_aload_n C 0 dX11_step_3 rfl ?_
  refine zg_11_7 C 105 zk_105 zm_19_18 dX11_step_4 ?_
  refine zr_iconst C dX11_step_7 (v := (1 : Int32)) (by decide) ?_
  refine zr_isub C dX11_step_8 ?_
  refine zr_i2l C dX11_step_9 ?_
  obtain ⟨r1, hr1, hJ⟩ := zb_e hJ
  refine zr_callSI C (M_X11_in G l hr1) zin_X11_in zm_9_22 rfl rfl (Nat.le_of_ble_eq_true rfl) ⟨Nat.le_of_ble_eq_true rfl, Nat.le_of_ble_eq_true rfl⟩ ⟨Nat.le_of_ble_eq_true rfl, Nat.le_of_ble_eq_true rfl⟩ dX11_step_10 ?_
  refine zr_if_eq C 25 dX11_step_13 (by decide) (fun hc2 => ?_) (fun hc2 => ?_)
  · have hJ := zif hc2 hJ
    refine zr_iconst C dX11_step_25 (v := (-1 : Int32)) (by decide) ?_
    exact zr_iret C hret (zs_e hJ) rfl rfl dX11_step_26
  · have hJ := zif' hc2 hJ
    refine zr_aload_n C 0 dX11_step_16 rfl ?_
    refine zg_11_8 C 105 zk_105 zm_7_16 dX11_step_17 ?_
    refine zr_iload_n C 1 dX11_step_20 rfl ?_
    obtain ⟨hg3, hJ⟩ := zg_e hJ
    refine zu_iald C 111 zk_111 hg3 dX11_step_21 ?_
    refine zr_goto C 26 dX11_step_22 (by decide) ?_
    exact zr_iret C hret (zs_e hJ) rfl rfl dX11_step_26
theorem dX11_together_0 : decode cX11_together 0 = .ok (.iload_n 1, 1) := by decide +kernel
theorem dX11_together_1 : decode cX11_together 1 = .ok (.invokestatic 286, 3) := by decide +kernel
theorem dX11_together_4 : decode cX11_together 4 = .ok (.ifCond .ne 7, 3) := by decide +kernel
theorem dX11_together_7 : decode cX11_together 7 = .ok (.iconst (-1), 1) := by decide +kernel
theorem dX11_together_8 : decode cX11_together 8 = .ok (.goto 18, 3) := by decide +kernel
theorem dX11_together_11 : decode cX11_together 11 = .ok (.aload_n 0, 1) := by decide +kernel
theorem dX11_together_12 : decode cX11_together 12 = .ok (.iload_n 1, 1) := by decide +kernel
theorem dX11_together_13 : decode cX11_together 13 = .ok (.invokevirtual 289, 3) := by decide +kernel
theorem dX11_together_16 : decode cX11_together 16 = .ok (.bipush (-4), 2) := by decide +kernel
theorem dX11_together_18 : decode cX11_together 18 = .ok (.if_icmp .ne 7, 3) := by decide +kernel
theorem dX11_together_21 : decode cX11_together 21 = .ok (.iconst 0, 1) := by decide +kernel
theorem dX11_together_22 : decode cX11_together 22 = .ok (.goto 4, 3) := by decide +kernel
theorem dX11_together_25 : decode cX11_together 25 = .ok (.iconst 1, 1) := by decide +kernel
theorem dX11_together_26 : decode cX11_together 26 = .ok (.ireturn, 1) := by decide +kernel
set_option maxRecDepth 100000 in
set_option maxHeartbeats 4000000 in
theorem M_X11_together (G : zG) (l : Launch) {a1 : Int32} {σ : zS} {r : Int32} (hJ : J_X11_together a1 σ = some r) : zMI G l yX11_together cX11_together 2 (some .int) (zrm 2 50) [.ref (G.1 + 105), .int a1] 137 (zen G σ) r 137 (zen G σ) := by
  unfold J_X11_together at hJ
  refine zentI (by decide +kernel) (Nat.le_of_ble_eq_true rfl) ?_
  intro p e s m args below meth c C hret
  refine zr_sub [0, 1] [(0, .ref (G.1 + 105)), (1, .int a1)] rfl ?_
  refine zr_iload_n C 1 dX11_together_0 rfl ?_
  obtain ⟨r1, hr1, hJ⟩ := zb_e hJ
  refine zr_callSI C (M_X11_areEvents G l hr1) zin_X11_areEvents zm_31_17 rfl rfl (Nat.le_of_ble_eq_true rfl) ⟨Nat.le_of_ble_eq_true rfl, Nat.le_of_ble_eq_true rfl⟩ ⟨Nat.le_of_ble_eq_true rfl, Nat.le_of_ble_eq_true rfl⟩ dX11_together_1 ?_
  refine zr_if_ne C 11 dX11_together_4 (by decide) (fun hc2 => ?_) (fun hc2 => ?_)
  · have hJ := zif' hc2 hJ
    refine zr_aload_n C 0 dX11_together_11 rfl ?_
    refine zr_iload_n C 1 dX11_together_12 rfl ?_
    obtain ⟨r3, hr3, hJ⟩ := zb_e hJ
    refine zr_callVI C 105 (zk_lt zk_105 (by decide)) (zen_obj zk_105) (rfl : zcl[11]? = some (RX11, TX11, 56)) (M_X11_wayOf G l hr3) zin_X11_wayOf zm_31_20 rfl rfl (Nat.le_of_ble_eq_true rfl) ⟨Nat.le_of_ble_eq_true rfl, Nat.le_of_ble_eq_true rfl⟩ ⟨Nat.le_of_ble_eq_true rfl, Nat.le_of_ble_eq_true rfl⟩ dX11_together_13 ?_
    refine zr_bipush C dX11_together_16 (v := (-4 : Int32)) (by decide) ?_
    refine zr_icmp_ne C 25 dX11_together_18 (by decide) (fun hc4 => ?_) (fun hc4 => ?_)
    · have hJ := zif' hc4 hJ
      refine zr_iconst C dX11_together_25 (v := (1 : Int32)) (by decide) ?_
      exact zr_iret C hret (zs_e hJ) rfl rfl dX11_together_26
    · have hJ := zif hc4 hJ
      refine zr_iconst C dX11_together_21 (v := (0 : Int32)) (by decide) ?_
      refine zr_goto C 26 dX11_together_22 (by decide) ?_
      exact zr_iret C hret (zs_e hJ) rfl rfl dX11_together_26
  · have hJ := zif hc2 hJ
    refine zr_iconst C dX11_together_7 (v := (-1 : Int32)) (by decide) ?_
    refine zr_goto C 26 dX11_together_8 (by decide) ?_
    exact zr_iret C hret (zs_e hJ) rfl rfl dX11_together_26
theorem dX11_truest_0 : decode cX11_truest 0 = .ok (.iload_n 1, 1) := by decide +kernel
theorem dX11_truest_1 : decode cX11_truest 1 = .ok (.iload_n 2, 1) := by decide +kernel
theorem dX11_truest_2 : decode cX11_truest 2 = .ok (.iconst 0, 1) := by decide +kernel
theorem dX11_truest_3 : decode cX11_truest 3 = .ok (.iload 4, 2) := by decide +kernel
theorem dX11_truest_5 : decode cX11_truest 5 = .ok (.invokestatic 335, 3) := by decide +kernel
theorem dX11_truest_8 : decode cX11_truest 8 = .ok (.ifCond .eq 25, 3) := by decide +kernel
theorem dX11_truest_11 : decode cX11_truest 11 = .ok (.iload_n 3, 1) := by decide +kernel
theorem dX11_truest_12 : decode cX11_truest 12 = .ok (.i2l, 1) := by decide +kernel
theorem dX11_truest_13 : decode cX11_truest 13 = .ok (.iload_n 2, 1) := by decide +kernel
theorem dX11_truest_14 : decode cX11_truest 14 = .ok (.i2l, 1) := by decide +kernel
theorem dX11_truest_15 : decode cX11_truest 15 = .ok (.ldc2_w 331, 3) := by decide +kernel
theorem dX11_truest_18 : decode cX11_truest 18 = .ok (.invokestatic 124, 3) := by decide +kernel
theorem dX11_truest_21 : decode cX11_truest 21 = .ok (.ifCond .eq 12, 3) := by decide +kernel
theorem dX11_truest_24 : decode cX11_truest 24 = .ok (.iload_n 3, 1) := by decide +kernel
theorem dX11_truest_25 : decode cX11_truest 25 = .ok (.iload_n 2, 1) := by decide +kernel
theorem dX11_truest_26 : decode cX11_truest 26 = .ok (.isub, 1) := by decide +kernel
theorem dX11_truest_27 : decode cX11_truest 27 = .ok (.sipush 199, 3) := by decide +kernel
theorem dX11_truest_30 : decode cX11_truest 30 = .ok (.if_icmp .le 5, 3) := by decide +kernel
theorem dX11_truest_33 : decode cX11_truest 33 = .ok (.iconst (-1), 1) := by decide +kernel
theorem dX11_truest_34 : decode cX11_truest 34 = .ok (.ireturn, 1) := by decide +kernel
theorem dX11_truest_35 : decode cX11_truest 35 = .ok (.bipush (-4), 2) := by decide +kernel
theorem dX11_truest_37 : decode cX11_truest 37 = .ok (.istore 5, 2) := by decide +kernel
theorem dX11_truest_39 : decode cX11_truest 39 = .ok (.lconst 0, 1) := by decide +kernel
theorem dX11_truest_40 : decode cX11_truest 40 = .ok (.lstore 6, 2) := by decide +kernel
theorem dX11_truest_42 : decode cX11_truest 42 = .ok (.lconst 1, 1) := by decide +kernel
theorem dX11_truest_43 : decode cX11_truest 43 = .ok (.lstore 8, 2) := by decide +kernel
theorem dX11_truest_45 : decode cX11_truest 45 = .ok (.iload_n 2, 1) := by decide +kernel
theorem dX11_truest_46 : decode cX11_truest 46 = .ok (.istore 10, 2) := by decide +kernel
theorem dX11_truest_48 : decode cX11_truest 48 = .ok (.iload 10, 2) := by decide +kernel
theorem dX11_truest_50 : decode cX11_truest 50 = .ok (.iload_n 3, 1) := by decide +kernel
theorem dX11_truest_51 : decode cX11_truest 51 = .ok (.if_icmp .gt 123, 3) := by decide +kernel
theorem dX11_truest_54 : decode cX11_truest 54 = .ok (.aload_n 0, 1) := by decide +kernel
theorem dX11_truest_55 : decode cX11_truest 55 = .ok (.iload_n 1, 1) := by decide +kernel
theorem dX11_truest_56 : decode cX11_truest 56 = .ok (.iload 10, 2) := by decide +kernel
theorem dX11_truest_58 : decode cX11_truest 58 = .ok (.iconst 0, 1) := by decide +kernel
theorem dX11_truest_59 : decode cX11_truest 59 = .ok (.iload 4, 2) := by decide +kernel
theorem dX11_truest_61 : decode cX11_truest 61 = .ok (.invokevirtual 339, 3) := by decide +kernel
theorem dX11_truest_64 : decode cX11_truest 64 = .ok (.aload_n 0, 1) := by decide +kernel
theorem dX11_truest_65 : decode cX11_truest 65 = .ok (.iload_n 1, 1) := by decide +kernel
theorem dX11_truest_66 : decode cX11_truest 66 = .ok (.invokevirtual 349, 3) := by decide +kernel
theorem dX11_truest_69 : decode cX11_truest 69 = .ok (.lstore 11, 2) := by decide +kernel
theorem dX11_truest_71 : decode cX11_truest 71 = .ok (.aload_n 0, 1) := by decide +kernel
theorem dX11_truest_72 : decode cX11_truest 72 = .ok (.getfield 325, 3) := by decide +kernel
theorem dX11_truest_75 : decode cX11_truest 75 = .ok (.aload_n 0, 1) := by decide +kernel
theorem dX11_truest_76 : decode cX11_truest 76 = .ok (.getfield 328, 3) := by decide +kernel
theorem dX11_truest_79 : decode cX11_truest 79 = .ok (.if_icmp .le 36, 3) := by decide +kernel
theorem dX11_truest_82 : decode cX11_truest 82 = .ok (.iload 5, 2) := by decide +kernel
theorem dX11_truest_84 : decode cX11_truest 84 = .ok (.bipush (-4), 2) := by decide +kernel
theorem dX11_truest_86 : decode cX11_truest 86 = .ok (.if_icmp .eq 25, 3) := by decide +kernel
theorem dX11_truest_89 : decode cX11_truest 89 = .ok (.lload 11, 2) := by decide +kernel
theorem dX11_truest_91 : decode cX11_truest 91 = .ok (.lload 8, 2) := by decide +kernel
theorem dX11_truest_93 : decode cX11_truest 93 = .ok (.lmul, 1) := by decide +kernel
theorem dX11_truest_94 : decode cX11_truest 94 = .ok (.lload 6, 2) := by decide +kernel
theorem dX11_truest_96 : decode cX11_truest 96 = .ok (.aload_n 0, 1) := by decide +kernel
theorem dX11_truest_97 : decode cX11_truest 97 = .ok (.getfield 325, 3) := by decide +kernel
theorem dX11_truest_100 : decode cX11_truest 100 = .ok (.aload_n 0, 1) := by decide +kernel
theorem dX11_truest_101 : decode cX11_truest 101 = .ok (.getfield 328, 3) := by decide +kernel
theorem dX11_truest_104 : decode cX11_truest 104 = .ok (.isub, 1) := by decide +kernel
theorem dX11_truest_105 : decode cX11_truest 105 = .ok (.i2l, 1) := by decide +kernel
theorem dX11_truest_106 : decode cX11_truest 106 = .ok (.lmul, 1) := by decide +kernel
theorem dX11_truest_107 : decode cX11_truest 107 = .ok (.lcmp, 1) := by decide +kernel
theorem dX11_truest_108 : decode cX11_truest 108 = .ok (.ifCond .ge 7, 3) := by decide +kernel
theorem dX11_truest_111 : decode cX11_truest 111 = .ok (.iconst 1, 1) := by decide +kernel
theorem dX11_truest_112 : decode cX11_truest 112 = .ok (.goto 4, 3) := by decide +kernel
theorem dX11_truest_115 : decode cX11_truest 115 = .ok (.iconst 0, 1) := by decide +kernel
theorem dX11_truest_116 : decode cX11_truest 116 = .ok (.istore 13, 2) := by decide +kernel
theorem dX11_truest_118 : decode cX11_truest 118 = .ok (.iload 13, 2) := by decide +kernel
theorem dX11_truest_120 : decode cX11_truest 120 = .ok (.ifCond .eq 8, 3) := by decide +kernel
theorem dX11_truest_123 : decode cX11_truest 123 = .ok (.iload 10, 2) := by decide +kernel
theorem dX11_truest_125 : decode cX11_truest 125 = .ok (.goto 5, 3) := by decide +kernel
theorem dX11_truest_128 : decode cX11_truest 128 = .ok (.iload 5, 2) := by decide +kernel
theorem dX11_truest_130 : decode cX11_truest 130 = .ok (.istore 5, 2) := by decide +kernel
theorem dX11_truest_132 : decode cX11_truest 132 = .ok (.iload 13, 2) := by decide +kernel
theorem dX11_truest_134 : decode cX11_truest 134 = .ok (.ifCond .eq 8, 3) := by decide +kernel
theorem dX11_truest_137 : decode cX11_truest 137 = .ok (.lload 11, 2) := by decide +kernel
theorem dX11_truest_139 : decode cX11_truest 139 = .ok (.goto 5, 3) := by decide +kernel
theorem dX11_truest_142 : decode cX11_truest 142 = .ok (.lload 6, 2) := by decide +kernel
theorem dX11_truest_144 : decode cX11_truest 144 = .ok (.lstore 6, 2) := by decide +kernel
theorem dX11_truest_146 : decode cX11_truest 146 = .ok (.iload 13, 2) := by decide +kernel
theorem dX11_truest_148 : decode cX11_truest 148 = .ok (.ifCond .eq 16, 3) := by decide +kernel
theorem dX11_truest_151 : decode cX11_truest 151 = .ok (.aload_n 0, 1) := by decide +kernel
theorem dX11_truest_152 : decode cX11_truest 152 = .ok (.getfield 325, 3) := by decide +kernel
theorem dX11_truest_155 : decode cX11_truest 155 = .ok (.aload_n 0, 1) := by decide +kernel
theorem dX11_truest_156 : decode cX11_truest 156 = .ok (.getfield 328, 3) := by decide +kernel
theorem dX11_truest_159 : decode cX11_truest 159 = .ok (.isub, 1) := by decide +kernel
theorem dX11_truest_160 : decode cX11_truest 160 = .ok (.i2l, 1) := by decide +kernel
theorem dX11_truest_161 : decode cX11_truest 161 = .ok (.goto 5, 3) := by decide +kernel
theorem dX11_truest_164 : decode cX11_truest 164 = .ok (.lload 8, 2) := by decide +kernel
theorem dX11_truest_166 : decode cX11_truest 166 = .ok (.lstore 8, 2) := by decide +kernel
theorem dX11_truest_168 : decode cX11_truest 168 = .ok (.iinc 10 1, 3) := by decide +kernel
theorem dX11_truest_171 : decode cX11_truest 171 = .ok (.goto (-123), 3) := by decide +kernel
theorem dX11_truest_174 : decode cX11_truest 174 = .ok (.iload 5, 2) := by decide +kernel
theorem dX11_truest_176 : decode cX11_truest 176 = .ok (.ireturn, 1) := by decide +kernel
set_option maxRecDepth 100000 in
set_option maxHeartbeats 4000000 in
theorem M_X11_truest (G : zG) (l : Launch) {a1 : Int32} {a2 : Int32} {a3 : Int32} {a4 : Int32} {σ : zS} {r : Int32} {σ' : zS} (hJ : J_X11_truest a1 a2 a3 a4 σ = some (r, σ')) : zMI G l yX11_truest cX11_truest 14 (some .int) (zrm 3 71) [.ref (G.1 + 105), .int a1, .int a2, .int a3, .int a4] 137 (zen G σ) r 137 (zen G σ') := by
  unfold J_X11_truest at hJ
  refine zentI (by decide +kernel) (Nat.le_of_ble_eq_true rfl) ?_
  intro p e s m args below meth c C hret
  refine zr_sub [0, 1, 2, 3, 4] [(0, .ref (G.1 + 105)), (1, .int a1), (2, .int a2), (3, .int a3), (4, .int a4)] rfl ?_
  refine zr_iload_n C 1 dX11_truest_0 rfl ?_
  refine zr_iload_n C 2 dX11_truest_1 rfl ?_
  refine zr_iconst C dX11_truest_2 (v := (0 : Int32)) (by decide) ?_
  refine zr_iload C 4 dX11_truest_3 rfl ?_
  obtain ⟨r1, hr1, hJ⟩ := zb_e hJ
  refine zr_callSI C (M_X11_isSampling G l hr1) zin_X11_isSampling zm_38_7 rfl rfl (Nat.le_of_ble_eq_true rfl) ⟨Nat.le_of_ble_eq_true rfl, Nat.le_of_ble_eq_true rfl⟩ ⟨Nat.le_of_ble_eq_true rfl, Nat.le_of_ble_eq_true rfl⟩ dX11_truest_5 ?_
  refine zr_if_eq C 33 dX11_truest_8 (by decide) (fun hc2 => ?_) (fun hc2 => ?_)
  · have hJ := zif hc2 hJ
    refine zr_iconst C dX11_truest_33 (v := (-1 : Int32)) (by decide) ?_
    exact zr_iret C hret (Prod.mk.inj (zs_e hJ)).1 rfl (congrArg (zen G) (Prod.mk.inj (zs_e hJ)).2) dX11_truest_34
  · have hJ := zif' hc2 hJ
    refine zr_iload_n C 3 dX11_truest_11 rfl ?_
    refine zr_i2l C dX11_truest_12 ?_
    refine zr_iload_n C 2 dX11_truest_13 rfl ?_
    refine zr_i2l C dX11_truest_14 ?_
    refine zr_ldc2 C dX11_truest_15 zm_38_10 ?_
    obtain ⟨r3, hr3, hJ⟩ := zb_e hJ
    refine zr_callSI C (M_X11_in G l hr3) zin_X11_in zm_9_22 rfl rfl (Nat.le_of_ble_eq_true rfl) ⟨Nat.le_of_ble_eq_true rfl, Nat.le_of_ble_eq_true rfl⟩ ⟨Nat.le_of_ble_eq_true rfl, Nat.le_of_ble_eq_true rfl⟩ dX11_truest_18 ?_
    refine zr_if_eq C 33 dX11_truest_21 (by decide) (fun hc4 => ?_) (fun hc4 => ?_)
    · have hJ := zif hc4 hJ
      refine zr_iconst C dX11_truest_33 (v := (-1 : Int32)) (by decide) ?_
      exact zr_iret C hret (Prod.mk.inj (zs_e hJ)).1 rfl (congrArg (zen G) (Prod.mk.inj (zs_e hJ)).2) dX11_truest_34
    · have hJ := zif' hc4 hJ
      refine zr_iload_n C 3 dX11_truest_24 rfl ?_
      refine zr_iload_n C 2 dX11_truest_25 rfl ?_
      refine zr_isub C dX11_truest_26 ?_
      refine zr_sipush C dX11_truest_27 (v := (199 : Int32)) (by decide) ?_
      refine zr_icmp_le C 35 dX11_truest_30 (by decide) (fun hc5 => ?_) (fun hc5 => ?_)
      · have hJ := zif hc5 hJ
        refine zr_bipush C dX11_truest_35 (v := (-4 : Int32)) (by decide) ?_
        refine zr_istore C [(5, .int (-4 : Int32)), (0, .ref (G.1 + 105)), (1, .int a1), (2, .int a2), (3, .int a3), (4, .int a4)] dX11_truest_37 (by decide) rfl ?_
        refine zr_lconst C dX11_truest_39 (v := (0 : Int64)) (by decide) ?_
        refine zr_lstore C [(6, .long (0 : Int64)), (5, .int (-4 : Int32)), (0, .ref (G.1 + 105)), (1, .int a1), (2, .int a2), (3, .int a3), (4, .int a4)] dX11_truest_40 (by decide) rfl ?_
        refine zr_lconst C dX11_truest_42 (v := (1 : Int64)) (by decide) ?_
        refine zr_lstore C [(8, .long (1 : Int64)), (6, .long (0 : Int64)), (5, .int (-4 : Int32)), (0, .ref (G.1 + 105)), (1, .int a1), (2, .int a2), (3, .int a3), (4, .int a4)] dX11_truest_43 (by decide) rfl ?_
        refine zr_iload_n C 5 dX11_truest_45 rfl ?_
        refine zr_istore C [(10, .int a2), (8, .long (1 : Int64)), (6, .long (0 : Int64)), (5, .int (-4 : Int32)), (0, .ref (G.1 + 105)), (1, .int a1), (2, .int a2), (3, .int a3), (4, .int a4)] dX11_truest_46 (by decide) rfl ?_
        have hl48 : ∀ (n : Nat) (w5_48 : Int32) (w6_48 : Int64) (w8_48 : Int64) (w10_48 : Int32) (σ_48 : zS), L_X11_truest_48 a1 a3 a4 n w5_48 w6_48 w8_48 w10_48 σ_48 = some (r, σ') → zU G 14 p l e (zrm 3 71) s m args below meth c (MQ below (va_Qi (fun x (_ : Unit) => x = r) (fun _ t => zok G 137 (zen G σ') t) (zA G)) args s 0 0 (zA G)) σ_48 48 [(0, .ref (G.1 + 105)), (1, .int a1), (3, .int a3), (4, .int a4), (5, .int w5_48), (6, .long w6_48), (8, .long w8_48), (10, .int w10_48)] [] := by
          intro n
          induction n with
          | zero =>
            intro w5_48 w6_48 w8_48 w10_48 σ_48 hJ
            rw [L_X11_truest_48] at hJ
            cases hJ
          | succ n ih =>
            intro w5_48 w6_48 w8_48 w10_48 σ_48 hJ
            rw [L_X11_truest_48] at hJ
            obtain ⟨r_48, hr_48, hJ⟩ := zlet_e hJ
            have ih48 : ∀ (w5_48 : Int32) (w6_48 : Int64) (w8_48 : Int64) (w10_48 : Int32) (σ_48 : zS), r_48 w5_48 w6_48 w8_48 w10_48 σ_48 = some (r, σ') → zU G 14 p l e (zrm 3 71) s m args below meth c (MQ below (va_Qi (fun x (_ : Unit) => x = r) (fun _ t => zok G 137 (zen G σ') t) (zA G)) args s 0 0 (zA G)) σ_48 48 [(0, .ref (G.1 + 105)), (1, .int a1), (3, .int a3), (4, .int a4), (5, .int w5_48), (6, .long w6_48), (8, .long w8_48), (10, .int w10_48)] [] := by
              rw [hr_48]
              exact ih
            refine zr_iload C 7 dX11_truest_48 rfl ?_
            refine zr_iload_n C 2 dX11_truest_50 rfl ?_
            refine zr_icmp_gt C 174 dX11_truest_51 (by decide) (fun hc6 => ?_) (fun hc6 => ?_)
            · have hJ := zif hc6 hJ
              refine zr_iload C 4 dX11_truest_174 rfl ?_
              exact zr_iret C hret (Prod.mk.inj (zs_e hJ)).1 rfl (congrArg (zen G) (Prod.mk.inj (zs_e hJ)).2) dX11_truest_176
            · have hJ := zif' hc6 hJ
              refine zr_aload_n C 0 dX11_truest_54 rfl ?_
              refine zr_iload_n C 1 dX11_truest_55 rfl ?_
              refine zr_iload C 7 dX11_truest_56 rfl ?_
              refine zr_iconst C dX11_truest_58 (v := (0 : Int32)) (by decide) ?_
              refine zr_iload C 3 dX11_truest_59 rfl ?_
              obtain ⟨σ8, hr7, hJ⟩ := zb_e hJ
              refine zr_callVV C 105 (zk_lt zk_105 (by decide)) (zen_obj zk_105) (rfl : zcl[11]? = some (RX11, TX11, 56)) (M_X11_findSamples G l hr7) zin_X11_findSamples zm_38_12 rfl rfl (Nat.le_of_ble_eq_true rfl) ⟨Nat.le_of_ble_eq_true rfl, Nat.le_of_ble_eq_true rfl⟩ ⟨Nat.le_of_ble_eq_true rfl, Nat.le_of_ble_eq_true rfl⟩ dX11_truest_61 ?_
              refine zr_aload_n C 0 dX11_truest_64 rfl ?_
              refine zr_iload_n C 1 dX11_truest_65 rfl ?_
              obtain ⟨r9, hr9, hJ⟩ := zb_e hJ
              refine zr_callVL C 105 (zk_lt zk_105 (by decide)) (zen_obj zk_105) (rfl : zcl[11]? = some (RX11, TX11, 56)) (M_X11_farNow G l hr9) zin_X11_farNow zm_40_12 rfl rfl (Nat.le_of_ble_eq_true rfl) ⟨Nat.le_of_ble_eq_true rfl, Nat.le_of_ble_eq_true rfl⟩ ⟨Nat.le_of_ble_eq_true rfl, Nat.le_of_ble_eq_true rfl⟩ dX11_truest_66 ?_
              refine zr_lstore C [(11, .long r9), (0, .ref (G.1 + 105)), (1, .int a1), (3, .int a3), (4, .int a4), (5, .int w5_48), (6, .long w6_48), (8, .long w8_48), (10, .int w10_48)] dX11_truest_69 (by decide) rfl ?_
              refine zr_aload_n C 1 dX11_truest_71 rfl ?_
              refine zg_11_45 C 105 zk_105 zm_38_16 dX11_truest_72 ?_
              refine zr_aload_n C 1 dX11_truest_75 rfl ?_
              refine zg_11_46 C 105 zk_105 zm_38_17 dX11_truest_76 ?_
              obtain ⟨v10, hv10, hJ⟩ := zlet_e hJ
              have hf21 : zU G 14 p l e (zrm 3 71) s m args below meth c (MQ below (va_Qi (fun x (_ : Unit) => x = r) (fun _ t => zok G 137 (zen G σ') t) (zA G)) args s 0 0 (zA G)) σ8 116 [(0, .ref (G.1 + 105)), (1, .int a1), (3, .int a3), (4, .int a4), (5, .int w5_48), (6, .long w6_48), (8, .long w8_48), (10, .int w10_48), (11, .long r9)] [.int v10] := by
                refine zr_istore C [(13, .int v10), (0, .ref (G.1 + 105)), (1, .int a1), (3, .int a3), (4, .int a4), (5, .int w5_48), (6, .long w6_48), (8, .long w8_48), (10, .int w10_48), (11, .long r9)] dX11_truest_116 (by decide) rfl ?_
                refine zr_iload C 0 dX11_truest_118 rfl ?_
                obtain ⟨v11, hv11, hJ⟩ := zlet_e hJ
                have hf19 : zU G 14 p l e (zrm 3 71) s m args below meth c (MQ below (va_Qi (fun x (_ : Unit) => x = r) (fun _ t => zok G 137 (zen G σ') t) (zA G)) args s 0 0 (zA G)) σ8 130 [(0, .ref (G.1 + 105)), (1, .int a1), (3, .int a3), (4, .int a4), (6, .long w6_48), (8, .long w8_48), (10, .int w10_48), (11, .long r9), (13, .int v10)] [.int v11] := by
                  refine zr_istore C [(5, .int v11), (0, .ref (G.1 + 105)), (1, .int a1), (3, .int a3), (4, .int a4), (6, .long w6_48), (8, .long w8_48), (10, .int w10_48), (11, .long r9), (13, .int v10)] dX11_truest_130 (by decide) rfl ?_
                  refine zr_iload C 9 dX11_truest_132 rfl ?_
                  obtain ⟨v12, hv12, hJ⟩ := zlet_e hJ
                  have hf17 : zU G 14 p l e (zrm 3 71) s m args below meth c (MQ below (va_Qi (fun x (_ : Unit) => x = r) (fun _ t => zok G 137 (zen G σ') t) (zA G)) args s 0 0 (zA G)) σ8 144 [(0, .ref (G.1 + 105)), (1, .int a1), (3, .int a3), (4, .int a4), (5, .int v11), (8, .long w8_48), (10, .int w10_48), (13, .int v10)] [.long v12] := by
                    refine zr_lstore C [(6, .long v12), (0, .ref (G.1 + 105)), (1, .int a1), (3, .int a3), (4, .int a4), (5, .int v11), (8, .long w8_48), (10, .int w10_48), (13, .int v10)] dX11_truest_144 (by decide) rfl ?_
                    refine zr_iload C 8 dX11_truest_146 rfl ?_
                    obtain ⟨v13, hv13, hJ⟩ := zlet_e hJ
                    have hf15 : zU G 14 p l e (zrm 3 71) s m args below meth c (MQ below (va_Qi (fun x (_ : Unit) => x = r) (fun _ t => zok G 137 (zen G σ') t) (zA G)) args s 0 0 (zA G)) σ8 166 [(0, .ref (G.1 + 105)), (1, .int a1), (3, .int a3), (4, .int a4), (5, .int v11), (6, .long v12), (10, .int w10_48)] [.long v13] := by
                      refine zr_lstore C [(8, .long v13), (0, .ref (G.1 + 105)), (1, .int a1), (3, .int a3), (4, .int a4), (5, .int v11), (6, .long v12), (10, .int w10_48)] dX11_truest_166 (by decide) rfl ?_
                      obtain ⟨v14, hv14, hJ⟩ := zlet_e hJ
                      refine zr_iinc C v14 7 [(10, .int v14), (8, .long v13), (0, .ref (G.1 + 105)), (1, .int a1), (3, .int a3), (4, .int a4), (5, .int v11), (6, .long v12)] dX11_truest_168 rfl (hv14.trans (zinc (by decide))) (by decide) rfl ?_
                      refine zr_goto C 48 dX11_truest_171 (by decide) ?_
                      refine zr_sub [2, 3, 4, 5, 6, 7, 1, 0] [(0, .ref (G.1 + 105)), (1, .int a1), (3, .int a3), (4, .int a4), (5, .int v11), (6, .long v12), (8, .long v13), (10, .int v14)] rfl ?_
                      exact ih48 _ _ _ _ _ hJ
                    refine zr_if_eq C 164 dX11_truest_148 (by decide) (fun hc16 => ?_) (fun hc16 => ?_)
                    · have hv13 := hv13.trans (if_pos hc16)
                      refine zr_lload C 6 dX11_truest_164 rfl ?_
                      refine zr_sub [1, 2, 3, 4, 5, 0, 7] [(0, .ref (G.1 + 105)), (1, .int a1), (3, .int a3), (4, .int a4), (5, .int v11), (6, .long v12), (10, .int w10_48)] rfl ?_
                      rw [hv13] at hf15
                      exact hf15
                    · have hv13 := hv13.trans (if_neg hc16)
                      refine zr_aload_n C 1 dX11_truest_151 rfl ?_
                      refine zg_11_45 C 105 zk_105 zm_38_16 dX11_truest_152 ?_
                      refine zr_aload_n C 1 dX11_truest_155 rfl ?_
                      refine zg_11_46 C 105 zk_105 zm_38_17 dX11_truest_156 ?_
                      refine zr_isub C dX11_truest_159 ?_
                      refine zr_i2l C dX11_truest_160 ?_
                      refine zr_goto C 166 dX11_truest_161 (by decide) ?_
                      refine zr_sub [1, 2, 3, 4, 5, 0, 7] [(0, .ref (G.1 + 105)), (1, .int a1), (3, .int a3), (4, .int a4), (5, .int v11), (6, .long v12), (10, .int w10_48)] rfl ?_
                      rw [hv13] at hf15
                      exact hf15
                  refine zr_if_eq C 142 dX11_truest_134 (by decide) (fun hc18 => ?_) (fun hc18 => ?_)
                  · have hv12 := hv12.trans (if_pos hc18)
                    refine zr_lload C 5 dX11_truest_142 rfl ?_
                    refine zr_sub [1, 2, 3, 4, 0, 6, 7, 9] [(0, .ref (G.1 + 105)), (1, .int a1), (3, .int a3), (4, .int a4), (5, .int v11), (8, .long w8_48), (10, .int w10_48), (13, .int v10)] rfl ?_
                    rw [hv12] at hf17
                    exact hf17
                  · have hv12 := hv12.trans (if_neg hc18)
                    refine zr_lload C 8 dX11_truest_137 rfl ?_
                    refine zr_goto C 144 dX11_truest_139 (by decide) ?_
                    refine zr_sub [1, 2, 3, 4, 0, 6, 7, 9] [(0, .ref (G.1 + 105)), (1, .int a1), (3, .int a3), (4, .int a4), (5, .int v11), (8, .long w8_48), (10, .int w10_48), (13, .int v10)] rfl ?_
                    rw [hv12] at hf17
                    exact hf17
                refine zr_if_eq C 128 dX11_truest_120 (by decide) (fun hc20 => ?_) (fun hc20 => ?_)
                · have hv11 := hv11.trans (if_pos hc20)
                  refine zr_iload C 5 dX11_truest_128 rfl ?_
                  refine zr_sub [1, 2, 3, 4, 6, 7, 8, 9, 0] [(0, .ref (G.1 + 105)), (1, .int a1), (3, .int a3), (4, .int a4), (6, .long w6_48), (8, .long w8_48), (10, .int w10_48), (11, .long r9), (13, .int v10)] rfl ?_
                  rw [hv11] at hf19
                  exact hf19
                · have hv11 := hv11.trans (if_neg hc20)
                  refine zr_iload C 8 dX11_truest_123 rfl ?_
                  refine zr_goto C 130 dX11_truest_125 (by decide) ?_
                  refine zr_sub [1, 2, 3, 4, 6, 7, 8, 9, 0] [(0, .ref (G.1 + 105)), (1, .int a1), (3, .int a3), (4, .int a4), (6, .long w6_48), (8, .long w8_48), (10, .int w10_48), (11, .long r9), (13, .int v10)] rfl ?_
                  rw [hv11] at hf19
                  exact hf19
              refine zr_icmp_le C 115 dX11_truest_79 (by decide) (fun hc22 => ?_) (fun hc22 => ?_)
              · have hv10 := hv10.trans (if_pos hc22)
                refine zr_iconst C dX11_truest_115 (v := (0 : Int32)) (by decide) ?_
                refine zr_sub [1, 2, 3, 4, 5, 6, 7, 8, 0] [(0, .ref (G.1 + 105)), (1, .int a1), (3, .int a3), (4, .int a4), (5, .int w5_48), (6, .long w6_48), (8, .long w8_48), (10, .int w10_48), (11, .long r9)] rfl ?_
                rw [hv10] at hf21
                exact hf21
              · have hv10 := hv10.trans (if_neg hc22)
                refine zr_iload C 5 dX11_truest_82 rfl ?_
                refine zr_bipush C dX11_truest_84 (v := (-4 : Int32)) (by decide) ?_
                refine zr_icmp_eq C 111 dX11_truest_86 (by decide) (fun hc23 => ?_) (fun hc23 => ?_)
                · have hv10 := hv10.trans (if_pos hc23)
                  refine zr_iconst C dX11_truest_111 (v := (1 : Int32)) (by decide) ?_
                  refine zr_goto C 116 dX11_truest_112 (by decide) ?_
                  refine zr_sub [1, 2, 3, 4, 5, 6, 7, 8, 0] [(0, .ref (G.1 + 105)), (1, .int a1), (3, .int a3), (4, .int a4), (5, .int w5_48), (6, .long w6_48), (8, .long w8_48), (10, .int w10_48), (11, .long r9)] rfl ?_
                  rw [hv10] at hf21
                  exact hf21
                · have hv10 := hv10.trans (if_neg hc23)
                  refine zr_lload C 0 dX11_truest_89 rfl ?_
                  refine zr_lload C 7 dX11_truest_91 rfl ?_
                  refine zr_lmul C dX11_truest_93 ?_
                  refine zr_lload C 6 dX11_truest_94 rfl ?_
                  refine zr_aload_n C 1 dX11_truest_96 rfl ?_
                  refine zg_11_45 C 105 zk_105 zm_38_16 dX11_truest_97 ?_
                  refine zr_aload_n C 1 dX11_truest_100 rfl ?_
                  refine zg_11_46 C 105 zk_105 zm_38_17 dX11_truest_101 ?_
                  refine zr_isub C dX11_truest_104 ?_
                  refine zr_i2l C dX11_truest_105 ?_
                  refine zr_lmul C dX11_truest_106 ?_
                  refine zr_lcmp C dX11_truest_107 ?_
                  refine zr_if_ge C 115 dX11_truest_108 (by decide) (fun hc24 => ?_) (fun hc24 => ?_)
                  · have hv10 := hv10.trans (if_pos hc24)
                    refine zr_iconst C dX11_truest_115 (v := (0 : Int32)) (by decide) ?_
                    refine zr_sub [1, 2, 3, 4, 5, 6, 7, 8, 0] [(0, .ref (G.1 + 105)), (1, .int a1), (3, .int a3), (4, .int a4), (5, .int w5_48), (6, .long w6_48), (8, .long w8_48), (10, .int w10_48), (11, .long r9)] rfl ?_
                    rw [hv10] at hf21
                    exact hf21
                  · have hv10 := hv10.trans (if_neg hc24)
                    refine zr_iconst C dX11_truest_111 (v := (1 : Int32)) (by decide) ?_
                    refine zr_goto C 116 dX11_truest_112 (by decide) ?_
                    refine zr_sub [1, 2, 3, 4, 5, 6, 7, 8, 0] [(0, .ref (G.1 + 105)), (1, .int a1), (3, .int a3), (4, .int a4), (5, .int w5_48), (6, .long w6_48), (8, .long w8_48), (10, .int w10_48), (11, .long r9)] rfl ?_
                    rw [hv10] at hf21
                    exact hf21
        refine zr_sub [4, 5, 7, 8, 3, 2, 1, 0] [(0, .ref (G.1 + 105)), (1, .int a1), (3, .int a3), (4, .int a4), (5, .int (-4 : Int32)), (6, .long (0 : Int64)), (8, .long (1 : Int64)), (10, .int a2)] rfl ?_
        exact hl48 _ _ _ _ _ _ hJ
      · have hJ := zif' hc5 hJ
        refine zr_iconst C dX11_truest_33 (v := (-1 : Int32)) (by decide) ?_
        exact zr_iret C hret (Prod.mk.inj (zs_e hJ)).1 rfl (congrArg (zen G) (Prod.mk.inj (zs_e hJ)).2) dX11_truest_34
