theorem dX11_went_0 : decode cX11_went 0 = .ok (.iload_n 1, 1) := by decide +kernel
theorem dX11_went_1 : decode cX11_went 1 = .ok (.i2l, 1) := by decide +kernel
theorem dX11_went_2 : decode cX11_went 2 = .ok (.lconst 0, 1) := by decide +kernel
theorem dX11_went_3 : decode cX11_went 3 = .ok (.aload_n 0, 1) := by decide +kernel
theorem dX11_went_4 : decode cX11_went 4 = .ok (.getfield 206, 3) := by decide +kernel
theorem dX11_went_7 : decode cX11_went 7 = .ok (.iconst 1, 1) := by decide +kernel
theorem dX11_went_8 : decode cX11_went 8 = .ok (.isub, 1) := by decide +kernel
theorem dX11_went_9 : decode cX11_went 9 = .ok (.i2l, 1) := by decide +kernel
theorem dX11_went_10 : decode cX11_went 10 = .ok (.invokestatic 124, 3) := by decide +kernel
theorem dX11_went_13 : decode cX11_went 13 = .ok (.ifCond .eq 22, 3) := by decide +kernel
theorem dX11_went_16 : decode cX11_went 16 = .ok (.iload_n 2, 1) := by decide +kernel
theorem dX11_went_17 : decode cX11_went 17 = .ok (.invokestatic 260, 3) := by decide +kernel
theorem dX11_went_20 : decode cX11_went 20 = .ok (.ifCond .eq 15, 3) := by decide +kernel
theorem dX11_went_23 : decode cX11_went 23 = .ok (.iload_n 3, 1) := by decide +kernel
theorem dX11_went_24 : decode cX11_went 24 = .ok (.i2l, 1) := by decide +kernel
theorem dX11_went_25 : decode cX11_went 25 = .ok (.lconst 0, 1) := by decide +kernel
theorem dX11_went_26 : decode cX11_went 26 = .ok (.ldc2_w 269, 3) := by decide +kernel
theorem dX11_went_29 : decode cX11_went 29 = .ok (.invokestatic 124, 3) := by decide +kernel
theorem dX11_went_32 : decode cX11_went 32 = .ok (.ifCond .ne 5, 3) := by decide +kernel
theorem dX11_went_35 : decode cX11_went 35 = .ok (.iconst (-1), 1) := by decide +kernel
theorem dX11_went_36 : decode cX11_went 36 = .ok (.ireturn, 1) := by decide +kernel
theorem dX11_went_37 : decode cX11_went 37 = .ok (.aload_n 0, 1) := by decide +kernel
theorem dX11_went_38 : decode cX11_went 38 = .ok (.iload_n 1, 1) := by decide +kernel
theorem dX11_went_39 : decode cX11_went 39 = .ok (.invokevirtual 228, 3) := by decide +kernel
theorem dX11_went_42 : decode cX11_went 42 = .ok (.istore 4, 2) := by decide +kernel
theorem dX11_went_44 : decode cX11_went 44 = .ok (.iconst 0, 1) := by decide +kernel
theorem dX11_went_45 : decode cX11_went 45 = .ok (.istore 5, 2) := by decide +kernel
theorem dX11_went_47 : decode cX11_went 47 = .ok (.iconst 0, 1) := by decide +kernel
theorem dX11_went_48 : decode cX11_went 48 = .ok (.istore 6, 2) := by decide +kernel
theorem dX11_went_50 : decode cX11_went 50 = .ok (.iconst 0, 1) := by decide +kernel
theorem dX11_went_51 : decode cX11_went 51 = .ok (.istore 7, 2) := by decide +kernel
theorem dX11_went_53 : decode cX11_went 53 = .ok (.iload 7, 2) := by decide +kernel
theorem dX11_went_55 : decode cX11_went 55 = .ok (.aload_n 0, 1) := by decide +kernel
theorem dX11_went_56 : decode cX11_went 56 = .ok (.getfield 203, 3) := by decide +kernel
theorem dX11_went_59 : decode cX11_went 59 = .ok (.if_icmp .ge 92, 3) := by decide +kernel
theorem dX11_went_62 : decode cX11_went 62 = .ok (.iload 4, 2) := by decide +kernel
theorem dX11_went_64 : decode cX11_went 64 = .ok (.iload 7, 2) := by decide +kernel
theorem dX11_went_66 : decode cX11_went 66 = .ok (.ishr, 1) := by decide +kernel
theorem dX11_went_67 : decode cX11_went 67 = .ok (.iconst 1, 1) := by decide +kernel
theorem dX11_went_68 : decode cX11_went 68 = .ok (.iand, 1) := by decide +kernel
theorem dX11_went_69 : decode cX11_went 69 = .ok (.iconst 1, 1) := by decide +kernel
theorem dX11_went_70 : decode cX11_went 70 = .ok (.if_icmp .ne 7, 3) := by decide +kernel
theorem dX11_went_73 : decode cX11_went 73 = .ok (.iconst 1, 1) := by decide +kernel
theorem dX11_went_74 : decode cX11_went 74 = .ok (.goto 4, 3) := by decide +kernel
theorem dX11_went_77 : decode cX11_went 77 = .ok (.iconst 0, 1) := by decide +kernel
theorem dX11_went_78 : decode cX11_went 78 = .ok (.istore 8, 2) := by decide +kernel
theorem dX11_went_80 : decode cX11_went 80 = .ok (.iload 5, 2) := by decide +kernel
theorem dX11_went_82 : decode cX11_went 82 = .ok (.iload 8, 2) := by decide +kernel
theorem dX11_went_84 : decode cX11_went 84 = .ok (.ifCond .eq 7, 3) := by decide +kernel
theorem dX11_went_87 : decode cX11_went 87 = .ok (.iconst 0, 1) := by decide +kernel
theorem dX11_went_88 : decode cX11_went 88 = .ok (.goto 18, 3) := by decide +kernel
theorem dX11_went_91 : decode cX11_went 91 = .ok (.aload_n 0, 1) := by decide +kernel
theorem dX11_went_92 : decode cX11_went 92 = .ok (.getfield 28, 3) := by decide +kernel
theorem dX11_went_95 : decode cX11_went 95 = .ok (.iload 7, 2) := by decide +kernel
theorem dX11_went_97 : decode cX11_went 97 = .ok (.iaload, 1) := by decide +kernel
theorem dX11_went_98 : decode cX11_went 98 = .ok (.aload_n 0, 1) := by decide +kernel
theorem dX11_went_99 : decode cX11_went 99 = .ok (.iload 7, 2) := by decide +kernel
theorem dX11_went_101 : decode cX11_went 101 = .ok (.iload_n 2, 1) := by decide +kernel
theorem dX11_went_102 : decode cX11_went 102 = .ok (.invokevirtual 251, 3) := by decide +kernel
theorem dX11_went_105 : decode cX11_went 105 = .ok (.imul, 1) := by decide +kernel
theorem dX11_went_106 : decode cX11_went 106 = .ok (.iadd, 1) := by decide +kernel
theorem dX11_went_107 : decode cX11_went 107 = .ok (.istore 5, 2) := by decide +kernel
theorem dX11_went_109 : decode cX11_went 109 = .ok (.iload 6, 2) := by decide +kernel
theorem dX11_went_111 : decode cX11_went 111 = .ok (.iload 8, 2) := by decide +kernel
theorem dX11_went_113 : decode cX11_went 113 = .ok (.ifCond .eq 28, 3) := by decide +kernel
theorem dX11_went_116 : decode cX11_went 116 = .ok (.aload_n 0, 1) := by decide +kernel
theorem dX11_went_117 : decode cX11_went 117 = .ok (.getfield 28, 3) := by decide +kernel
theorem dX11_went_120 : decode cX11_went 120 = .ok (.iload 7, 2) := by decide +kernel
theorem dX11_went_122 : decode cX11_went 122 = .ok (.iaload, 1) := by decide +kernel
theorem dX11_went_123 : decode cX11_went 123 = .ok (.aload_n 0, 1) := by decide +kernel
theorem dX11_went_124 : decode cX11_went 124 = .ok (.getfield 19, 3) := by decide +kernel
theorem dX11_went_127 : decode cX11_went 127 = .ok (.iload_n 1, 1) := by decide +kernel
theorem dX11_went_128 : decode cX11_went 128 = .ok (.iaload, 1) := by decide +kernel
theorem dX11_went_129 : decode cX11_went 129 = .ok (.idiv, 1) := by decide +kernel
theorem dX11_went_130 : decode cX11_went 130 = .ok (.aload_n 0, 1) := by decide +kernel
theorem dX11_went_131 : decode cX11_went 131 = .ok (.iload 7, 2) := by decide +kernel
theorem dX11_went_133 : decode cX11_went 133 = .ok (.iload_n 2, 1) := by decide +kernel
theorem dX11_went_134 : decode cX11_went 134 = .ok (.invokevirtual 251, 3) := by decide +kernel
theorem dX11_went_137 : decode cX11_went 137 = .ok (.imul, 1) := by decide +kernel
theorem dX11_went_138 : decode cX11_went 138 = .ok (.goto 4, 3) := by decide +kernel
theorem dX11_went_141 : decode cX11_went 141 = .ok (.iconst 0, 1) := by decide +kernel
theorem dX11_went_142 : decode cX11_went 142 = .ok (.iadd, 1) := by decide +kernel
theorem dX11_went_143 : decode cX11_went 143 = .ok (.istore 6, 2) := by decide +kernel
theorem dX11_went_145 : decode cX11_went 145 = .ok (.iinc 7 1, 3) := by decide +kernel
theorem dX11_went_148 : decode cX11_went 148 = .ok (.goto (-95), 3) := by decide +kernel
theorem dX11_went_151 : decode cX11_went 151 = .ok (.iload_n 3, 1) := by decide +kernel
theorem dX11_went_152 : decode cX11_went 152 = .ok (.iload 5, 2) := by decide +kernel
theorem dX11_went_154 : decode cX11_went 154 = .ok (.isub, 1) := by decide +kernel
theorem dX11_went_155 : decode cX11_went 155 = .ok (.istore 7, 2) := by decide +kernel
theorem dX11_went_157 : decode cX11_went 157 = .ok (.iload 6, 2) := by decide +kernel
theorem dX11_went_159 : decode cX11_went 159 = .ok (.ifCond .ne 15, 3) := by decide +kernel
theorem dX11_went_162 : decode cX11_went 162 = .ok (.iload 7, 2) := by decide +kernel
theorem dX11_went_164 : decode cX11_went 164 = .ok (.ifCond .ne 7, 3) := by decide +kernel
theorem dX11_went_167 : decode cX11_went 167 = .ok (.iconst 0, 1) := by decide +kernel
theorem dX11_went_168 : decode cX11_went 168 = .ok (.goto 5, 3) := by decide +kernel
theorem dX11_went_171 : decode cX11_went 171 = .ok (.bipush (-4), 2) := by decide +kernel
theorem dX11_went_173 : decode cX11_went 173 = .ok (.ireturn, 1) := by decide +kernel
theorem dX11_went_174 : decode cX11_went 174 = .ok (.iload 7, 2) := by decide +kernel
theorem dX11_went_176 : decode cX11_went 176 = .ok (.ifCond .lt 30, 3) := by decide +kernel
theorem dX11_went_179 : decode cX11_went 179 = .ok (.iload 7, 2) := by decide +kernel
theorem dX11_went_181 : decode cX11_went 181 = .ok (.iload 6, 2) := by decide +kernel
theorem dX11_went_183 : decode cX11_went 183 = .ok (.irem, 1) := by decide +kernel
theorem dX11_went_184 : decode cX11_went 184 = .ok (.ifCond .ne 22, 3) := by decide +kernel
theorem dX11_went_187 : decode cX11_went 187 = .ok (.iload 7, 2) := by decide +kernel
theorem dX11_went_189 : decode cX11_went 189 = .ok (.iload 6, 2) := by decide +kernel
theorem dX11_went_191 : decode cX11_went 191 = .ok (.idiv, 1) := by decide +kernel
theorem dX11_went_192 : decode cX11_went 192 = .ok (.sipush 9999, 3) := by decide +kernel
theorem dX11_went_195 : decode cX11_went 195 = .ok (.if_icmp .gt 11, 3) := by decide +kernel
theorem dX11_went_198 : decode cX11_went 198 = .ok (.iload 7, 2) := by decide +kernel
theorem dX11_went_200 : decode cX11_went 200 = .ok (.iload 6, 2) := by decide +kernel
theorem dX11_went_202 : decode cX11_went 202 = .ok (.idiv, 1) := by decide +kernel
theorem dX11_went_203 : decode cX11_went 203 = .ok (.goto 5, 3) := by decide +kernel
theorem dX11_went_206 : decode cX11_went 206 = .ok (.bipush (-4), 2) := by decide +kernel
theorem dX11_went_208 : decode cX11_went 208 = .ok (.ireturn, 1) := by decide +kernel
set_option maxRecDepth 100000 in
set_option maxHeartbeats 4000000 in
theorem M_X11_went (G : zG) (l : Launch) {a1 : Int32} {a2 : Int32} {a3 : Int32} {σ : zS} {r : Int32} (hJ : J_X11_went a1 a2 a3 σ = some r) : zMI G l yX11_went cX11_went 9 (some .int) (zrm 2 47) [.ref (G.1 + 105), .int a1, .int a2, .int a3] 137 (zen G σ) r 137 (zen G σ) := by
  unfold J_X11_went at hJ
  refine zentI (by decide +kernel) (Nat.le_of_ble_eq_true rfl) ?_
  intro p e s m args below meth c C hret
  refine zr_sub [0, 1, 2, 3] [(0, .ref (G.1 + 105)), (1, .int a1), (2, .int a2), (3, .int a3)] rfl ?_
  refine zr_iload_n C 1 dX11_went_0 rfl ?_
  refine zr_i2l C dX11_went_1 ?_
  refine zr_lconst C dX11_went_2 (v := (0 : Int64)) (by decide) ?_
  refine zr_aload_n C 0 dX11_went_3 rfl ?_
  refine zg_11_4 C 105 zk_105 zm_19_10 dX11_went_4 ?_
  refine zr_iconst C dX11_went_7 (v := (1 : Int32)) (by decide) ?_
  refine zr_isub C dX11_went_8 ?_
  refine zr_i2l C dX11_went_9 ?_
  obtain ⟨r1, hr1, hJ⟩ := zb_e hJ
  refine zr_callSI C (M_X11_in G l hr1) zin_X11_in zm_9_22 rfl rfl (Nat.le_of_ble_eq_true rfl) ⟨Nat.le_of_ble_eq_true rfl, Nat.le_of_ble_eq_true rfl⟩ ⟨Nat.le_of_ble_eq_true rfl, Nat.le_of_ble_eq_true rfl⟩ dX11_went_10 ?_
  refine zr_if_eq C 35 dX11_went_13 (by decide) (fun hc2 => ?_) (fun hc2 => ?_)
  · have hJ := zif hc2 hJ
    refine zr_iconst C dX11_went_35 (v := (-1 : Int32)) (by decide) ?_
    exact zr_iret C hret (zs_e hJ) rfl rfl dX11_went_36
  · have hJ := zif' hc2 hJ
    refine zr_iload_n C 2 dX11_went_16 rfl ?_
    obtain ⟨r3, hr3, hJ⟩ := zb_e hJ
    refine zr_callSI C (M_X11_isEvent G l hr3) zin_X11_isEvent zm_24_0 rfl rfl (Nat.le_of_ble_eq_true rfl) ⟨Nat.le_of_ble_eq_true rfl, Nat.le_of_ble_eq_true rfl⟩ ⟨Nat.le_of_ble_eq_true rfl, Nat.le_of_ble_eq_true rfl⟩ dX11_went_17 ?_
    refine zr_if_eq C 35 dX11_went_20 (by decide) (fun hc4 => ?_) (fun hc4 => ?_)
    · have hJ := zif hc4 hJ
      refine zr_iconst C dX11_went_35 (v := (-1 : Int32)) (by decide) ?_
      exact zr_iret C hret (zs_e hJ) rfl rfl dX11_went_36
    · have hJ := zif' hc4 hJ
      refine zr_iload_n C 3 dX11_went_23 rfl ?_
      refine zr_i2l C dX11_went_24 ?_
      refine zr_lconst C dX11_went_25 (v := (0 : Int64)) (by decide) ?_
      refine zr_ldc2 C dX11_went_26 zm_26_1 ?_
      obtain ⟨r5, hr5, hJ⟩ := zb_e hJ
      refine zr_callSI C (M_X11_in G l hr5) zin_X11_in zm_9_22 rfl rfl (Nat.le_of_ble_eq_true rfl) ⟨Nat.le_of_ble_eq_true rfl, Nat.le_of_ble_eq_true rfl⟩ ⟨Nat.le_of_ble_eq_true rfl, Nat.le_of_ble_eq_true rfl⟩ dX11_went_29 ?_
      refine zr_if_ne C 37 dX11_went_32 (by decide) (fun hc6 => ?_) (fun hc6 => ?_)
      · have hJ := zif' hc6 hJ
        refine zr_aload_n C 0 dX11_went_37 rfl ?_
        refine zr_iload_n C 1 dX11_went_38 rfl ?_
        obtain ⟨r7, hr7, hJ⟩ := zb_e hJ
        refine zr_callVI C 105 (zk_lt zk_105 (by decide)) (zen_obj zk_105) (rfl : zcl[11]? = some (RX11, TX11, 56)) (M_X11_linesIn G l hr7) zin_X11_linesIn zm_19_19 rfl rfl (Nat.le_of_ble_eq_true rfl) ⟨Nat.le_of_ble_eq_true rfl, Nat.le_of_ble_eq_true rfl⟩ ⟨Nat.le_of_ble_eq_true rfl, Nat.le_of_ble_eq_true rfl⟩ dX11_went_39 ?_
        refine zr_istore C [(4, .int r7), (0, .ref (G.1 + 105)), (1, .int a1), (2, .int a2), (3, .int a3)] dX11_went_42 (by decide) rfl ?_
        refine zr_iconst C dX11_went_44 (v := (0 : Int32)) (by decide) ?_
        refine zr_istore C [(5, .int (0 : Int32)), (4, .int r7), (0, .ref (G.1 + 105)), (1, .int a1), (2, .int a2), (3, .int a3)] dX11_went_45 (by decide) rfl ?_
        refine zr_iconst C dX11_went_47 (v := (0 : Int32)) (by decide) ?_
        refine zr_istore C [(6, .int (0 : Int32)), (5, .int (0 : Int32)), (4, .int r7), (0, .ref (G.1 + 105)), (1, .int a1), (2, .int a2), (3, .int a3)] dX11_went_48 (by decide) rfl ?_
        refine zr_iconst C dX11_went_50 (v := (0 : Int32)) (by decide) ?_
        refine zr_istore C [(7, .int (0 : Int32)), (6, .int (0 : Int32)), (5, .int (0 : Int32)), (4, .int r7), (0, .ref (G.1 + 105)), (1, .int a1), (2, .int a2), (3, .int a3)] dX11_went_51 (by decide) rfl ?_
        obtain ⟨k151, hk151, hJ⟩ := zlet_e hJ
        have hj151 : ∀ (w5_151 : Int32) (w6_151 : Int32), k151 w5_151 w6_151 = some r → zU G 9 p l e (zrm 2 47) s m args below meth c (MQ below (va_Qi (fun x (_ : Unit) => x = r) (fun _ t => zok G 137 (zen G σ) t) (zA G)) args s 0 0 (zA G)) σ 151 [(3, .int a3), (5, .int w5_151), (6, .int w6_151)] [] := by
          intro w5_151 w6_151 hJ
          rw [hk151] at hJ
          unfold D_X11_went_151 at hJ
          refine zr_iload_n C 0 dX11_went_151 rfl ?_
          refine zr_iload C 1 dX11_went_152 rfl ?_
          refine zr_isub C dX11_went_154 ?_
          obtain ⟨v8, hv8, hJ⟩ := zlet_e hJ
          refine zr_topi hv8 ?_
          refine zr_istore C [(7, .int v8), (3, .int a3), (5, .int w5_151), (6, .int w6_151)] dX11_went_155 (by decide) rfl ?_
          refine zr_iload C 3 dX11_went_157 rfl ?_
          refine zr_if_ne C 174 dX11_went_159 (by decide) (fun hc9 => ?_) (fun hc9 => ?_)
          · have hJ := zif' hc9 hJ
            refine zr_iload C 0 dX11_went_174 rfl ?_
            refine zr_if_lt C 206 dX11_went_176 (by decide) (fun hc10 => ?_) (fun hc10 => ?_)
            · have hJ := zif hc10 hJ
              refine zr_bipush C dX11_went_206 (v := (-4 : Int32)) (by decide) ?_
              exact zr_iret C hret (zs_e hJ) rfl rfl dX11_went_208
            · have hJ := zif' hc10 hJ
              refine zr_iload C 0 dX11_went_179 rfl ?_
              refine zr_iload C 3 dX11_went_181 rfl ?_
              obtain ⟨hn11, hJ⟩ := zn_e hJ
              refine zr_irem C dX11_went_183 hn11 ?_
              refine zr_if_ne C 206 dX11_went_184 (by decide) (fun hc12 => ?_) (fun hc12 => ?_)
              · have hJ := zif' hc12 hJ
                refine zr_bipush C dX11_went_206 (v := (-4 : Int32)) (by decide) ?_
                exact zr_iret C hret (zs_e hJ) rfl rfl dX11_went_208
              · have hJ := zif hc12 hJ
                refine zr_iload C 0 dX11_went_187 rfl ?_
                refine zr_iload C 3 dX11_went_189 rfl ?_
                obtain ⟨hn13, hJ⟩ := zn_e hJ
                refine zr_idiv C dX11_went_191 hn13 ?_
                refine zr_sipush C dX11_went_192 (v := (9999 : Int32)) (by decide) ?_
                refine zr_icmp_gt C 206 dX11_went_195 (by decide) (fun hc14 => ?_) (fun hc14 => ?_)
                · have hJ := zif hc14 hJ
                  refine zr_bipush C dX11_went_206 (v := (-4 : Int32)) (by decide) ?_
                  exact zr_iret C hret (zs_e hJ) rfl rfl dX11_went_208
                · have hJ := zif' hc14 hJ
                  refine zr_iload C 0 dX11_went_198 rfl ?_
                  refine zr_iload C 3 dX11_went_200 rfl ?_
                  obtain ⟨hn15, hJ⟩ := zn_e hJ
                  refine zr_idiv C dX11_went_202 hn15 ?_
                  refine zr_goto C 208 dX11_went_203 (by decide) ?_
                  exact zr_iret C hret (zs_e hJ) rfl rfl dX11_went_208
          · have hJ := zif hc9 hJ
            refine zr_iload C 0 dX11_went_162 rfl ?_
            refine zr_if_ne C 171 dX11_went_164 (by decide) (fun hc16 => ?_) (fun hc16 => ?_)
            · have hJ := zif' hc16 hJ
              refine zr_bipush C dX11_went_171 (v := (-4 : Int32)) (by decide) ?_
              exact zr_iret C hret (zs_e hJ) rfl rfl dX11_went_173
            · have hJ := zif hc16 hJ
              refine zr_iconst C dX11_went_167 (v := (0 : Int32)) (by decide) ?_
              refine zr_goto C 173 dX11_went_168 (by decide) ?_
              exact zr_iret C hret (zs_e hJ) rfl rfl dX11_went_173
        have hl53 : ∀ (n : Nat) (w5_53 : Int32) (w6_53 : Int32) (w7_53 : Int32), L_X11_went_53 a1 a2 σ r7 k151 n w5_53 w6_53 w7_53 = some r → zU G 9 p l e (zrm 2 47) s m args below meth c (MQ below (va_Qi (fun x (_ : Unit) => x = r) (fun _ t => zok G 137 (zen G σ) t) (zA G)) args s 0 0 (zA G)) σ 53 [(0, .ref (G.1 + 105)), (1, .int a1), (2, .int a2), (3, .int a3), (4, .int r7), (5, .int w5_53), (6, .int w6_53), (7, .int w7_53)] [] := by
          intro n
          induction n with
          | zero =>
            intro w5_53 w6_53 w7_53 hJ
            rw [L_X11_went_53] at hJ
            cases hJ
          | succ n ih =>
            intro w5_53 w6_53 w7_53 hJ
            rw [L_X11_went_53] at hJ
            obtain ⟨r_53, hr_53, hJ⟩ := zlet_e hJ
            have ih53 : ∀ (w5_53 : Int32) (w6_53 : Int32) (w7_53 : Int32), r_53 w5_53 w6_53 w7_53 = some r → zU G 9 p l e (zrm 2 47) s m args below meth c (MQ below (va_Qi (fun x (_ : Unit) => x = r) (fun _ t => zok G 137 (zen G σ) t) (zA G)) args s 0 0 (zA G)) σ 53 [(0, .ref (G.1 + 105)), (1, .int a1), (2, .int a2), (3, .int a3), (4, .int r7), (5, .int w5_53), (6, .int w6_53), (7, .int w7_53)] [] := by
              rw [hr_53]
              exact ih
            refine zr_iload C 7 dX11_went_53 rfl ?_
            refine zr_aload_n C 0 dX11_went_55 rfl ?_
            refine zg_11_0 C 105 zk_105 zm_16_22 dX11_went_56 ?_
            refine zr_icmp_ge C 151 dX11_went_59 (by decide) (fun hc17 => ?_) (fun hc17 => ?_)
            · have hJ := zif hc17 hJ
              refine zr_sub [3, 5, 6] [(3, .int a3), (5, .int w5_53), (6, .int w6_53)] rfl ?_
              exact hj151 _ _ hJ
            · have hJ := zif' hc17 hJ
              refine zr_iload C 4 dX11_went_62 rfl ?_
              refine zr_iload C 7 dX11_went_64 rfl ?_
              refine zr_ishr C dX11_went_66 ?_
              refine zr_iconst C dX11_went_67 (v := (1 : Int32)) (by decide) ?_
              refine zr_iand C dX11_went_68 ?_
              refine zr_iconst C dX11_went_69 (v := (1 : Int32)) (by decide) ?_
              obtain ⟨v18, hv18, hJ⟩ := zlet_e hJ
              have hf33 : zU G 9 p l e (zrm 2 47) s m args below meth c (MQ below (va_Qi (fun x (_ : Unit) => x = r) (fun _ t => zok G 137 (zen G σ) t) (zA G)) args s 0 0 (zA G)) σ 78 [(0, .ref (G.1 + 105)), (1, .int a1), (2, .int a2), (3, .int a3), (4, .int r7), (5, .int w5_53), (6, .int w6_53), (7, .int w7_53)] [.int v18] := by
                refine zr_istore C [(8, .int v18), (0, .ref (G.1 + 105)), (1, .int a1), (2, .int a2), (3, .int a3), (4, .int r7), (5, .int w5_53), (6, .int w6_53), (7, .int w7_53)] dX11_went_78 (by decide) rfl ?_
                refine zr_iload C 6 dX11_went_80 rfl ?_
                refine zr_iload C 0 dX11_went_82 rfl ?_
                obtain ⟨k106, hk106, hJ⟩ := zlet_e hJ
                have hj106 : ∀ (x0_106 : Int32), k106 x0_106 = some r → zU G 9 p l e (zrm 2 47) s m args below meth c (MQ below (va_Qi (fun x (_ : Unit) => x = r) (fun _ t => zok G 137 (zen G σ) t) (zA G)) args s 0 0 (zA G)) σ 106 [(0, .ref (G.1 + 105)), (1, .int a1), (2, .int a2), (3, .int a3), (4, .int r7), (6, .int w6_53), (7, .int w7_53), (8, .int v18)] [.int x0_106, .int w5_53] := by
                  intro x0_106 hJ
                  rw [hk106] at hJ
                  unfold D_X11_went_106 at hJ
                  refine zr_iadd C dX11_went_106 ?_
                  obtain ⟨v19, hv19, hJ⟩ := zlet_e hJ
                  refine zr_topi hv19 ?_
                  refine zr_istore C [(5, .int v19), (0, .ref (G.1 + 105)), (1, .int a1), (2, .int a2), (3, .int a3), (4, .int r7), (6, .int w6_53), (7, .int w7_53), (8, .int v18)] dX11_went_107 (by decide) rfl ?_
                  refine zr_iload C 6 dX11_went_109 rfl ?_
                  refine zr_iload C 8 dX11_went_111 rfl ?_
                  refine zr_if_eq C 141 dX11_went_113 (by decide) (fun hc20 => ?_) (fun hc20 => ?_)
                  · have hJ := zif hc20 hJ
                    refine zr_iconst C dX11_went_141 (v := (0 : Int32)) (by decide) ?_
                    refine zr_iadd C dX11_went_142 ?_
                    obtain ⟨v21, hv21, hJ⟩ := zlet_e hJ
                    refine zr_topi hv21 ?_
                    refine zr_istore C [(6, .int v21), (5, .int v19), (0, .ref (G.1 + 105)), (1, .int a1), (2, .int a2), (3, .int a3), (4, .int r7), (7, .int w7_53), (8, .int v18)] dX11_went_143 (by decide) rfl ?_
                    obtain ⟨v22, hv22, hJ⟩ := zlet_e hJ
                    refine zr_iinc C v22 7 [(7, .int v22), (6, .int v21), (5, .int v19), (0, .ref (G.1 + 105)), (1, .int a1), (2, .int a2), (3, .int a3), (4, .int r7), (8, .int v18)] dX11_went_145 rfl (hv22.trans (zinc (by decide))) (by decide) rfl ?_
                    refine zr_goto C 53 dX11_went_148 (by decide) ?_
                    refine zr_sub [3, 4, 5, 6, 7, 2, 1, 0] [(0, .ref (G.1 + 105)), (1, .int a1), (2, .int a2), (3, .int a3), (4, .int r7), (5, .int v19), (6, .int v21), (7, .int v22)] rfl ?_
                    exact ih53 _ _ _ hJ
                  · have hJ := zif' hc20 hJ
                    refine zr_aload_n C 1 dX11_went_116 rfl ?_
                    refine zg_11_9 C 105 zk_105 zm_7_17 dX11_went_117 ?_
                    refine zr_iload C 7 dX11_went_120 rfl ?_
                    obtain ⟨hg23, hJ⟩ := zg_e hJ
                    refine zu_iald C 112 zk_112 hg23 dX11_went_122 ?_
                    refine zr_aload_n C 1 dX11_went_123 rfl ?_
                    refine zg_11_5 C 105 zk_105 zm_7_14 dX11_went_124 ?_
                    refine zr_iload_n C 2 dX11_went_127 rfl ?_
                    obtain ⟨hg24, hJ⟩ := zg_e hJ
                    refine zu_iald C 109 zk_109 hg24 dX11_went_128 ?_
                    obtain ⟨v25, hv25, hJ⟩ := zlet_e hJ
                    refine zr_topi hv25 ?_
                    obtain ⟨hn26, hJ⟩ := zn_e hJ
                    refine zr_idiv C dX11_went_129 hn26 ?_
                    refine zr_aload_n C 1 dX11_went_130 rfl ?_
                    refine zr_iload C 7 dX11_went_131 rfl ?_
                    refine zr_iload_n C 3 dX11_went_133 rfl ?_
                    obtain ⟨r27, hr27, hJ⟩ := zb_e hJ
                    refine zr_callVI C 105 (zk_lt zk_105 (by decide)) (zen_obj zk_105) (rfl : zcl[11]? = some (RX11, TX11, 56)) (M_X11_made G l hr27) zin_X11_made zm_21_9 rfl rfl (Nat.le_of_ble_eq_true rfl) ⟨Nat.le_of_ble_eq_true rfl, Nat.le_of_ble_eq_true rfl⟩ ⟨Nat.le_of_ble_eq_true rfl, Nat.le_of_ble_eq_true rfl⟩ dX11_went_134 ?_
                    refine zr_imul C dX11_went_137 ?_
                    refine zr_goto C 142 dX11_went_138 (by decide) ?_
                    refine zr_iadd C dX11_went_142 ?_
                    obtain ⟨v28, hv28, hJ⟩ := zlet_e hJ
                    refine zr_topi hv28 ?_
                    refine zr_istore C [(6, .int v28), (5, .int v19), (0, .ref (G.1 + 105)), (1, .int a1), (2, .int a2), (3, .int a3), (4, .int r7), (7, .int w7_53), (8, .int v18)] dX11_went_143 (by decide) rfl ?_
                    obtain ⟨v29, hv29, hJ⟩ := zlet_e hJ
                    refine zr_iinc C v29 7 [(7, .int v29), (6, .int v28), (5, .int v19), (0, .ref (G.1 + 105)), (1, .int a1), (2, .int a2), (3, .int a3), (4, .int r7), (8, .int v18)] dX11_went_145 rfl (hv29.trans (zinc (by decide))) (by decide) rfl ?_
                    refine zr_goto C 53 dX11_went_148 (by decide) ?_
                    refine zr_sub [3, 4, 5, 6, 7, 2, 1, 0] [(0, .ref (G.1 + 105)), (1, .int a1), (2, .int a2), (3, .int a3), (4, .int r7), (5, .int v19), (6, .int v28), (7, .int v29)] rfl ?_
                    exact ih53 _ _ _ hJ
                refine zr_if_eq C 91 dX11_went_84 (by decide) (fun hc30 => ?_) (fun hc30 => ?_)
                · have hJ := zif hc30 hJ
                  refine zr_aload_n C 1 dX11_went_91 rfl ?_
                  refine zg_11_9 C 105 zk_105 zm_7_17 dX11_went_92 ?_
                  refine zr_iload C 8 dX11_went_95 rfl ?_
                  obtain ⟨hg31, hJ⟩ := zg_e hJ
                  refine zu_iald C 112 zk_112 hg31 dX11_went_97 ?_
                  refine zr_aload_n C 1 dX11_went_98 rfl ?_
                  refine zr_iload C 8 dX11_went_99 rfl ?_
                  refine zr_iload_n C 3 dX11_went_101 rfl ?_
                  obtain ⟨r32, hr32, hJ⟩ := zb_e hJ
                  refine zr_callVI C 105 (zk_lt zk_105 (by decide)) (zen_obj zk_105) (rfl : zcl[11]? = some (RX11, TX11, 56)) (M_X11_made G l hr32) zin_X11_made zm_21_9 rfl rfl (Nat.le_of_ble_eq_true rfl) ⟨Nat.le_of_ble_eq_true rfl, Nat.le_of_ble_eq_true rfl⟩ ⟨Nat.le_of_ble_eq_true rfl, Nat.le_of_ble_eq_true rfl⟩ dX11_went_102 ?_
                  refine zr_imul C dX11_went_105 ?_
                  refine zr_sub [1, 2, 3, 4, 5, 7, 8, 0] [(0, .ref (G.1 + 105)), (1, .int a1), (2, .int a2), (3, .int a3), (4, .int r7), (6, .int w6_53), (7, .int w7_53), (8, .int v18)] rfl ?_
                  exact hj106 _ hJ
                · have hJ := zif' hc30 hJ
                  refine zr_iconst C dX11_went_87 (v := (0 : Int32)) (by decide) ?_
                  refine zr_goto C 106 dX11_went_88 (by decide) ?_
                  refine zr_sub [1, 2, 3, 4, 5, 7, 8, 0] [(0, .ref (G.1 + 105)), (1, .int a1), (2, .int a2), (3, .int a3), (4, .int r7), (6, .int w6_53), (7, .int w7_53), (8, .int v18)] rfl ?_
                  exact hj106 _ hJ
              refine zr_icmp_ne C 77 dX11_went_70 (by decide) (fun hc34 => ?_) (fun hc34 => ?_)
              · have hv18 := hv18.trans (if_neg hc34)
                refine zr_iconst C dX11_went_77 (v := (0 : Int32)) (by decide) ?_
                rw [hv18] at hf33
                exact hf33
              · have hv18 := hv18.trans (if_pos hc34)
                refine zr_iconst C dX11_went_73 (v := (1 : Int32)) (by decide) ?_
                refine zr_goto C 78 dX11_went_74 (by decide) ?_
                rw [hv18] at hf33
                exact hf33
        refine zr_sub [4, 5, 6, 7, 3, 2, 1, 0] [(0, .ref (G.1 + 105)), (1, .int a1), (2, .int a2), (3, .int a3), (4, .int r7), (5, .int (0 : Int32)), (6, .int (0 : Int32)), (7, .int (0 : Int32))] rfl ?_
        exact hl53 _ _ _ _ hJ
      · have hJ := zif hc6 hJ
        refine zr_iconst C dX11_went_35 (v := (-1 : Int32)) (by decide) ?_
        exact zr_iret C hret (zs_e hJ) rfl rfl dX11_went_36
theorem dX11_whole_0 : decode cX11_whole 0 = .ok (.iload_n 1, 1) := by decide +kernel
theorem dX11_whole_1 : decode cX11_whole 1 = .ok (.ifCond .ne 10, 3) := by decide +kernel
theorem dX11_whole_4 : decode cX11_whole 4 = .ok (.aload_n 0, 1) := by decide +kernel
theorem dX11_whole_5 : decode cX11_whole 5 = .ok (.getfield 225, 3) := by decide +kernel
theorem dX11_whole_8 : decode cX11_whole 8 = .ok (.goto 41, 3) := by decide +kernel
theorem dX11_whole_11 : decode cX11_whole 11 = .ok (.iload_n 1, 1) := by decide +kernel
theorem dX11_whole_12 : decode cX11_whole 12 = .ok (.iconst 1, 1) := by decide +kernel
theorem dX11_whole_13 : decode cX11_whole 13 = .ok (.if_icmp .ne 10, 3) := by decide +kernel
theorem dX11_whole_16 : decode cX11_whole 16 = .ok (.aload_n 0, 1) := by decide +kernel
theorem dX11_whole_17 : decode cX11_whole 17 = .ok (.getfield 212, 3) := by decide +kernel
theorem dX11_whole_20 : decode cX11_whole 20 = .ok (.goto 29, 3) := by decide +kernel
theorem dX11_whole_23 : decode cX11_whole 23 = .ok (.iload_n 1, 1) := by decide +kernel
theorem dX11_whole_24 : decode cX11_whole 24 = .ok (.i2l, 1) := by decide +kernel
theorem dX11_whole_25 : decode cX11_whole 25 = .ok (.ldc2_w 247, 3) := by decide +kernel
theorem dX11_whole_28 : decode cX11_whole 28 = .ok (.ldc2_w 249, 3) := by decide +kernel
theorem dX11_whole_31 : decode cX11_whole 31 = .ok (.invokestatic 124, 3) := by decide +kernel
theorem dX11_whole_34 : decode cX11_whole 34 = .ok (.ifCond .eq 14, 3) := by decide +kernel
theorem dX11_whole_37 : decode cX11_whole 37 = .ok (.aload_n 0, 1) := by decide +kernel
theorem dX11_whole_38 : decode cX11_whole 38 = .ok (.iload_n 1, 1) := by decide +kernel
theorem dX11_whole_39 : decode cX11_whole 39 = .ok (.bipush 10, 2) := by decide +kernel
theorem dX11_whole_41 : decode cX11_whole 41 = .ok (.isub, 1) := by decide +kernel
theorem dX11_whole_42 : decode cX11_whole 42 = .ok (.invokevirtual 257, 3) := by decide +kernel
theorem dX11_whole_45 : decode cX11_whole 45 = .ok (.goto 4, 3) := by decide +kernel
theorem dX11_whole_48 : decode cX11_whole 48 = .ok (.iconst (-1), 1) := by decide +kernel
theorem dX11_whole_49 : decode cX11_whole 49 = .ok (.ireturn, 1) := by decide +kernel
set_option maxRecDepth 100000 in
set_option maxHeartbeats 4000000 in
theorem M_X11_whole (G : zG) (l : Launch) {a1 : Int32} {σ : zS} {r : Int32} (hJ : J_X11_whole a1 σ = some r) : zMI G l yX11_whole cX11_whole 2 (some .int) (zrm 2 45) [.ref (G.1 + 105), .int a1] 137 (zen G σ) r 137 (zen G σ) := by
  unfold J_X11_whole at hJ
  refine zentI (by decide +kernel) (Nat.le_of_ble_eq_true rfl) ?_
  intro p e s m args below meth c C hret
  refine zr_sub [0, 1] [(0, .ref (G.1 + 105)), (1, .int a1)] rfl ?_
  refine zr_iload_n C 1 dX11_whole_0 rfl ?_
  refine zr_if_ne C 11 dX11_whole_1 (by decide) (fun hc1 => ?_) (fun hc1 => ?_)
  · have hJ := zif' hc1 hJ
    refine zr_iload_n C 1 dX11_whole_11 rfl ?_
    refine zr_iconst C dX11_whole_12 (v := (1 : Int32)) (by decide) ?_
    refine zr_icmp_ne C 23 dX11_whole_13 (by decide) (fun hc2 => ?_) (fun hc2 => ?_)
    · have hJ := zif' hc2 hJ
      refine zr_iload_n C 1 dX11_whole_23 rfl ?_
      refine zr_i2l C dX11_whole_24 ?_
      refine zr_ldc2 C dX11_whole_25 zm_21_3 ?_
      refine zr_ldc2 C dX11_whole_28 zm_21_4 ?_
      obtain ⟨r3, hr3, hJ⟩ := zb_e hJ
      refine zr_callSI C (M_X11_in G l hr3) zin_X11_in zm_9_22 rfl rfl (Nat.le_of_ble_eq_true rfl) ⟨Nat.le_of_ble_eq_true rfl, Nat.le_of_ble_eq_true rfl⟩ ⟨Nat.le_of_ble_eq_true rfl, Nat.le_of_ble_eq_true rfl⟩ dX11_whole_31 ?_
      refine zr_if_eq C 48 dX11_whole_34 (by decide) (fun hc4 => ?_) (fun hc4 => ?_)
      · have hJ := zif hc4 hJ
        refine zr_iconst C dX11_whole_48 (v := (-1 : Int32)) (by decide) ?_
        exact zr_iret C hret (zs_e hJ) rfl rfl dX11_whole_49
      · have hJ := zif' hc4 hJ
        refine zr_aload_n C 0 dX11_whole_37 rfl ?_
        refine zr_iload_n C 1 dX11_whole_38 rfl ?_
        refine zr_bipush C dX11_whole_39 (v := (10 : Int32)) (by decide) ?_
        refine zr_isub C dX11_whole_41 ?_
        obtain ⟨r5, hr5, hJ⟩ := zb_e hJ
        refine zr_callVI C 105 (zk_lt zk_105 (by decide)) (zen_obj zk_105) (rfl : zcl[11]? = some (RX11, TX11, 56)) (M_X11_total G l hr5) zin_X11_total zm_22_23 rfl rfl (Nat.le_of_ble_eq_true rfl) ⟨Nat.le_of_ble_eq_true rfl, Nat.le_of_ble_eq_true rfl⟩ ⟨Nat.le_of_ble_eq_true rfl, Nat.le_of_ble_eq_true rfl⟩ dX11_whole_42 ?_
        refine zr_goto C 49 dX11_whole_45 (by decide) ?_
        exact zr_iret C hret (zs_e hJ) rfl rfl dX11_whole_49
    · have hJ := zif hc2 hJ
      refine zr_aload_n C 0 dX11_whole_16 rfl ?_
      refine zg_11_10 C 105 zk_105 zm_19_12 dX11_whole_17 ?_
      refine zr_goto C 49 dX11_whole_20 (by decide) ?_
      exact zr_iret C hret (zs_e hJ) rfl rfl dX11_whole_49
  · have hJ := zif hc1 hJ
    refine zr_aload_n C 0 dX11_whole_4 rfl ?_
    refine zg_11_7 C 105 zk_105 zm_19_18 dX11_whole_5 ?_
    refine zr_goto C 49 dX11_whole_8 (by decide) ?_
    exact zr_iret C hret (zs_e hJ) rfl rfl dX11_whole_49
theorem dX11_width_0 : decode cX11_width 0 = .ok (.aload_n 0, 1) := by decide +kernel
theorem dX11_width_1 : decode cX11_width 1 = .ok (.iload_n 1, 1) := by decide +kernel
theorem dX11_width_2 : decode cX11_width 2 = .ok (.invokevirtual 279, 3) := by decide +kernel
theorem dX11_width_5 : decode cX11_width 5 = .ok (.ifCond .eq 17, 3) := by decide +kernel
theorem dX11_width_8 : decode cX11_width 8 = .ok (.iload_n 2, 1) := by decide +kernel
theorem dX11_width_9 : decode cX11_width 9 = .ok (.i2l, 1) := by decide +kernel
theorem dX11_width_10 : decode cX11_width 10 = .ok (.ldc2_w 282, 3) := by decide +kernel
theorem dX11_width_13 : decode cX11_width 13 = .ok (.ldc2_w 284, 3) := by decide +kernel
theorem dX11_width_16 : decode cX11_width 16 = .ok (.invokestatic 124, 3) := by decide +kernel
theorem dX11_width_19 : decode cX11_width 19 = .ok (.ifCond .ne 5, 3) := by decide +kernel
theorem dX11_width_22 : decode cX11_width 22 = .ok (.iconst (-1), 1) := by decide +kernel
theorem dX11_width_23 : decode cX11_width 23 = .ok (.ireturn, 1) := by decide +kernel
theorem dX11_width_24 : decode cX11_width 24 = .ok (.aload_n 0, 1) := by decide +kernel
theorem dX11_width_25 : decode cX11_width 25 = .ok (.getfield 74, 3) := by decide +kernel
theorem dX11_width_28 : decode cX11_width 28 = .ok (.iload_n 1, 1) := by decide +kernel
theorem dX11_width_29 : decode cX11_width 29 = .ok (.iaload, 1) := by decide +kernel
theorem dX11_width_30 : decode cX11_width 30 = .ok (.istore_n 3, 1) := by decide +kernel
theorem dX11_width_31 : decode cX11_width 31 = .ok (.aload_n 0, 1) := by decide +kernel
theorem dX11_width_32 : decode cX11_width 32 = .ok (.getfield 74, 3) := by decide +kernel
theorem dX11_width_35 : decode cX11_width 35 = .ok (.iload_n 1, 1) := by decide +kernel
theorem dX11_width_36 : decode cX11_width 36 = .ok (.iload_n 2, 1) := by decide +kernel
theorem dX11_width_37 : decode cX11_width 37 = .ok (.iastore, 1) := by decide +kernel
theorem dX11_width_38 : decode cX11_width 38 = .ok (.iload_n 3, 1) := by decide +kernel
theorem dX11_width_39 : decode cX11_width 39 = .ok (.ireturn, 1) := by decide +kernel
set_option maxRecDepth 100000 in
set_option maxHeartbeats 4000000 in
theorem M_X11_width (G : zG) (l : Launch) {a1 : Int32} {a2 : Int32} {σ : zS} {r : Int32} {σ' : zS} (hJ : J_X11_width a1 a2 σ = some (r, σ')) : zMI G l yX11_width cX11_width 4 (some .int) (zrm 2 46) [.ref (G.1 + 105), .int a1, .int a2] 137 (zen G σ) r 137 (zen G σ') := by
  unfold J_X11_width at hJ
  refine zentI (by decide +kernel) (Nat.le_of_ble_eq_true rfl) ?_
  intro p e s m args below meth c C hret
  refine zr_sub [0, 1, 2] [(0, .ref (G.1 + 105)), (1, .int a1), (2, .int a2)] rfl ?_
  refine zr_aload_n C 0 dX11_width_0 rfl ?_
  refine zr_iload_n C 1 dX11_width_1 rfl ?_
  obtain ⟨r1, hr1, hJ⟩ := zb_e hJ
  refine zr_callVI C 105 (zk_lt zk_105 (by decide)) (zen_obj zk_105) (rfl : zcl[11]? = some (RX11, TX11, 56)) (M_X11_isCounter G l hr1) zin_X11_isCounter zm_30_3 rfl rfl (Nat.le_of_ble_eq_true rfl) ⟨Nat.le_of_ble_eq_true rfl, Nat.le_of_ble_eq_true rfl⟩ ⟨Nat.le_of_ble_eq_true rfl, Nat.le_of_ble_eq_true rfl⟩ dX11_width_2 ?_
  refine zr_if_eq C 22 dX11_width_5 (by decide) (fun hc2 => ?_) (fun hc2 => ?_)
  · have hJ := zif hc2 hJ
    refine zr_iconst C dX11_width_22 (v := (-1 : Int32)) (by decide) ?_
    exact zr_iret C hret (Prod.mk.inj (zs_e hJ)).1 rfl (congrArg (zen G) (Prod.mk.inj (zs_e hJ)).2) dX11_width_23
  · have hJ := zif' hc2 hJ
    refine zr_iload_n C 2 dX11_width_8 rfl ?_
    refine zr_i2l C dX11_width_9 ?_
    refine zr_ldc2 C dX11_width_10 zm_30_16 ?_
    refine zr_ldc2 C dX11_width_13 zm_30_17 ?_
    obtain ⟨r3, hr3, hJ⟩ := zb_e hJ
    refine zr_callSI C (M_X11_in G l hr3) zin_X11_in zm_9_22 rfl rfl (Nat.le_of_ble_eq_true rfl) ⟨Nat.le_of_ble_eq_true rfl, Nat.le_of_ble_eq_true rfl⟩ ⟨Nat.le_of_ble_eq_true rfl, Nat.le_of_ble_eq_true rfl⟩ dX11_width_16 ?_
    refine zr_if_ne C 24 dX11_width_19 (by decide) (fun hc4 => ?_) (fun hc4 => ?_)
    · have hJ := zif' hc4 hJ
      refine zr_aload_n C 0 dX11_width_24 rfl ?_
      refine zg_11_38 C 105 zk_105 zm_8_8 dX11_width_25 ?_
      refine zr_iload_n C 1 dX11_width_28 rfl ?_
      obtain ⟨hg5, hJ⟩ := zg_e hJ
      refine zu_iald C 126 zk_126 hg5 dX11_width_29 ?_
      obtain ⟨v6, hv6, hJ⟩ := zlet_e hJ
      refine zr_topi hv6 ?_
      refine zr_istore_n C [(3, .int v6), (0, .ref (G.1 + 105)), (1, .int a1), (2, .int a2)] dX11_width_30 (by decide) rfl ?_
      refine zr_aload_n C 1 dX11_width_31 rfl ?_
      refine zg_11_38 C 105 zk_105 zm_8_8 dX11_width_32 ?_
      refine zr_iload_n C 2 dX11_width_35 rfl ?_
      refine zr_iload_n C 3 dX11_width_36 rfl ?_
      obtain ⟨hg7, hJ⟩ := zg_e hJ
      obtain ⟨σ8, hσ8, hJ⟩ := zlet_e hJ
      refine zv_iast C 126 zk_126 hg7 hσ8 dX11_width_37 ?_
      refine zr_iload_n C 0 dX11_width_38 rfl ?_
      exact zr_iret C hret (Prod.mk.inj (zs_e hJ)).1 rfl (congrArg (zen G) (Prod.mk.inj (zs_e hJ)).2) dX11_width_39
    · have hJ := zif hc4 hJ
      refine zr_iconst C dX11_width_22 (v := (-1 : Int32)) (by decide) ?_
      exact zr_iret C hret (Prod.mk.inj (zs_e hJ)).1 rfl (congrArg (zen G) (Prod.mk.inj (zs_e hJ)).2) dX11_width_23
theorem dX11_wired_0 : decode cX11_wired 0 = .ok (.aload_n 0, 1) := by decide +kernel
theorem dX11_wired_1 : decode cX11_wired 1 = .ok (.iload_n 1, 1) := by decide +kernel
theorem dX11_wired_2 : decode cX11_wired 2 = .ok (.invokevirtual 279, 3) := by decide +kernel
theorem dX11_wired_5 : decode cX11_wired 5 = .ok (.ifCond .eq 20, 3) := by decide +kernel
theorem dX11_wired_8 : decode cX11_wired 8 = .ok (.iload_n 2, 1) := by decide +kernel
theorem dX11_wired_9 : decode cX11_wired 9 = .ok (.invokestatic 260, 3) := by decide +kernel
theorem dX11_wired_12 : decode cX11_wired 12 = .ok (.ifCond .eq 13, 3) := by decide +kernel
theorem dX11_wired_15 : decode cX11_wired 15 = .ok (.iload_n 3, 1) := by decide +kernel
theorem dX11_wired_16 : decode cX11_wired 16 = .ok (.ifCond .eq 11, 3) := by decide +kernel
theorem dX11_wired_19 : decode cX11_wired 19 = .ok (.iload_n 3, 1) := by decide +kernel
theorem dX11_wired_20 : decode cX11_wired 20 = .ok (.bipush 10, 2) := by decide +kernel
theorem dX11_wired_22 : decode cX11_wired 22 = .ok (.if_icmp .ge 5, 3) := by decide +kernel
theorem dX11_wired_25 : decode cX11_wired 25 = .ok (.iconst (-1), 1) := by decide +kernel
theorem dX11_wired_26 : decode cX11_wired 26 = .ok (.ireturn, 1) := by decide +kernel
theorem dX11_wired_27 : decode cX11_wired 27 = .ok (.aload_n 0, 1) := by decide +kernel
theorem dX11_wired_28 : decode cX11_wired 28 = .ok (.iload_n 1, 1) := by decide +kernel
theorem dX11_wired_29 : decode cX11_wired 29 = .ok (.iload_n 2, 1) := by decide +kernel
theorem dX11_wired_30 : decode cX11_wired 30 = .ok (.invokevirtual 362, 3) := by decide +kernel
theorem dX11_wired_33 : decode cX11_wired 33 = .ok (.ifCond .ne 14, 3) := by decide +kernel
theorem dX11_wired_36 : decode cX11_wired 36 = .ok (.iload_n 3, 1) := by decide +kernel
theorem dX11_wired_37 : decode cX11_wired 37 = .ok (.ifCond .ne 8, 3) := by decide +kernel
theorem dX11_wired_40 : decode cX11_wired 40 = .ok (.bipush (-4), 2) := by decide +kernel
theorem dX11_wired_42 : decode cX11_wired 42 = .ok (.goto 4, 3) := by decide +kernel
theorem dX11_wired_45 : decode cX11_wired 45 = .ok (.iconst (-1), 1) := by decide +kernel
theorem dX11_wired_46 : decode cX11_wired 46 = .ok (.ireturn, 1) := by decide +kernel
theorem dX11_wired_47 : decode cX11_wired 47 = .ok (.iconst 0, 1) := by decide +kernel
theorem dX11_wired_48 : decode cX11_wired 48 = .ok (.istore 4, 2) := by decide +kernel
theorem dX11_wired_50 : decode cX11_wired 50 = .ok (.iconst 1, 1) := by decide +kernel
theorem dX11_wired_51 : decode cX11_wired 51 = .ok (.istore 5, 2) := by decide +kernel
theorem dX11_wired_53 : decode cX11_wired 53 = .ok (.iload 5, 2) := by decide +kernel
theorem dX11_wired_55 : decode cX11_wired 55 = .ok (.iconst 3, 1) := by decide +kernel
theorem dX11_wired_56 : decode cX11_wired 56 = .ok (.if_icmp .ge 62, 3) := by decide +kernel
theorem dX11_wired_59 : decode cX11_wired 59 = .ok (.iconst 1, 1) := by decide +kernel
theorem dX11_wired_60 : decode cX11_wired 60 = .ok (.istore 6, 2) := by decide +kernel
theorem dX11_wired_62 : decode cX11_wired 62 = .ok (.iload 6, 2) := by decide +kernel
theorem dX11_wired_64 : decode cX11_wired 64 = .ok (.sipush 256, 3) := by decide +kernel
theorem dX11_wired_67 : decode cX11_wired 67 = .ok (.if_icmp .ge 45, 3) := by decide +kernel
theorem dX11_wired_70 : decode cX11_wired 70 = .ok (.iload 6, 2) := by decide +kernel
theorem dX11_wired_72 : decode cX11_wired 72 = .ok (.invokestatic 273, 3) := by decide +kernel
theorem dX11_wired_75 : decode cX11_wired 75 = .ok (.iload 5, 2) := by decide +kernel
theorem dX11_wired_77 : decode cX11_wired 77 = .ok (.if_icmp .ne 29, 3) := by decide +kernel
theorem dX11_wired_80 : decode cX11_wired 80 = .ok (.aload_n 0, 1) := by decide +kernel
theorem dX11_wired_81 : decode cX11_wired 81 = .ok (.iload_n 1, 1) := by decide +kernel
theorem dX11_wired_82 : decode cX11_wired 82 = .ok (.iload_n 2, 1) := by decide +kernel
theorem dX11_wired_83 : decode cX11_wired 83 = .ok (.iload 6, 2) := by decide +kernel
theorem dX11_wired_85 : decode cX11_wired 85 = .ok (.invokevirtual 365, 3) := by decide +kernel
theorem dX11_wired_88 : decode cX11_wired 88 = .ok (.ifCond .eq 18, 3) := by decide +kernel
theorem dX11_wired_91 : decode cX11_wired 91 = .ok (.iload_n 3, 1) := by decide +kernel
theorem dX11_wired_92 : decode cX11_wired 92 = .ok (.bipush 10, 2) := by decide +kernel
theorem dX11_wired_94 : decode cX11_wired 94 = .ok (.iload 4, 2) := by decide +kernel
theorem dX11_wired_96 : decode cX11_wired 96 = .ok (.iadd, 1) := by decide +kernel
theorem dX11_wired_97 : decode cX11_wired 97 = .ok (.if_icmp .ne 6, 3) := by decide +kernel
theorem dX11_wired_100 : decode cX11_wired 100 = .ok (.iload 6, 2) := by decide +kernel
theorem dX11_wired_102 : decode cX11_wired 102 = .ok (.ireturn, 1) := by decide +kernel
theorem dX11_wired_103 : decode cX11_wired 103 = .ok (.iinc 4 1, 3) := by decide +kernel
theorem dX11_wired_106 : decode cX11_wired 106 = .ok (.iinc 6 1, 3) := by decide +kernel
theorem dX11_wired_109 : decode cX11_wired 109 = .ok (.goto (-47), 3) := by decide +kernel
theorem dX11_wired_112 : decode cX11_wired 112 = .ok (.iinc 5 1, 3) := by decide +kernel
theorem dX11_wired_115 : decode cX11_wired 115 = .ok (.goto (-62), 3) := by decide +kernel
theorem dX11_wired_118 : decode cX11_wired 118 = .ok (.iload_n 3, 1) := by decide +kernel
theorem dX11_wired_119 : decode cX11_wired 119 = .ok (.ifCond .ne 8, 3) := by decide +kernel
theorem dX11_wired_122 : decode cX11_wired 122 = .ok (.iload 4, 2) := by decide +kernel
theorem dX11_wired_124 : decode cX11_wired 124 = .ok (.goto 4, 3) := by decide +kernel
theorem dX11_wired_127 : decode cX11_wired 127 = .ok (.iconst (-1), 1) := by decide +kernel
theorem dX11_wired_128 : decode cX11_wired 128 = .ok (.ireturn, 1) := by decide +kernel
set_option maxRecDepth 100000 in
set_option maxHeartbeats 4000000 in
theorem M_X11_wired (G : zG) (l : Launch) {a1 : Int32} {a2 : Int32} {a3 : Int32} {σ : zS} {r : Int32} (hJ : J_X11_wired a1 a2 a3 σ = some r) : zMI G l yX11_wired cX11_wired 7 (some .int) (zrm 3 71) [.ref (G.1 + 105), .int a1, .int a2, .int a3] 137 (zen G σ) r 137 (zen G σ) := by
  unfold J_X11_wired at hJ
  refine zentI (by decide +kernel) (Nat.le_of_ble_eq_true rfl) ?_
  intro p e s m args below meth c C hret
  refine zr_sub [0, 1, 2, 3] [(0, .ref (G.1 + 105)), (1, .int a1), (2, .int a2), (3, .int a3)] rfl ?_
  refine zr_aload_n C 0 dX11_wired_0 rfl ?_
  refine zr_iload_n C 1 dX11_wired_1 rfl ?_
  obtain ⟨r1, hr1, hJ⟩ := zb_e hJ
  refine zr_callVI C 105 (zk_lt zk_105 (by decide)) (zen_obj zk_105) (rfl : zcl[11]? = some (RX11, TX11, 56)) (M_X11_isCounter G l hr1) zin_X11_isCounter zm_30_3 rfl rfl (Nat.le_of_ble_eq_true rfl) ⟨Nat.le_of_ble_eq_true rfl, Nat.le_of_ble_eq_true rfl⟩ ⟨Nat.le_of_ble_eq_true rfl, Nat.le_of_ble_eq_true rfl⟩ dX11_wired_2 ?_
  refine zr_if_eq C 25 dX11_wired_5 (by decide) (fun hc2 => ?_) (fun hc2 => ?_)
  · have hJ := zif hc2 hJ
    refine zr_iconst C dX11_wired_25 (v := (-1 : Int32)) (by decide) ?_
    exact zr_iret C hret (zs_e hJ) rfl rfl dX11_wired_26
  · have hJ := zif' hc2 hJ
    refine zr_iload_n C 2 dX11_wired_8 rfl ?_
    obtain ⟨r3, hr3, hJ⟩ := zb_e hJ
    refine zr_callSI C (M_X11_isEvent G l hr3) zin_X11_isEvent zm_24_0 rfl rfl (Nat.le_of_ble_eq_true rfl) ⟨Nat.le_of_ble_eq_true rfl, Nat.le_of_ble_eq_true rfl⟩ ⟨Nat.le_of_ble_eq_true rfl, Nat.le_of_ble_eq_true rfl⟩ dX11_wired_9 ?_
    refine zr_if_eq C 25 dX11_wired_12 (by decide) (fun hc4 => ?_) (fun hc4 => ?_)
    · have hJ := zif hc4 hJ
      refine zr_iconst C dX11_wired_25 (v := (-1 : Int32)) (by decide) ?_
      exact zr_iret C hret (zs_e hJ) rfl rfl dX11_wired_26
    · have hJ := zif' hc4 hJ
      refine zr_iload_n C 3 dX11_wired_15 rfl ?_
      obtain ⟨k27, hk27, hJ⟩ := zlet_e hJ
      have hj27 : k27 = some r → zU G 7 p l e (zrm 3 71) s m args below meth c (MQ below (va_Qi (fun x (_ : Unit) => x = r) (fun _ t => zok G 137 (zen G σ) t) (zA G)) args s 0 0 (zA G)) σ 27 [(0, .ref (G.1 + 105)), (1, .int a1), (2, .int a2), (3, .int a3)] [] := by
        intro hJ
        rw [hk27] at hJ
        unfold D_X11_wired_27 at hJ
        refine zr_aload_n C 0 dX11_wired_27 rfl ?_
        refine zr_iload_n C 1 dX11_wired_28 rfl ?_
        refine zr_iload_n C 2 dX11_wired_29 rfl ?_
        obtain ⟨r5, hr5, hJ⟩ := zb_e hJ
        refine zr_callVI C 105 (zk_lt zk_105 (by decide)) (zen_obj zk_105) (rfl : zcl[11]? = some (RX11, TX11, 56)) (M_X11_hasRun G l hr5) zin_X11_hasRun zm_46_3 rfl rfl (Nat.le_of_ble_eq_true rfl) ⟨Nat.le_of_ble_eq_true rfl, Nat.le_of_ble_eq_true rfl⟩ ⟨Nat.le_of_ble_eq_true rfl, Nat.le_of_ble_eq_true rfl⟩ dX11_wired_30 ?_
        refine zr_if_ne C 47 dX11_wired_33 (by decide) (fun hc6 => ?_) (fun hc6 => ?_)
        · have hJ := zif' hc6 hJ
          refine zr_iconst C dX11_wired_47 (v := (0 : Int32)) (by decide) ?_
          refine zr_istore C [(4, .int (0 : Int32)), (0, .ref (G.1 + 105)), (1, .int a1), (2, .int a2), (3, .int a3)] dX11_wired_48 (by decide) rfl ?_
          refine zr_iconst C dX11_wired_50 (v := (1 : Int32)) (by decide) ?_
          refine zr_istore C [(5, .int (1 : Int32)), (4, .int (0 : Int32)), (0, .ref (G.1 + 105)), (1, .int a1), (2, .int a2), (3, .int a3)] dX11_wired_51 (by decide) rfl ?_
          obtain ⟨k118, hk118, hJ⟩ := zlet_e hJ
          have hj118 : ∀ (w4_118 : Int32), k118 w4_118 = some r → zU G 7 p l e (zrm 3 71) s m args below meth c (MQ below (va_Qi (fun x (_ : Unit) => x = r) (fun _ t => zok G 137 (zen G σ) t) (zA G)) args s 0 0 (zA G)) σ 118 [(3, .int a3), (4, .int w4_118)] [] := by
            intro w4_118 hJ
            rw [hk118] at hJ
            unfold D_X11_wired_118 at hJ
            refine zr_iload_n C 0 dX11_wired_118 rfl ?_
            refine zr_if_ne C 127 dX11_wired_119 (by decide) (fun hc7 => ?_) (fun hc7 => ?_)
            · have hJ := zif' hc7 hJ
              refine zr_iconst C dX11_wired_127 (v := (-1 : Int32)) (by decide) ?_
              exact zr_iret C hret (zs_e hJ) rfl rfl dX11_wired_128
            · have hJ := zif hc7 hJ
              refine zr_iload C 1 dX11_wired_122 rfl ?_
              refine zr_goto C 128 dX11_wired_124 (by decide) ?_
              exact zr_iret C hret (zs_e hJ) rfl rfl dX11_wired_128
          have hl53 : ∀ (n : Nat) (w4_53 : Int32) (w5_53 : Int32), L_X11_wired_53 a1 a2 a3 σ k118 n w4_53 w5_53 = some r → zU G 7 p l e (zrm 3 71) s m args below meth c (MQ below (va_Qi (fun x (_ : Unit) => x = r) (fun _ t => zok G 137 (zen G σ) t) (zA G)) args s 0 0 (zA G)) σ 53 [(0, .ref (G.1 + 105)), (1, .int a1), (2, .int a2), (3, .int a3), (4, .int w4_53), (5, .int w5_53)] [] := by
            intro n
            induction n with
            | zero =>
              intro w4_53 w5_53 hJ
              rw [L_X11_wired_53] at hJ
              cases hJ
            | succ n ih =>
              intro w4_53 w5_53 hJ
              rw [L_X11_wired_53] at hJ
              obtain ⟨r_53, hr_53, hJ⟩ := zlet_e hJ
              have ih53 : ∀ (w4_53 : Int32) (w5_53 : Int32), r_53 w4_53 w5_53 = some r → zU G 7 p l e (zrm 3 71) s m args below meth c (MQ below (va_Qi (fun x (_ : Unit) => x = r) (fun _ t => zok G 137 (zen G σ) t) (zA G)) args s 0 0 (zA G)) σ 53 [(0, .ref (G.1 + 105)), (1, .int a1), (2, .int a2), (3, .int a3), (4, .int w4_53), (5, .int w5_53)] [] := by
                rw [hr_53]
                exact ih
              refine zr_iload C 5 dX11_wired_53 rfl ?_
              refine zr_iconst C dX11_wired_55 (v := (3 : Int32)) (by decide) ?_
              refine zr_icmp_ge C 118 dX11_wired_56 (by decide) (fun hc8 => ?_) (fun hc8 => ?_)
              · have hJ := zif hc8 hJ
                refine zr_sub [3, 4] [(3, .int a3), (4, .int w4_53)] rfl ?_
                exact hj118 _ hJ
              · have hJ := zif' hc8 hJ
                refine zr_iconst C dX11_wired_59 (v := (1 : Int32)) (by decide) ?_
                refine zr_istore C [(6, .int (1 : Int32)), (0, .ref (G.1 + 105)), (1, .int a1), (2, .int a2), (3, .int a3), (4, .int w4_53), (5, .int w5_53)] dX11_wired_60 (by decide) rfl ?_
                obtain ⟨k112, hk112, hJ⟩ := zlet_e hJ
                have hj112 : ∀ (w4_112 : Int32), k112 w4_112 = some r → zU G 7 p l e (zrm 3 71) s m args below meth c (MQ below (va_Qi (fun x (_ : Unit) => x = r) (fun _ t => zok G 137 (zen G σ) t) (zA G)) args s 0 0 (zA G)) σ 112 [(0, .ref (G.1 + 105)), (1, .int a1), (2, .int a2), (3, .int a3), (4, .int w4_112), (5, .int w5_53)] [] := by
                  intro w4_112 hJ
                  rw [hk112] at hJ
                  unfold D_X11_wired_112 at hJ
                  obtain ⟨v9, hv9, hJ⟩ := zlet_e hJ
                  refine zr_iinc C v9 5 [(5, .int v9), (0, .ref (G.1 + 105)), (1, .int a1), (2, .int a2), (3, .int a3), (4, .int w4_112)] dX11_wired_112 rfl (hv9.trans (zinc (by decide))) (by decide) rfl ?_
                  refine zr_goto C 53 dX11_wired_115 (by decide) ?_
                  refine zr_sub [1, 2, 3, 4, 5, 0] [(0, .ref (G.1 + 105)), (1, .int a1), (2, .int a2), (3, .int a3), (4, .int w4_112), (5, .int v9)] rfl ?_
                  exact ih53 _ _ hJ
                have hl62 : ∀ (n : Nat) (w4_62 : Int32) (w6_62 : Int32), L_X11_wired_62 a1 a2 a3 σ w5_53 k112 n w4_62 w6_62 = some r → zU G 7 p l e (zrm 3 71) s m args below meth c (MQ below (va_Qi (fun x (_ : Unit) => x = r) (fun _ t => zok G 137 (zen G σ) t) (zA G)) args s 0 0 (zA G)) σ 62 [(0, .ref (G.1 + 105)), (1, .int a1), (2, .int a2), (3, .int a3), (4, .int w4_62), (5, .int w5_53), (6, .int w6_62)] [] := by
                  intro n
                  induction n with
                  | zero =>
                    intro w4_62 w6_62 hJ
                    rw [L_X11_wired_62] at hJ
                    cases hJ
                  | succ n ih =>
                    intro w4_62 w6_62 hJ
                    rw [L_X11_wired_62] at hJ
                    obtain ⟨r_62, hr_62, hJ⟩ := zlet_e hJ
                    have ih62 : ∀ (w4_62 : Int32) (w6_62 : Int32), r_62 w4_62 w6_62 = some r → zU G 7 p l e (zrm 3 71) s m args below meth c (MQ below (va_Qi (fun x (_ : Unit) => x = r) (fun _ t => zok G 137 (zen G σ) t) (zA G)) args s 0 0 (zA G)) σ 62 [(0, .ref (G.1 + 105)), (1, .int a1), (2, .int a2), (3, .int a3), (4, .int w4_62), (5, .int w5_53), (6, .int w6_62)] [] := by
                      rw [hr_62]
                      exact ih
                    refine zr_iload C 6 dX11_wired_62 rfl ?_
                    refine zr_sipush C dX11_wired_64 (v := (256 : Int32)) (by decide) ?_
                    refine zr_icmp_ge C 112 dX11_wired_67 (by decide) (fun hc10 => ?_) (fun hc10 => ?_)
                    · have hJ := zif hc10 hJ
                      refine zr_sub [0, 1, 2, 3, 4, 5] [(0, .ref (G.1 + 105)), (1, .int a1), (2, .int a2), (3, .int a3), (4, .int w4_62), (5, .int w5_53)] rfl ?_
                      exact hj112 _ hJ
                    · have hJ := zif' hc10 hJ
                      refine zr_iload C 6 dX11_wired_70 rfl ?_
                      obtain ⟨r11, hr11, hJ⟩ := zb_e hJ
                      refine zr_callSI C (M_X11_countOf G l hr11) zin_X11_countOf zm_27_8 rfl rfl (Nat.le_of_ble_eq_true rfl) ⟨Nat.le_of_ble_eq_true rfl, Nat.le_of_ble_eq_true rfl⟩ ⟨Nat.le_of_ble_eq_true rfl, Nat.le_of_ble_eq_true rfl⟩ dX11_wired_72 ?_
                      refine zr_iload C 5 dX11_wired_75 rfl ?_
                      refine zr_icmp_ne C 106 dX11_wired_77 (by decide) (fun hc12 => ?_) (fun hc12 => ?_)
                      · have hJ := zif' hc12 hJ
                        obtain ⟨v13, hv13, hJ⟩ := zlet_e hJ
                        refine zr_iinc C v13 6 [(6, .int v13), (0, .ref (G.1 + 105)), (1, .int a1), (2, .int a2), (3, .int a3), (4, .int w4_62), (5, .int w5_53)] dX11_wired_106 rfl (hv13.trans (zinc (by decide))) (by decide) rfl ?_
                        refine zr_goto C 62 dX11_wired_109 (by decide) ?_
                        refine zr_sub [1, 2, 3, 4, 5, 6, 0] [(0, .ref (G.1 + 105)), (1, .int a1), (2, .int a2), (3, .int a3), (4, .int w4_62), (5, .int w5_53), (6, .int v13)] rfl ?_
                        exact ih62 _ _ hJ
                      · have hJ := zif hc12 hJ
                        refine zr_aload_n C 0 dX11_wired_80 rfl ?_
                        refine zr_iload_n C 1 dX11_wired_81 rfl ?_
                        refine zr_iload_n C 2 dX11_wired_82 rfl ?_
                        refine zr_iload C 6 dX11_wired_83 rfl ?_
                        obtain ⟨r14, hr14, hJ⟩ := zb_e hJ
                        refine zr_callVI C 105 (zk_lt zk_105 (by decide)) (zen_obj zk_105) (rfl : zcl[11]? = some (RX11, TX11, 56)) (M_X11_fits G l hr14) zin_X11_fits zm_46_7 rfl rfl (Nat.le_of_ble_eq_true rfl) ⟨Nat.le_of_ble_eq_true rfl, Nat.le_of_ble_eq_true rfl⟩ ⟨Nat.le_of_ble_eq_true rfl, Nat.le_of_ble_eq_true rfl⟩ dX11_wired_85 ?_
                        refine zr_if_eq C 106 dX11_wired_88 (by decide) (fun hc15 => ?_) (fun hc15 => ?_)
                        · have hJ := zif hc15 hJ
                          obtain ⟨v16, hv16, hJ⟩ := zlet_e hJ
                          refine zr_iinc C v16 6 [(6, .int v16), (0, .ref (G.1 + 105)), (1, .int a1), (2, .int a2), (3, .int a3), (4, .int w4_62), (5, .int w5_53)] dX11_wired_106 rfl (hv16.trans (zinc (by decide))) (by decide) rfl ?_
                          refine zr_goto C 62 dX11_wired_109 (by decide) ?_
                          refine zr_sub [1, 2, 3, 4, 5, 6, 0] [(0, .ref (G.1 + 105)), (1, .int a1), (2, .int a2), (3, .int a3), (4, .int w4_62), (5, .int w5_53), (6, .int v16)] rfl ?_
                          exact ih62 _ _ hJ
                        · have hJ := zif' hc15 hJ
                          refine zr_iload_n C 3 dX11_wired_91 rfl ?_
                          refine zr_bipush C dX11_wired_92 (v := (10 : Int32)) (by decide) ?_
                          refine zr_iload C 4 dX11_wired_94 rfl ?_
                          refine zr_iadd C dX11_wired_96 ?_
                          refine zr_icmp_ne C 103 dX11_wired_97 (by decide) (fun hc17 => ?_) (fun hc17 => ?_)
                          · have hJ := zif' hc17 hJ
                            obtain ⟨v18, hv18, hJ⟩ := zlet_e hJ
                            refine zr_iinc C v18 4 [(4, .int v18), (0, .ref (G.1 + 105)), (1, .int a1), (2, .int a2), (3, .int a3), (5, .int w5_53), (6, .int w6_62)] dX11_wired_103 rfl (hv18.trans (zinc (by decide))) (by decide) rfl ?_
                            obtain ⟨v19, hv19, hJ⟩ := zlet_e hJ
                            refine zr_iinc C v19 6 [(6, .int v19), (4, .int v18), (0, .ref (G.1 + 105)), (1, .int a1), (2, .int a2), (3, .int a3), (5, .int w5_53)] dX11_wired_106 rfl (hv19.trans (zinc (by decide))) (by decide) rfl ?_
                            refine zr_goto C 62 dX11_wired_109 (by decide) ?_
                            refine zr_sub [2, 3, 4, 5, 1, 6, 0] [(0, .ref (G.1 + 105)), (1, .int a1), (2, .int a2), (3, .int a3), (4, .int v18), (5, .int w5_53), (6, .int v19)] rfl ?_
                            exact ih62 _ _ hJ
                          · have hJ := zif hc17 hJ
                            refine zr_iload C 6 dX11_wired_100 rfl ?_
                            exact zr_iret C hret (zs_e hJ) rfl rfl dX11_wired_102
                refine zr_sub [1, 2, 3, 4, 5, 6, 0] [(0, .ref (G.1 + 105)), (1, .int a1), (2, .int a2), (3, .int a3), (4, .int w4_53), (5, .int w5_53), (6, .int (1 : Int32))] rfl ?_
                exact hl62 _ _ _ hJ
          refine zr_sub [2, 3, 4, 5, 1, 0] [(0, .ref (G.1 + 105)), (1, .int a1), (2, .int a2), (3, .int a3), (4, .int (0 : Int32)), (5, .int (1 : Int32))] rfl ?_
          exact hl53 _ _ _ hJ
        · have hJ := zif hc6 hJ
          refine zr_iload_n C 3 dX11_wired_36 rfl ?_
          refine zr_if_ne C 45 dX11_wired_37 (by decide) (fun hc20 => ?_) (fun hc20 => ?_)
          · have hJ := zif' hc20 hJ
            refine zr_iconst C dX11_wired_45 (v := (-1 : Int32)) (by decide) ?_
            exact zr_iret C hret (zs_e hJ) rfl rfl dX11_wired_46
          · have hJ := zif hc20 hJ
            refine zr_bipush C dX11_wired_40 (v := (-4 : Int32)) (by decide) ?_
            refine zr_goto C 46 dX11_wired_42 (by decide) ?_
            exact zr_iret C hret (zs_e hJ) rfl rfl dX11_wired_46
      refine zr_if_eq C 27 dX11_wired_16 (by decide) (fun hc21 => ?_) (fun hc21 => ?_)
      · have hJ := zif hc21 hJ
        exact hj27 hJ
      · have hJ := zif' hc21 hJ
        refine zr_iload_n C 3 dX11_wired_19 rfl ?_
        refine zr_bipush C dX11_wired_20 (v := (10 : Int32)) (by decide) ?_
        refine zr_icmp_ge C 27 dX11_wired_22 (by decide) (fun hc22 => ?_) (fun hc22 => ?_)
        · have hJ := zif hc22 hJ
          exact hj27 hJ
        · have hJ := zif' hc22 hJ
          refine zr_iconst C dX11_wired_25 (v := (-1 : Int32)) (by decide) ?_
          exact zr_iret C hret (zs_e hJ) rfl rfl dX11_wired_26
