theorem dX11_wayOf_0 : decode cX11_wayOf 0 = .ok (.iload_n 1, 1) := by decide +kernel
theorem dX11_wayOf_1 : decode cX11_wayOf 1 = .ok (.invokestatic 273, 3) := by decide +kernel
theorem dX11_wayOf_4 : decode cX11_wayOf 4 = .ok (.istore_n 2, 1) := by decide +kernel
theorem dX11_wayOf_5 : decode cX11_wayOf 5 = .ok (.iload_n 2, 1) := by decide +kernel
theorem dX11_wayOf_6 : decode cX11_wayOf 6 = .ok (.aload_n 0, 1) := by decide +kernel
theorem dX11_wayOf_7 : decode cX11_wayOf 7 = .ok (.getfield 67, 3) := by decide +kernel
theorem dX11_wayOf_10 : decode cX11_wayOf 10 = .ok (.if_icmp .le 6, 3) := by decide +kernel
theorem dX11_wayOf_13 : decode cX11_wayOf 13 = .ok (.bipush (-4), 2) := by decide +kernel
theorem dX11_wayOf_15 : decode cX11_wayOf 15 = .ok (.ireturn, 1) := by decide +kernel
theorem dX11_wayOf_16 : decode cX11_wayOf 16 = .ok (.iconst 0, 1) := by decide +kernel
theorem dX11_wayOf_17 : decode cX11_wayOf 17 = .ok (.istore_n 3, 1) := by decide +kernel
theorem dX11_wayOf_18 : decode cX11_wayOf 18 = .ok (.iload_n 3, 1) := by decide +kernel
theorem dX11_wayOf_19 : decode cX11_wayOf 19 = .ok (.iconst 1, 1) := by decide +kernel
theorem dX11_wayOf_20 : decode cX11_wayOf 20 = .ok (.iconst 2, 1) := by decide +kernel
theorem dX11_wayOf_21 : decode cX11_wayOf 21 = .ok (.iload_n 2, 1) := by decide +kernel
theorem dX11_wayOf_22 : decode cX11_wayOf 22 = .ok (.imul, 1) := by decide +kernel
theorem dX11_wayOf_23 : decode cX11_wayOf 23 = .ok (.ishl, 1) := by decide +kernel
theorem dX11_wayOf_24 : decode cX11_wayOf 24 = .ok (.if_icmp .ge 120, 3) := by decide +kernel
theorem dX11_wayOf_27 : decode cX11_wayOf 27 = .ok (.iconst 0, 1) := by decide +kernel
theorem dX11_wayOf_28 : decode cX11_wayOf 28 = .ok (.istore 4, 2) := by decide +kernel
theorem dX11_wayOf_30 : decode cX11_wayOf 30 = .ok (.iload_n 2, 1) := by decide +kernel
theorem dX11_wayOf_31 : decode cX11_wayOf 31 = .ok (.istore 5, 2) := by decide +kernel
theorem dX11_wayOf_33 : decode cX11_wayOf 33 = .ok (.iconst 1, 1) := by decide +kernel
theorem dX11_wayOf_34 : decode cX11_wayOf 34 = .ok (.istore 6, 2) := by decide +kernel
theorem dX11_wayOf_36 : decode cX11_wayOf 36 = .ok (.iconst 0, 1) := by decide +kernel
theorem dX11_wayOf_37 : decode cX11_wayOf 37 = .ok (.istore 7, 2) := by decide +kernel
theorem dX11_wayOf_39 : decode cX11_wayOf 39 = .ok (.iload 7, 2) := by decide +kernel
theorem dX11_wayOf_41 : decode cX11_wayOf 41 = .ok (.bipush 8, 2) := by decide +kernel
theorem dX11_wayOf_43 : decode cX11_wayOf 43 = .ok (.if_icmp .ge 88, 3) := by decide +kernel
theorem dX11_wayOf_46 : decode cX11_wayOf 46 = .ok (.iload_n 1, 1) := by decide +kernel
theorem dX11_wayOf_47 : decode cX11_wayOf 47 = .ok (.iload 7, 2) := by decide +kernel
theorem dX11_wayOf_49 : decode cX11_wayOf 49 = .ok (.ishr, 1) := by decide +kernel
theorem dX11_wayOf_50 : decode cX11_wayOf 50 = .ok (.iconst 1, 1) := by decide +kernel
theorem dX11_wayOf_51 : decode cX11_wayOf 51 = .ok (.iand, 1) := by decide +kernel
theorem dX11_wayOf_52 : decode cX11_wayOf 52 = .ok (.iconst 1, 1) := by decide +kernel
theorem dX11_wayOf_53 : decode cX11_wayOf 53 = .ok (.if_icmp .ne 72, 3) := by decide +kernel
theorem dX11_wayOf_56 : decode cX11_wayOf 56 = .ok (.iinc 5 (-1), 3) := by decide +kernel
theorem dX11_wayOf_59 : decode cX11_wayOf 59 = .ok (.iload_n 3, 1) := by decide +kernel
theorem dX11_wayOf_60 : decode cX11_wayOf 60 = .ok (.iconst 2, 1) := by decide +kernel
theorem dX11_wayOf_61 : decode cX11_wayOf 61 = .ok (.iload 5, 2) := by decide +kernel
theorem dX11_wayOf_63 : decode cX11_wayOf 63 = .ok (.imul, 1) := by decide +kernel
theorem dX11_wayOf_64 : decode cX11_wayOf 64 = .ok (.ishr, 1) := by decide +kernel
theorem dX11_wayOf_65 : decode cX11_wayOf 65 = .ok (.iconst 3, 1) := by decide +kernel
theorem dX11_wayOf_66 : decode cX11_wayOf 66 = .ok (.iand, 1) := by decide +kernel
theorem dX11_wayOf_67 : decode cX11_wayOf 67 = .ok (.istore 8, 2) := by decide +kernel
theorem dX11_wayOf_69 : decode cX11_wayOf 69 = .ok (.iload 6, 2) := by decide +kernel
theorem dX11_wayOf_71 : decode cX11_wayOf 71 = .ok (.ifCond .eq 42, 3) := by decide +kernel
theorem dX11_wayOf_74 : decode cX11_wayOf 74 = .ok (.iload 8, 2) := by decide +kernel
theorem dX11_wayOf_76 : decode cX11_wayOf 76 = .ok (.aload_n 0, 1) := by decide +kernel
theorem dX11_wayOf_77 : decode cX11_wayOf 77 = .ok (.getfield 67, 3) := by decide +kernel
theorem dX11_wayOf_80 : decode cX11_wayOf 80 = .ok (.if_icmp .ge 33, 3) := by decide +kernel
theorem dX11_wayOf_83 : decode cX11_wayOf 83 = .ok (.iload 4, 2) := by decide +kernel
theorem dX11_wayOf_85 : decode cX11_wayOf 85 = .ok (.iload 8, 2) := by decide +kernel
theorem dX11_wayOf_87 : decode cX11_wayOf 87 = .ok (.ishr, 1) := by decide +kernel
theorem dX11_wayOf_88 : decode cX11_wayOf 88 = .ok (.iconst 1, 1) := by decide +kernel
theorem dX11_wayOf_89 : decode cX11_wayOf 89 = .ok (.iand, 1) := by decide +kernel
theorem dX11_wayOf_90 : decode cX11_wayOf 90 = .ok (.ifCond .ne 23, 3) := by decide +kernel
theorem dX11_wayOf_93 : decode cX11_wayOf 93 = .ok (.aload_n 0, 1) := by decide +kernel
theorem dX11_wayOf_94 : decode cX11_wayOf 94 = .ok (.getfield 71, 3) := by decide +kernel
theorem dX11_wayOf_97 : decode cX11_wayOf 97 = .ok (.iload 8, 2) := by decide +kernel
theorem dX11_wayOf_99 : decode cX11_wayOf 99 = .ok (.iaload, 1) := by decide +kernel
theorem dX11_wayOf_100 : decode cX11_wayOf 100 = .ok (.iload 7, 2) := by decide +kernel
theorem dX11_wayOf_102 : decode cX11_wayOf 102 = .ok (.ishr, 1) := by decide +kernel
theorem dX11_wayOf_103 : decode cX11_wayOf 103 = .ok (.iconst 1, 1) := by decide +kernel
theorem dX11_wayOf_104 : decode cX11_wayOf 104 = .ok (.iand, 1) := by decide +kernel
theorem dX11_wayOf_105 : decode cX11_wayOf 105 = .ok (.iconst 1, 1) := by decide +kernel
theorem dX11_wayOf_106 : decode cX11_wayOf 106 = .ok (.if_icmp .ne 7, 3) := by decide +kernel
theorem dX11_wayOf_109 : decode cX11_wayOf 109 = .ok (.iconst 1, 1) := by decide +kernel
theorem dX11_wayOf_110 : decode cX11_wayOf 110 = .ok (.goto 4, 3) := by decide +kernel
theorem dX11_wayOf_113 : decode cX11_wayOf 113 = .ok (.iconst 0, 1) := by decide +kernel
theorem dX11_wayOf_114 : decode cX11_wayOf 114 = .ok (.istore 6, 2) := by decide +kernel
theorem dX11_wayOf_116 : decode cX11_wayOf 116 = .ok (.iload 4, 2) := by decide +kernel
theorem dX11_wayOf_118 : decode cX11_wayOf 118 = .ok (.iconst 1, 1) := by decide +kernel
theorem dX11_wayOf_119 : decode cX11_wayOf 119 = .ok (.iload 8, 2) := by decide +kernel
theorem dX11_wayOf_121 : decode cX11_wayOf 121 = .ok (.ishl, 1) := by decide +kernel
theorem dX11_wayOf_122 : decode cX11_wayOf 122 = .ok (.ior, 1) := by decide +kernel
theorem dX11_wayOf_123 : decode cX11_wayOf 123 = .ok (.istore 4, 2) := by decide +kernel
theorem dX11_wayOf_125 : decode cX11_wayOf 125 = .ok (.iinc 7 1, 3) := by decide +kernel
theorem dX11_wayOf_128 : decode cX11_wayOf 128 = .ok (.goto (-89), 3) := by decide +kernel
theorem dX11_wayOf_131 : decode cX11_wayOf 131 = .ok (.iload 6, 2) := by decide +kernel
theorem dX11_wayOf_133 : decode cX11_wayOf 133 = .ok (.ifCond .eq 5, 3) := by decide +kernel
theorem dX11_wayOf_136 : decode cX11_wayOf 136 = .ok (.iload_n 3, 1) := by decide +kernel
theorem dX11_wayOf_137 : decode cX11_wayOf 137 = .ok (.ireturn, 1) := by decide +kernel
theorem dX11_wayOf_138 : decode cX11_wayOf 138 = .ok (.iinc 3 1, 3) := by decide +kernel
theorem dX11_wayOf_141 : decode cX11_wayOf 141 = .ok (.goto (-123), 3) := by decide +kernel
theorem dX11_wayOf_144 : decode cX11_wayOf 144 = .ok (.bipush (-4), 2) := by decide +kernel
theorem dX11_wayOf_146 : decode cX11_wayOf 146 = .ok (.ireturn, 1) := by decide +kernel
set_option maxRecDepth 100000 in
set_option maxHeartbeats 4000000 in
theorem M_X11_wayOf (G : zG) (l : Launch) {a1 : Int32} {σ : zS} {r : Int32} (hJ : J_X11_wayOf a1 σ = some r) : zMI G l yX11_wayOf cX11_wayOf 9 (some .int) (zrm 1 22) [.ref (G.1 + 105), .int a1] 137 (zen G σ) r 137 (zen G σ) := by
  unfold J_X11_wayOf at hJ
  refine zentI (by decide +kernel) (Nat.le_of_ble_eq_true rfl) ?_
  intro p e s m args below meth c C hret
  refine zr_sub [0, 1] [(0, .ref (G.1 + 105)), (1, .int a1)] rfl ?_
  refine zr_iload_n C 1 dX11_wayOf_0 rfl ?_
  obtain ⟨r1, hr1, hJ⟩ := zb_e hJ
  refine zr_callSI C (M_X11_countOf G l hr1) zin_X11_countOf zm_27_8 rfl rfl (Nat.le_of_ble_eq_true rfl) ⟨Nat.le_of_ble_eq_true rfl, Nat.le_of_ble_eq_true rfl⟩ ⟨Nat.le_of_ble_eq_true rfl, Nat.le_of_ble_eq_true rfl⟩ dX11_wayOf_1 ?_
  refine zr_istore_n C [(2, .int r1), (0, .ref (G.1 + 105)), (1, .int a1)] dX11_wayOf_4 (by decide) rfl ?_
  refine zr_iload_n C 0 dX11_wayOf_5 rfl ?_
  refine zr_aload_n C 1 dX11_wayOf_6 rfl ?_
  refine zg_11_36 C 105 zk_105 zm_8_6 dX11_wayOf_7 ?_
  refine zr_icmp_le C 16 dX11_wayOf_10 (by decide) (fun hc2 => ?_) (fun hc2 => ?_)
  · have hJ := zif hc2 hJ
    refine zr_iconst C dX11_wayOf_16 (v := (0 : Int32)) (by decide) ?_
    refine zr_istore_n C [(3, .int (0 : Int32)), (2, .int r1), (0, .ref (G.1 + 105)), (1, .int a1)] dX11_wayOf_17 (by decide) rfl ?_
    have hl18 : ∀ (n : Nat) (w3_18 : Int32), L_X11_wayOf_18 a1 σ r1 n w3_18 = some r → zU G 9 p l e (zrm 1 22) s m args below meth c (MQ below (va_Qi (fun x (_ : Unit) => x = r) (fun _ t => zok G 137 (zen G σ) t) (zA G)) args s 0 0 (zA G)) σ 18 [(0, .ref (G.1 + 105)), (1, .int a1), (2, .int r1), (3, .int w3_18)] [] := by
      intro n
      induction n with
      | zero =>
        intro w3_18 hJ
        rw [L_X11_wayOf_18] at hJ
        cases hJ
      | succ n ih =>
        intro w3_18 hJ
        rw [L_X11_wayOf_18] at hJ
        obtain ⟨r_18, hr_18, hJ⟩ := zlet_e hJ
        have ih18 : ∀ (w3_18 : Int32), r_18 w3_18 = some r → zU G 9 p l e (zrm 1 22) s m args below meth c (MQ below (va_Qi (fun x (_ : Unit) => x = r) (fun _ t => zok G 137 (zen G σ) t) (zA G)) args s 0 0 (zA G)) σ 18 [(0, .ref (G.1 + 105)), (1, .int a1), (2, .int r1), (3, .int w3_18)] [] := by
          rw [hr_18]
          exact ih
        refine zr_iload_n C 3 dX11_wayOf_18 rfl ?_
        refine zr_iconst C dX11_wayOf_19 (v := (1 : Int32)) (by decide) ?_
        refine zr_iconst C dX11_wayOf_20 (v := (2 : Int32)) (by decide) ?_
        refine zr_iload_n C 2 dX11_wayOf_21 rfl ?_
        refine zr_imul C dX11_wayOf_22 ?_
        refine zr_ishl C dX11_wayOf_23 ?_
        refine zr_icmp_ge C 144 dX11_wayOf_24 (by decide) (fun hc3 => ?_) (fun hc3 => ?_)
        · have hJ := zif hc3 hJ
          refine zr_bipush C dX11_wayOf_144 (v := (-4 : Int32)) (by decide) ?_
          exact zr_iret C hret (zs_e hJ) rfl rfl dX11_wayOf_146
        · have hJ := zif' hc3 hJ
          refine zr_iconst C dX11_wayOf_27 (v := (0 : Int32)) (by decide) ?_
          refine zr_istore C [(4, .int (0 : Int32)), (0, .ref (G.1 + 105)), (1, .int a1), (2, .int r1), (3, .int w3_18)] dX11_wayOf_28 (by decide) rfl ?_
          refine zr_iload_n C 3 dX11_wayOf_30 rfl ?_
          refine zr_istore C [(5, .int r1), (4, .int (0 : Int32)), (0, .ref (G.1 + 105)), (1, .int a1), (2, .int r1), (3, .int w3_18)] dX11_wayOf_31 (by decide) rfl ?_
          refine zr_iconst C dX11_wayOf_33 (v := (1 : Int32)) (by decide) ?_
          refine zr_istore C [(6, .int (1 : Int32)), (5, .int r1), (4, .int (0 : Int32)), (0, .ref (G.1 + 105)), (1, .int a1), (2, .int r1), (3, .int w3_18)] dX11_wayOf_34 (by decide) rfl ?_
          refine zr_iconst C dX11_wayOf_36 (v := (0 : Int32)) (by decide) ?_
          refine zr_istore C [(7, .int (0 : Int32)), (6, .int (1 : Int32)), (5, .int r1), (4, .int (0 : Int32)), (0, .ref (G.1 + 105)), (1, .int a1), (2, .int r1), (3, .int w3_18)] dX11_wayOf_37 (by decide) rfl ?_
          obtain ⟨k131, hk131, hJ⟩ := zlet_e hJ
          have hj131 : ∀ (w6_131 : Int32), k131 w6_131 = some r → zU G 9 p l e (zrm 1 22) s m args below meth c (MQ below (va_Qi (fun x (_ : Unit) => x = r) (fun _ t => zok G 137 (zen G σ) t) (zA G)) args s 0 0 (zA G)) σ 131 [(0, .ref (G.1 + 105)), (1, .int a1), (2, .int r1), (3, .int w3_18), (6, .int w6_131)] [] := by
            intro w6_131 hJ
            rw [hk131] at hJ
            unfold D_X11_wayOf_131 at hJ
            refine zr_iload C 4 dX11_wayOf_131 rfl ?_
            refine zr_if_eq C 138 dX11_wayOf_133 (by decide) (fun hc4 => ?_) (fun hc4 => ?_)
            · have hJ := zif hc4 hJ
              obtain ⟨v5, hv5, hJ⟩ := zlet_e hJ
              refine zr_iinc C v5 3 [(3, .int v5), (0, .ref (G.1 + 105)), (1, .int a1), (2, .int r1), (6, .int w6_131)] dX11_wayOf_138 rfl (hv5.trans (zinc (by decide))) (by decide) rfl ?_
              refine zr_goto C 18 dX11_wayOf_141 (by decide) ?_
              refine zr_sub [1, 2, 3, 0] [(0, .ref (G.1 + 105)), (1, .int a1), (2, .int r1), (3, .int v5)] rfl ?_
              exact ih18 _ hJ
            · have hJ := zif' hc4 hJ
              refine zr_iload_n C 3 dX11_wayOf_136 rfl ?_
              exact zr_iret C hret (zs_e hJ) rfl rfl dX11_wayOf_137
          have hl39 : ∀ (n : Nat) (w4_39 : Int32) (w5_39 : Int32) (w6_39 : Int32) (w7_39 : Int32), L_X11_wayOf_39 a1 σ w3_18 k131 n w4_39 w5_39 w6_39 w7_39 = some r → zU G 9 p l e (zrm 1 22) s m args below meth c (MQ below (va_Qi (fun x (_ : Unit) => x = r) (fun _ t => zok G 137 (zen G σ) t) (zA G)) args s 0 0 (zA G)) σ 39 [(0, .ref (G.1 + 105)), (1, .int a1), (2, .int r1), (3, .int w3_18), (4, .int w4_39), (5, .int w5_39), (6, .int w6_39), (7, .int w7_39)] [] := by
            intro n
            induction n with
            | zero =>
              intro w4_39 w5_39 w6_39 w7_39 hJ
              rw [L_X11_wayOf_39] at hJ
              cases hJ
            | succ n ih =>
              intro w4_39 w5_39 w6_39 w7_39 hJ
              rw [L_X11_wayOf_39] at hJ
              obtain ⟨r_39, hr_39, hJ⟩ := zlet_e hJ
              have ih39 : ∀ (w4_39 : Int32) (w5_39 : Int32) (w6_39 : Int32) (w7_39 : Int32), r_39 w4_39 w5_39 w6_39 w7_39 = some r → zU G 9 p l e (zrm 1 22) s m args below meth c (MQ below (va_Qi (fun x (_ : Unit) => x = r) (fun _ t => zok G 137 (zen G σ) t) (zA G)) args s 0 0 (zA G)) σ 39 [(0, .ref (G.1 + 105)), (1, .int a1), (2, .int r1), (3, .int w3_18), (4, .int w4_39), (5, .int w5_39), (6, .int w6_39), (7, .int w7_39)] [] := by
                rw [hr_39]
                exact ih
              refine zr_iload C 7 dX11_wayOf_39 rfl ?_
              refine zr_bipush C dX11_wayOf_41 (v := (8 : Int32)) (by decide) ?_
              refine zr_icmp_ge C 131 dX11_wayOf_43 (by decide) (fun hc6 => ?_) (fun hc6 => ?_)
              · have hJ := zif hc6 hJ
                refine zr_sub [0, 1, 2, 3, 6] [(0, .ref (G.1 + 105)), (1, .int a1), (2, .int r1), (3, .int w3_18), (6, .int w6_39)] rfl ?_
                exact hj131 _ hJ
              · have hJ := zif' hc6 hJ
                refine zr_iload_n C 1 dX11_wayOf_46 rfl ?_
                refine zr_iload C 7 dX11_wayOf_47 rfl ?_
                refine zr_ishr C dX11_wayOf_49 ?_
                refine zr_iconst C dX11_wayOf_50 (v := (1 : Int32)) (by decide) ?_
                refine zr_iand C dX11_wayOf_51 ?_
                refine zr_iconst C dX11_wayOf_52 (v := (1 : Int32)) (by decide) ?_
                refine zr_icmp_ne C 125 dX11_wayOf_53 (by decide) (fun hc7 => ?_) (fun hc7 => ?_)
                · have hJ := zif' hc7 hJ
                  obtain ⟨v8, hv8, hJ⟩ := zlet_e hJ
                  refine zr_iinc C v8 7 [(7, .int v8), (0, .ref (G.1 + 105)), (1, .int a1), (2, .int r1), (3, .int w3_18), (4, .int w4_39), (5, .int w5_39), (6, .int w6_39)] dX11_wayOf_125 rfl (hv8.trans (zinc (by decide))) (by decide) rfl ?_
                  refine zr_goto C 39 dX11_wayOf_128 (by decide) ?_
                  refine zr_sub [1, 2, 3, 4, 5, 6, 7, 0] [(0, .ref (G.1 + 105)), (1, .int a1), (2, .int r1), (3, .int w3_18), (4, .int w4_39), (5, .int w5_39), (6, .int w6_39), (7, .int v8)] rfl ?_
                  exact ih39 _ _ _ _ hJ
                · have hJ := zif hc7 hJ
                  obtain ⟨v9, hv9, hJ⟩ := zlet_e hJ
                  refine zr_iinc C v9 5 [(5, .int v9), (0, .ref (G.1 + 105)), (1, .int a1), (2, .int r1), (3, .int w3_18), (4, .int w4_39), (6, .int w6_39), (7, .int w7_39)] dX11_wayOf_56 rfl (hv9.trans (zinc (by decide))) (by decide) rfl ?_
                  refine zr_iload_n C 4 dX11_wayOf_59 rfl ?_
                  refine zr_iconst C dX11_wayOf_60 (v := (2 : Int32)) (by decide) ?_
                  refine zr_iload C 0 dX11_wayOf_61 rfl ?_
                  refine zr_imul C dX11_wayOf_63 ?_
                  refine zr_ishr C dX11_wayOf_64 ?_
                  refine zr_iconst C dX11_wayOf_65 (v := (3 : Int32)) (by decide) ?_
                  refine zr_iand C dX11_wayOf_66 ?_
                  obtain ⟨v10, hv10, hJ⟩ := zlet_e hJ
                  refine zr_topi hv10 ?_
                  refine zr_istore C [(8, .int v10), (5, .int v9), (0, .ref (G.1 + 105)), (1, .int a1), (2, .int r1), (3, .int w3_18), (4, .int w4_39), (6, .int w6_39), (7, .int w7_39)] dX11_wayOf_67 (by decide) rfl ?_
                  refine zr_iload C 7 dX11_wayOf_69 rfl ?_
                  obtain ⟨k114, hk114, hJ⟩ := zlet_e hJ
                  have hj114 : ∀ (x0_114 : Int32), k114 x0_114 = some r → zU G 9 p l e (zrm 1 22) s m args below meth c (MQ below (va_Qi (fun x (_ : Unit) => x = r) (fun _ t => zok G 137 (zen G σ) t) (zA G)) args s 0 0 (zA G)) σ 114 [(0, .ref (G.1 + 105)), (1, .int a1), (2, .int r1), (3, .int w3_18), (4, .int w4_39), (5, .int v9), (7, .int w7_39), (8, .int v10)] [.int x0_114] := by
                    intro x0_114 hJ
                    rw [hk114] at hJ
                    unfold D_X11_wayOf_114 at hJ
                    refine zr_istore C [(6, .int x0_114), (0, .ref (G.1 + 105)), (1, .int a1), (2, .int r1), (3, .int w3_18), (4, .int w4_39), (5, .int v9), (7, .int w7_39), (8, .int v10)] dX11_wayOf_114 (by decide) rfl ?_
                    refine zr_iload C 5 dX11_wayOf_116 rfl ?_
                    refine zr_iconst C dX11_wayOf_118 (v := (1 : Int32)) (by decide) ?_
                    refine zr_iload C 8 dX11_wayOf_119 rfl ?_
                    refine zr_ishl C dX11_wayOf_121 ?_
                    refine zr_ior C dX11_wayOf_122 ?_
                    obtain ⟨v11, hv11, hJ⟩ := zlet_e hJ
                    refine zr_topi hv11 ?_
                    refine zr_istore C [(4, .int v11), (6, .int x0_114), (0, .ref (G.1 + 105)), (1, .int a1), (2, .int r1), (3, .int w3_18), (5, .int v9), (7, .int w7_39), (8, .int v10)] dX11_wayOf_123 (by decide) rfl ?_
                    obtain ⟨v12, hv12, hJ⟩ := zlet_e hJ
                    refine zr_iinc C v12 7 [(7, .int v12), (4, .int v11), (6, .int x0_114), (0, .ref (G.1 + 105)), (1, .int a1), (2, .int r1), (3, .int w3_18), (5, .int v9), (8, .int v10)] dX11_wayOf_125 rfl (hv12.trans (zinc (by decide))) (by decide) rfl ?_
                    refine zr_goto C 39 dX11_wayOf_128 (by decide) ?_
                    refine zr_sub [3, 4, 5, 6, 1, 7, 2, 0] [(0, .ref (G.1 + 105)), (1, .int a1), (2, .int r1), (3, .int w3_18), (4, .int v11), (5, .int v9), (6, .int x0_114), (7, .int v12)] rfl ?_
                    exact ih39 _ _ _ _ hJ
                  refine zr_if_eq C 113 dX11_wayOf_71 (by decide) (fun hc13 => ?_) (fun hc13 => ?_)
                  · have hJ := zif hc13 hJ
                    refine zr_iconst C dX11_wayOf_113 (v := (0 : Int32)) (by decide) ?_
                    refine zr_sub [2, 3, 4, 5, 6, 1, 8, 0] [(0, .ref (G.1 + 105)), (1, .int a1), (2, .int r1), (3, .int w3_18), (4, .int w4_39), (5, .int v9), (7, .int w7_39), (8, .int v10)] rfl ?_
                    exact hj114 _ hJ
                  · have hJ := zif' hc13 hJ
                    refine zr_iload C 0 dX11_wayOf_74 rfl ?_
                    refine zr_aload_n C 2 dX11_wayOf_76 rfl ?_
                    refine zg_11_36 C 105 zk_105 zm_8_6 dX11_wayOf_77 ?_
                    refine zr_icmp_ge C 113 dX11_wayOf_80 (by decide) (fun hc14 => ?_) (fun hc14 => ?_)
                    · have hJ := zif hc14 hJ
                      refine zr_iconst C dX11_wayOf_113 (v := (0 : Int32)) (by decide) ?_
                      refine zr_sub [2, 3, 4, 5, 6, 1, 8, 0] [(0, .ref (G.1 + 105)), (1, .int a1), (2, .int r1), (3, .int w3_18), (4, .int w4_39), (5, .int v9), (7, .int w7_39), (8, .int v10)] rfl ?_
                      exact hj114 _ hJ
                    · have hJ := zif' hc14 hJ
                      refine zr_iload C 6 dX11_wayOf_83 rfl ?_
                      refine zr_iload C 0 dX11_wayOf_85 rfl ?_
                      refine zr_ishr C dX11_wayOf_87 ?_
                      refine zr_iconst C dX11_wayOf_88 (v := (1 : Int32)) (by decide) ?_
                      refine zr_iand C dX11_wayOf_89 ?_
                      refine zr_if_ne C 113 dX11_wayOf_90 (by decide) (fun hc15 => ?_) (fun hc15 => ?_)
                      · have hJ := zif' hc15 hJ
                        refine zr_iconst C dX11_wayOf_113 (v := (0 : Int32)) (by decide) ?_
                        refine zr_sub [2, 3, 4, 5, 6, 1, 8, 0] [(0, .ref (G.1 + 105)), (1, .int a1), (2, .int r1), (3, .int w3_18), (4, .int w4_39), (5, .int v9), (7, .int w7_39), (8, .int v10)] rfl ?_
                        exact hj114 _ hJ
                      · have hJ := zif hc15 hJ
                        refine zr_aload_n C 2 dX11_wayOf_93 rfl ?_
                        refine zg_11_37 C 105 zk_105 zm_8_7 dX11_wayOf_94 ?_
                        refine zr_iload C 0 dX11_wayOf_97 rfl ?_
                        obtain ⟨hg16, hJ⟩ := zg_e hJ
                        refine zu_iald C 125 zk_125 hg16 dX11_wayOf_99 ?_
                        refine zr_iload C 8 dX11_wayOf_100 rfl ?_
                        refine zr_ishr C dX11_wayOf_102 ?_
                        refine zr_iconst C dX11_wayOf_103 (v := (1 : Int32)) (by decide) ?_
                        refine zr_iand C dX11_wayOf_104 ?_
                        refine zr_iconst C dX11_wayOf_105 (v := (1 : Int32)) (by decide) ?_
                        refine zr_icmp_ne C 113 dX11_wayOf_106 (by decide) (fun hc17 => ?_) (fun hc17 => ?_)
                        · have hJ := zif' hc17 hJ
                          refine zr_iconst C dX11_wayOf_113 (v := (0 : Int32)) (by decide) ?_
                          refine zr_sub [2, 3, 4, 5, 6, 1, 8, 0] [(0, .ref (G.1 + 105)), (1, .int a1), (2, .int r1), (3, .int w3_18), (4, .int w4_39), (5, .int v9), (7, .int w7_39), (8, .int v10)] rfl ?_
                          exact hj114 _ hJ
                        · have hJ := zif hc17 hJ
                          refine zr_iconst C dX11_wayOf_109 (v := (1 : Int32)) (by decide) ?_
                          refine zr_goto C 114 dX11_wayOf_110 (by decide) ?_
                          refine zr_sub [2, 3, 4, 5, 6, 1, 8, 0] [(0, .ref (G.1 + 105)), (1, .int a1), (2, .int r1), (3, .int w3_18), (4, .int w4_39), (5, .int v9), (7, .int w7_39), (8, .int v10)] rfl ?_
                          exact hj114 _ hJ
          refine zr_sub [4, 5, 6, 7, 3, 2, 1, 0] [(0, .ref (G.1 + 105)), (1, .int a1), (2, .int r1), (3, .int w3_18), (4, .int (0 : Int32)), (5, .int r1), (6, .int (1 : Int32)), (7, .int (0 : Int32))] rfl ?_
          exact hl39 _ _ _ _ _ hJ
    refine zr_sub [2, 3, 1, 0] [(0, .ref (G.1 + 105)), (1, .int a1), (2, .int r1), (3, .int (0 : Int32))] rfl ?_
    exact hl18 _ _ hJ
  · have hJ := zif' hc2 hJ
    refine zr_bipush C dX11_wayOf_13 (v := (-4 : Int32)) (by decide) ?_
    exact zr_iret C hret (zs_e hJ) rfl rfl dX11_wayOf_15
theorem dX11_findRounds_0 : decode cX11_findRounds 0 = .ok (.iconst 0, 1) := by decide +kernel
theorem dX11_findRounds_1 : decode cX11_findRounds 1 = .ok (.istore_n 2, 1) := by decide +kernel
theorem dX11_findRounds_2 : decode cX11_findRounds 2 = .ok (.iload_n 2, 1) := by decide +kernel
theorem dX11_findRounds_3 : decode cX11_findRounds 3 = .ok (.sipush 256, 3) := by decide +kernel
theorem dX11_findRounds_6 : decode cX11_findRounds 6 = .ok (.if_icmp .ge 30, 3) := by decide +kernel
theorem dX11_findRounds_9 : decode cX11_findRounds 9 = .ok (.aload_n 0, 1) := by decide +kernel
theorem dX11_findRounds_10 : decode cX11_findRounds 10 = .ok (.getfield 80, 3) := by decide +kernel
theorem dX11_findRounds_13 : decode cX11_findRounds 13 = .ok (.iload_n 2, 1) := by decide +kernel
theorem dX11_findRounds_14 : decode cX11_findRounds 14 = .ok (.aload_n 0, 1) := by decide +kernel
theorem dX11_findRounds_15 : decode cX11_findRounds 15 = .ok (.iload_n 2, 1) := by decide +kernel
theorem dX11_findRounds_16 : decode cX11_findRounds 16 = .ok (.invokevirtual 289, 3) := by decide +kernel
theorem dX11_findRounds_19 : decode cX11_findRounds 19 = .ok (.bipush (-4), 2) := by decide +kernel
theorem dX11_findRounds_21 : decode cX11_findRounds 21 = .ok (.if_icmp .eq 7, 3) := by decide +kernel
theorem dX11_findRounds_24 : decode cX11_findRounds 24 = .ok (.iconst 1, 1) := by decide +kernel
theorem dX11_findRounds_25 : decode cX11_findRounds 25 = .ok (.goto 4, 3) := by decide +kernel
theorem dX11_findRounds_28 : decode cX11_findRounds 28 = .ok (.iconst 0, 1) := by decide +kernel
theorem dX11_findRounds_29 : decode cX11_findRounds 29 = .ok (.bastore, 1) := by decide +kernel
theorem dX11_findRounds_30 : decode cX11_findRounds 30 = .ok (.iinc 2 1, 3) := by decide +kernel
theorem dX11_findRounds_33 : decode cX11_findRounds 33 = .ok (.goto (-31), 3) := by decide +kernel
theorem dX11_findRounds_36 : decode cX11_findRounds 36 = .ok (.aload_n 0, 1) := by decide +kernel
theorem dX11_findRounds_37 : decode cX11_findRounds 37 = .ok (.getfield 77, 3) := by decide +kernel
theorem dX11_findRounds_40 : decode cX11_findRounds 40 = .ok (.iconst 0, 1) := by decide +kernel
theorem dX11_findRounds_41 : decode cX11_findRounds 41 = .ok (.iconst 0, 1) := by decide +kernel
theorem dX11_findRounds_42 : decode cX11_findRounds 42 = .ok (.iastore, 1) := by decide +kernel
theorem dX11_findRounds_43 : decode cX11_findRounds 43 = .ok (.iconst 1, 1) := by decide +kernel
theorem dX11_findRounds_44 : decode cX11_findRounds 44 = .ok (.istore_n 2, 1) := by decide +kernel
theorem dX11_findRounds_45 : decode cX11_findRounds 45 = .ok (.iload_n 2, 1) := by decide +kernel
theorem dX11_findRounds_46 : decode cX11_findRounds 46 = .ok (.sipush 256, 3) := by decide +kernel
theorem dX11_findRounds_49 : decode cX11_findRounds 49 = .ok (.if_icmp .ge 125, 3) := by decide +kernel
theorem dX11_findRounds_52 : decode cX11_findRounds 52 = .ok (.aload_n 0, 1) := by decide +kernel
theorem dX11_findRounds_53 : decode cX11_findRounds 53 = .ok (.getfield 77, 3) := by decide +kernel
theorem dX11_findRounds_56 : decode cX11_findRounds 56 = .ok (.iload_n 2, 1) := by decide +kernel
theorem dX11_findRounds_57 : decode cX11_findRounds 57 = .ok (.bipush 99, 2) := by decide +kernel
theorem dX11_findRounds_59 : decode cX11_findRounds 59 = .ok (.iastore, 1) := by decide +kernel
theorem dX11_findRounds_60 : decode cX11_findRounds 60 = .ok (.iload_n 2, 1) := by decide +kernel
theorem dX11_findRounds_61 : decode cX11_findRounds 61 = .ok (.iload_n 2, 1) := by decide +kernel
theorem dX11_findRounds_62 : decode cX11_findRounds 62 = .ok (.ineg, 1) := by decide +kernel
theorem dX11_findRounds_63 : decode cX11_findRounds 63 = .ok (.iand, 1) := by decide +kernel
theorem dX11_findRounds_64 : decode cX11_findRounds 64 = .ok (.istore_n 3, 1) := by decide +kernel
theorem dX11_findRounds_65 : decode cX11_findRounds 65 = .ok (.iconst 1, 1) := by decide +kernel
theorem dX11_findRounds_66 : decode cX11_findRounds 66 = .ok (.istore 4, 2) := by decide +kernel
theorem dX11_findRounds_68 : decode cX11_findRounds 68 = .ok (.iload 4, 2) := by decide +kernel
theorem dX11_findRounds_70 : decode cX11_findRounds 70 = .ok (.iload_n 2, 1) := by decide +kernel
theorem dX11_findRounds_71 : decode cX11_findRounds 71 = .ok (.if_icmp .gt 97, 3) := by decide +kernel
theorem dX11_findRounds_74 : decode cX11_findRounds 74 = .ok (.iload 4, 2) := by decide +kernel
theorem dX11_findRounds_76 : decode cX11_findRounds 76 = .ok (.iload_n 2, 1) := by decide +kernel
theorem dX11_findRounds_77 : decode cX11_findRounds 77 = .ok (.iconst (-1), 1) := by decide +kernel
theorem dX11_findRounds_78 : decode cX11_findRounds 78 = .ok (.ixor, 1) := by decide +kernel
theorem dX11_findRounds_79 : decode cX11_findRounds 79 = .ok (.iand, 1) := by decide +kernel
theorem dX11_findRounds_80 : decode cX11_findRounds 80 = .ok (.ifCond .ne 24, 3) := by decide +kernel
theorem dX11_findRounds_83 : decode cX11_findRounds 83 = .ok (.iload 4, 2) := by decide +kernel
theorem dX11_findRounds_85 : decode cX11_findRounds 85 = .ok (.iload_n 3, 1) := by decide +kernel
theorem dX11_findRounds_86 : decode cX11_findRounds 86 = .ok (.iand, 1) := by decide +kernel
theorem dX11_findRounds_87 : decode cX11_findRounds 87 = .ok (.ifCond .eq 17, 3) := by decide +kernel
theorem dX11_findRounds_90 : decode cX11_findRounds 90 = .ok (.aload_n 0, 1) := by decide +kernel
theorem dX11_findRounds_91 : decode cX11_findRounds 91 = .ok (.getfield 80, 3) := by decide +kernel
theorem dX11_findRounds_94 : decode cX11_findRounds 94 = .ok (.iload 4, 2) := by decide +kernel
theorem dX11_findRounds_96 : decode cX11_findRounds 96 = .ok (.baload, 1) := by decide +kernel
theorem dX11_findRounds_97 : decode cX11_findRounds 97 = .ok (.ifCond .eq 7, 3) := by decide +kernel
theorem dX11_findRounds_100 : decode cX11_findRounds 100 = .ok (.iconst 1, 1) := by decide +kernel
theorem dX11_findRounds_101 : decode cX11_findRounds 101 = .ok (.goto 4, 3) := by decide +kernel
theorem dX11_findRounds_104 : decode cX11_findRounds 104 = .ok (.iconst 0, 1) := by decide +kernel
theorem dX11_findRounds_105 : decode cX11_findRounds 105 = .ok (.istore 5, 2) := by decide +kernel
theorem dX11_findRounds_107 : decode cX11_findRounds 107 = .ok (.aload_n 0, 1) := by decide +kernel
theorem dX11_findRounds_108 : decode cX11_findRounds 108 = .ok (.getfield 77, 3) := by decide +kernel
theorem dX11_findRounds_111 : decode cX11_findRounds 111 = .ok (.iload_n 2, 1) := by decide +kernel
theorem dX11_findRounds_112 : decode cX11_findRounds 112 = .ok (.iload 5, 2) := by decide +kernel
theorem dX11_findRounds_114 : decode cX11_findRounds 114 = .ok (.ifCond .eq 41, 3) := by decide +kernel
theorem dX11_findRounds_117 : decode cX11_findRounds 117 = .ok (.aload_n 0, 1) := by decide +kernel
theorem dX11_findRounds_118 : decode cX11_findRounds 118 = .ok (.getfield 77, 3) := by decide +kernel
theorem dX11_findRounds_121 : decode cX11_findRounds 121 = .ok (.iload_n 2, 1) := by decide +kernel
theorem dX11_findRounds_122 : decode cX11_findRounds 122 = .ok (.iload 4, 2) := by decide +kernel
theorem dX11_findRounds_124 : decode cX11_findRounds 124 = .ok (.iconst (-1), 1) := by decide +kernel
theorem dX11_findRounds_125 : decode cX11_findRounds 125 = .ok (.ixor, 1) := by decide +kernel
theorem dX11_findRounds_126 : decode cX11_findRounds 126 = .ok (.iand, 1) := by decide +kernel
theorem dX11_findRounds_127 : decode cX11_findRounds 127 = .ok (.iaload, 1) := by decide +kernel
theorem dX11_findRounds_128 : decode cX11_findRounds 128 = .ok (.iconst 1, 1) := by decide +kernel
theorem dX11_findRounds_129 : decode cX11_findRounds 129 = .ok (.iadd, 1) := by decide +kernel
theorem dX11_findRounds_130 : decode cX11_findRounds 130 = .ok (.aload_n 0, 1) := by decide +kernel
theorem dX11_findRounds_131 : decode cX11_findRounds 131 = .ok (.getfield 77, 3) := by decide +kernel
theorem dX11_findRounds_134 : decode cX11_findRounds 134 = .ok (.iload_n 2, 1) := by decide +kernel
theorem dX11_findRounds_135 : decode cX11_findRounds 135 = .ok (.iaload, 1) := by decide +kernel
theorem dX11_findRounds_136 : decode cX11_findRounds 136 = .ok (.if_icmp .ge 19, 3) := by decide +kernel
theorem dX11_findRounds_139 : decode cX11_findRounds 139 = .ok (.aload_n 0, 1) := by decide +kernel
theorem dX11_findRounds_140 : decode cX11_findRounds 140 = .ok (.getfield 77, 3) := by decide +kernel
theorem dX11_findRounds_143 : decode cX11_findRounds 143 = .ok (.iload_n 2, 1) := by decide +kernel
theorem dX11_findRounds_144 : decode cX11_findRounds 144 = .ok (.iload 4, 2) := by decide +kernel
theorem dX11_findRounds_146 : decode cX11_findRounds 146 = .ok (.iconst (-1), 1) := by decide +kernel
theorem dX11_findRounds_147 : decode cX11_findRounds 147 = .ok (.ixor, 1) := by decide +kernel
theorem dX11_findRounds_148 : decode cX11_findRounds 148 = .ok (.iand, 1) := by decide +kernel
theorem dX11_findRounds_149 : decode cX11_findRounds 149 = .ok (.iaload, 1) := by decide +kernel
theorem dX11_findRounds_150 : decode cX11_findRounds 150 = .ok (.iconst 1, 1) := by decide +kernel
theorem dX11_findRounds_151 : decode cX11_findRounds 151 = .ok (.iadd, 1) := by decide +kernel
theorem dX11_findRounds_152 : decode cX11_findRounds 152 = .ok (.goto 9, 3) := by decide +kernel
theorem dX11_findRounds_155 : decode cX11_findRounds 155 = .ok (.aload_n 0, 1) := by decide +kernel
theorem dX11_findRounds_156 : decode cX11_findRounds 156 = .ok (.getfield 77, 3) := by decide +kernel
theorem dX11_findRounds_159 : decode cX11_findRounds 159 = .ok (.iload_n 2, 1) := by decide +kernel
theorem dX11_findRounds_160 : decode cX11_findRounds 160 = .ok (.iaload, 1) := by decide +kernel
theorem dX11_findRounds_161 : decode cX11_findRounds 161 = .ok (.iastore, 1) := by decide +kernel
theorem dX11_findRounds_162 : decode cX11_findRounds 162 = .ok (.iinc 4 1, 3) := by decide +kernel
theorem dX11_findRounds_165 : decode cX11_findRounds 165 = .ok (.goto (-97), 3) := by decide +kernel
theorem dX11_findRounds_168 : decode cX11_findRounds 168 = .ok (.iinc 2 1, 3) := by decide +kernel
theorem dX11_findRounds_171 : decode cX11_findRounds 171 = .ok (.goto (-126), 3) := by decide +kernel
theorem dX11_findRounds_174 : decode cX11_findRounds 174 = .ok (.aload_n 0, 1) := by decide +kernel
theorem dX11_findRounds_175 : decode cX11_findRounds 175 = .ok (.aload_n 0, 1) := by decide +kernel
theorem dX11_findRounds_176 : decode cX11_findRounds 176 = .ok (.getfield 77, 3) := by decide +kernel
theorem dX11_findRounds_179 : decode cX11_findRounds 179 = .ok (.iload_n 1, 1) := by decide +kernel
theorem dX11_findRounds_180 : decode cX11_findRounds 180 = .ok (.iaload, 1) := by decide +kernel
theorem dX11_findRounds_181 : decode cX11_findRounds 181 = .ok (.bipush 99, 2) := by decide +kernel
theorem dX11_findRounds_183 : decode cX11_findRounds 183 = .ok (.if_icmp .lt 8, 3) := by decide +kernel
theorem dX11_findRounds_186 : decode cX11_findRounds 186 = .ok (.bipush (-4), 2) := by decide +kernel
theorem dX11_findRounds_188 : decode cX11_findRounds 188 = .ok (.goto 4, 3) := by decide +kernel
theorem dX11_findRounds_191 : decode cX11_findRounds 191 = .ok (.iconst 0, 1) := by decide +kernel
theorem dX11_findRounds_192 : decode cX11_findRounds 192 = .ok (.putfield 292, 3) := by decide +kernel
theorem dX11_findRounds_195 : decode cX11_findRounds 195 = .ok (.aload_n 0, 1) := by decide +kernel
theorem dX11_findRounds_196 : decode cX11_findRounds 196 = .ok (.getfield 292, 3) := by decide +kernel
theorem dX11_findRounds_199 : decode cX11_findRounds 199 = .ok (.bipush (-4), 2) := by decide +kernel
theorem dX11_findRounds_201 : decode cX11_findRounds 201 = .ok (.if_icmp .ne 7, 3) := by decide +kernel
theorem dX11_findRounds_204 : decode cX11_findRounds 204 = .ok (.iconst 0, 1) := by decide +kernel
theorem dX11_findRounds_205 : decode cX11_findRounds 205 = .ok (.goto 4, 3) := by decide +kernel
theorem dX11_findRounds_208 : decode cX11_findRounds 208 = .ok (.iload_n 1, 1) := by decide +kernel
theorem dX11_findRounds_209 : decode cX11_findRounds 209 = .ok (.istore_n 2, 1) := by decide +kernel
theorem dX11_findRounds_210 : decode cX11_findRounds 210 = .ok (.iload_n 2, 1) := by decide +kernel
theorem dX11_findRounds_211 : decode cX11_findRounds 211 = .ok (.ifCond .eq 87, 3) := by decide +kernel
theorem dX11_findRounds_214 : decode cX11_findRounds 214 = .ok (.iconst 1, 1) := by decide +kernel
theorem dX11_findRounds_215 : decode cX11_findRounds 215 = .ok (.istore_n 3, 1) := by decide +kernel
theorem dX11_findRounds_216 : decode cX11_findRounds 216 = .ok (.iload_n 3, 1) := by decide +kernel
theorem dX11_findRounds_217 : decode cX11_findRounds 217 = .ok (.iload_n 2, 1) := by decide +kernel
theorem dX11_findRounds_218 : decode cX11_findRounds 218 = .ok (.iconst (-1), 1) := by decide +kernel
theorem dX11_findRounds_219 : decode cX11_findRounds 219 = .ok (.ixor, 1) := by decide +kernel
theorem dX11_findRounds_220 : decode cX11_findRounds 220 = .ok (.iand, 1) := by decide +kernel
theorem dX11_findRounds_221 : decode cX11_findRounds 221 = .ok (.ifCond .ne 42, 3) := by decide +kernel
theorem dX11_findRounds_224 : decode cX11_findRounds 224 = .ok (.iload_n 3, 1) := by decide +kernel
theorem dX11_findRounds_225 : decode cX11_findRounds 225 = .ok (.iload_n 2, 1) := by decide +kernel
theorem dX11_findRounds_226 : decode cX11_findRounds 226 = .ok (.iload_n 2, 1) := by decide +kernel
theorem dX11_findRounds_227 : decode cX11_findRounds 227 = .ok (.ineg, 1) := by decide +kernel
theorem dX11_findRounds_228 : decode cX11_findRounds 228 = .ok (.iand, 1) := by decide +kernel
theorem dX11_findRounds_229 : decode cX11_findRounds 229 = .ok (.iand, 1) := by decide +kernel
theorem dX11_findRounds_230 : decode cX11_findRounds 230 = .ok (.ifCond .eq 33, 3) := by decide +kernel
theorem dX11_findRounds_233 : decode cX11_findRounds 233 = .ok (.aload_n 0, 1) := by decide +kernel
theorem dX11_findRounds_234 : decode cX11_findRounds 234 = .ok (.getfield 80, 3) := by decide +kernel
theorem dX11_findRounds_237 : decode cX11_findRounds 237 = .ok (.iload_n 3, 1) := by decide +kernel
theorem dX11_findRounds_238 : decode cX11_findRounds 238 = .ok (.baload, 1) := by decide +kernel
theorem dX11_findRounds_239 : decode cX11_findRounds 239 = .ok (.ifCond .eq 24, 3) := by decide +kernel
theorem dX11_findRounds_242 : decode cX11_findRounds 242 = .ok (.aload_n 0, 1) := by decide +kernel
theorem dX11_findRounds_243 : decode cX11_findRounds 243 = .ok (.getfield 77, 3) := by decide +kernel
theorem dX11_findRounds_246 : decode cX11_findRounds 246 = .ok (.iload_n 2, 1) := by decide +kernel
theorem dX11_findRounds_247 : decode cX11_findRounds 247 = .ok (.iload_n 3, 1) := by decide +kernel
theorem dX11_findRounds_248 : decode cX11_findRounds 248 = .ok (.iconst (-1), 1) := by decide +kernel
theorem dX11_findRounds_249 : decode cX11_findRounds 249 = .ok (.ixor, 1) := by decide +kernel
theorem dX11_findRounds_250 : decode cX11_findRounds 250 = .ok (.iand, 1) := by decide +kernel
theorem dX11_findRounds_251 : decode cX11_findRounds 251 = .ok (.iaload, 1) := by decide +kernel
theorem dX11_findRounds_252 : decode cX11_findRounds 252 = .ok (.iconst 1, 1) := by decide +kernel
theorem dX11_findRounds_253 : decode cX11_findRounds 253 = .ok (.iadd, 1) := by decide +kernel
theorem dX11_findRounds_254 : decode cX11_findRounds 254 = .ok (.aload_n 0, 1) := by decide +kernel
theorem dX11_findRounds_255 : decode cX11_findRounds 255 = .ok (.getfield 77, 3) := by decide +kernel
theorem dX11_findRounds_258 : decode cX11_findRounds 258 = .ok (.iload_n 2, 1) := by decide +kernel
theorem dX11_findRounds_259 : decode cX11_findRounds 259 = .ok (.iaload, 1) := by decide +kernel
theorem dX11_findRounds_260 : decode cX11_findRounds 260 = .ok (.if_icmp .eq 9, 3) := by decide +kernel
theorem dX11_findRounds_263 : decode cX11_findRounds 263 = .ok (.iinc 3 1, 3) := by decide +kernel
theorem dX11_findRounds_266 : decode cX11_findRounds 266 = .ok (.goto (-50), 3) := by decide +kernel
theorem dX11_findRounds_269 : decode cX11_findRounds 269 = .ok (.aload_n 0, 1) := by decide +kernel
theorem dX11_findRounds_270 : decode cX11_findRounds 270 = .ok (.getfield 84, 3) := by decide +kernel
theorem dX11_findRounds_273 : decode cX11_findRounds 273 = .ok (.aload_n 0, 1) := by decide +kernel
theorem dX11_findRounds_274 : decode cX11_findRounds 274 = .ok (.getfield 292, 3) := by decide +kernel
theorem dX11_findRounds_277 : decode cX11_findRounds 277 = .ok (.iload_n 3, 1) := by decide +kernel
theorem dX11_findRounds_278 : decode cX11_findRounds 278 = .ok (.iastore, 1) := by decide +kernel
theorem dX11_findRounds_279 : decode cX11_findRounds 279 = .ok (.aload_n 0, 1) := by decide +kernel
theorem dX11_findRounds_280 : decode cX11_findRounds 280 = .ok (.dup, 1) := by decide +kernel
theorem dX11_findRounds_281 : decode cX11_findRounds 281 = .ok (.getfield 292, 3) := by decide +kernel
theorem dX11_findRounds_284 : decode cX11_findRounds 284 = .ok (.iconst 1, 1) := by decide +kernel
theorem dX11_findRounds_285 : decode cX11_findRounds 285 = .ok (.iadd, 1) := by decide +kernel
theorem dX11_findRounds_286 : decode cX11_findRounds 286 = .ok (.putfield 292, 3) := by decide +kernel
theorem dX11_findRounds_289 : decode cX11_findRounds 289 = .ok (.iload_n 2, 1) := by decide +kernel
theorem dX11_findRounds_290 : decode cX11_findRounds 290 = .ok (.iload_n 3, 1) := by decide +kernel
theorem dX11_findRounds_291 : decode cX11_findRounds 291 = .ok (.iconst (-1), 1) := by decide +kernel
theorem dX11_findRounds_292 : decode cX11_findRounds 292 = .ok (.ixor, 1) := by decide +kernel
theorem dX11_findRounds_293 : decode cX11_findRounds 293 = .ok (.iand, 1) := by decide +kernel
theorem dX11_findRounds_294 : decode cX11_findRounds 294 = .ok (.istore_n 2, 1) := by decide +kernel
theorem dX11_findRounds_295 : decode cX11_findRounds 295 = .ok (.goto (-85), 3) := by decide +kernel
theorem dX11_findRounds_298 : decode cX11_findRounds 298 = .ok (.return_, 1) := by decide +kernel
set_option maxRecDepth 100000 in
set_option maxHeartbeats 4000000 in
theorem M_X11_findRounds (G : zG) (l : Launch) {a1 : Int32} {σ : zS} {σ' : zS} (hJ : J_X11_findRounds a1 σ = some σ') : zMV G l yX11_findRounds cX11_findRounds 6 none (zrm 2 50) [.ref (G.1 + 105), .int a1] 137 (zen G σ) 137 (zen G σ') := by
  unfold J_X11_findRounds at hJ
  refine zentV (by decide +kernel) (Nat.le_of_ble_eq_true rfl) ?_
  intro p e s m args below meth c C hret
  refine zr_sub [0, 1] [(0, .ref (G.1 + 105)), (1, .int a1)] rfl ?_
  refine zr_iconst C dX11_findRounds_0 (v := (0 : Int32)) (by decide) ?_
  refine zr_istore_n C [(2, .int (0 : Int32)), (0, .ref (G.1 + 105)), (1, .int a1)] dX11_findRounds_1 (by decide) rfl ?_
  obtain ⟨k36, hk36, hJ⟩ := zlet_e hJ
  have hj36 : ∀ (σ_36 : zS), k36 σ_36 = some σ' → zU G 6 p l e (zrm 2 50) s m args below meth c (MQ below (va_Qv (fun (_ : Unit) => True) (fun _ t => zok G 137 (zen G σ') t) (zA G)) args s 0 0 (zA G)) σ_36 36 [(0, .ref (G.1 + 105)), (1, .int a1)] [] := by
    intro σ_36 hJ
    rw [hk36] at hJ
    unfold D_X11_findRounds_36 at hJ
    refine zr_aload_n C 0 dX11_findRounds_36 rfl ?_
    refine zg_11_39 C 105 zk_105 zm_8_9 dX11_findRounds_37 ?_
    refine zr_iconst C dX11_findRounds_40 (v := (0 : Int32)) (by decide) ?_
    refine zr_iconst C dX11_findRounds_41 (v := (0 : Int32)) (by decide) ?_
    obtain ⟨hg1, hJ⟩ := zg_e hJ
    obtain ⟨σ2, hσ2, hJ⟩ := zlet_e hJ
    refine zv_iast C 127 zk_127 hg1 hσ2 dX11_findRounds_42 ?_
    refine zr_iconst C dX11_findRounds_43 (v := (1 : Int32)) (by decide) ?_
    refine zr_istore_n C [(2, .int (1 : Int32)), (0, .ref (G.1 + 105)), (1, .int a1)] dX11_findRounds_44 (by decide) rfl ?_
    obtain ⟨k174, hk174, hJ⟩ := zlet_e hJ
    have hj174 : ∀ (σ_174 : zS), k174 σ_174 = some σ' → zU G 6 p l e (zrm 2 50) s m args below meth c (MQ below (va_Qv (fun (_ : Unit) => True) (fun _ t => zok G 137 (zen G σ') t) (zA G)) args s 0 0 (zA G)) σ_174 174 [(0, .ref (G.1 + 105)), (1, .int a1)] [] := by
      intro σ_174 hJ
      rw [hk174] at hJ
      unfold D_X11_findRounds_174 at hJ
      refine zr_aload_n C 0 dX11_findRounds_174 rfl ?_
      refine zr_aload_n C 0 dX11_findRounds_175 rfl ?_
      refine zg_11_39 C 105 zk_105 zm_8_9 dX11_findRounds_176 ?_
      refine zr_iload_n C 1 dX11_findRounds_179 rfl ?_
      obtain ⟨hg3, hJ⟩ := zg_e hJ
      refine zu_iald C 127 zk_127 hg3 dX11_findRounds_180 ?_
      refine zr_bipush C dX11_findRounds_181 (v := (99 : Int32)) (by decide) ?_
      obtain ⟨v4, hv4, hJ⟩ := zlet_e hJ
      have hf25 : zU G 6 p l e (zrm 2 50) s m args below meth c (MQ below (va_Qv (fun (_ : Unit) => True) (fun _ t => zok G 137 (zen G σ') t) (zA G)) args s 0 0 (zA G)) σ_174 192 [(0, .ref (G.1 + 105)), (1, .int a1)] [.int v4, .ref (G.1 + 105)] := by
        obtain ⟨σ5, hσ5, hJ⟩ := zlet_e hJ
        refine zp_11_41 C 105 zk_105 zm_33_17 hσ5 dX11_findRounds_192 ?_
        refine zr_aload_n C 0 dX11_findRounds_195 rfl ?_
        refine zg_11_41 C 105 zk_105 zm_33_17 dX11_findRounds_196 ?_
        refine zr_bipush C dX11_findRounds_199 (v := (-4 : Int32)) (by decide) ?_
        obtain ⟨v6, hv6, hJ⟩ := zlet_e hJ
        have hf23 : zU G 6 p l e (zrm 2 50) s m args below meth c (MQ below (va_Qv (fun (_ : Unit) => True) (fun _ t => zok G 137 (zen G σ') t) (zA G)) args s 0 0 (zA G)) σ5 209 [(0, .ref (G.1 + 105))] [.int v6] := by
          refine zr_istore_n C [(2, .int v6), (0, .ref (G.1 + 105))] dX11_findRounds_209 (by decide) rfl ?_
          have hl210 : ∀ (n : Nat) (w2_210 : Int32) (σ_210 : zS), L_X11_findRounds_210 n w2_210 σ_210 = some σ' → zU G 6 p l e (zrm 2 50) s m args below meth c (MQ below (va_Qv (fun (_ : Unit) => True) (fun _ t => zok G 137 (zen G σ') t) (zA G)) args s 0 0 (zA G)) σ_210 210 [(0, .ref (G.1 + 105)), (2, .int w2_210)] [] := by
            intro n
            induction n with
            | zero =>
              intro w2_210 σ_210 hJ
              rw [L_X11_findRounds_210] at hJ
              cases hJ
            | succ n ih =>
              intro w2_210 σ_210 hJ
              rw [L_X11_findRounds_210] at hJ
              obtain ⟨r_210, hr_210, hJ⟩ := zlet_e hJ
              have ih210 : ∀ (w2_210 : Int32) (σ_210 : zS), r_210 w2_210 σ_210 = some σ' → zU G 6 p l e (zrm 2 50) s m args below meth c (MQ below (va_Qv (fun (_ : Unit) => True) (fun _ t => zok G 137 (zen G σ') t) (zA G)) args s 0 0 (zA G)) σ_210 210 [(0, .ref (G.1 + 105)), (2, .int w2_210)] [] := by
                rw [hr_210]
                exact ih
              refine zr_iload_n C 1 dX11_findRounds_210 rfl ?_
              refine zr_if_eq C 298 dX11_findRounds_211 (by decide) (fun hc7 => ?_) (fun hc7 => ?_)
              · have hJ := zif hc7 hJ
                exact zr_vret C hret rfl (congrArg (zen G) (zs_e hJ)) dX11_findRounds_298
              · have hJ := zif' hc7 hJ
                refine zr_iconst C dX11_findRounds_214 (v := (1 : Int32)) (by decide) ?_
                refine zr_istore_n C [(3, .int (1 : Int32)), (0, .ref (G.1 + 105)), (2, .int w2_210)] dX11_findRounds_215 (by decide) rfl ?_
                obtain ⟨k269, hk269, hJ⟩ := zlet_e hJ
                have hj269 : ∀ (w3_269 : Int32), k269 w3_269 = some σ' → zU G 6 p l e (zrm 2 50) s m args below meth c (MQ below (va_Qv (fun (_ : Unit) => True) (fun _ t => zok G 137 (zen G σ') t) (zA G)) args s 0 0 (zA G)) σ_210 269 [(0, .ref (G.1 + 105)), (2, .int w2_210), (3, .int w3_269)] [] := by
                  intro w3_269 hJ
                  rw [hk269] at hJ
                  unfold D_X11_findRounds_269 at hJ
                  refine zr_aload_n C 0 dX11_findRounds_269 rfl ?_
                  refine zg_11_42 C 105 zk_105 zm_8_11 dX11_findRounds_270 ?_
                  refine zr_aload_n C 0 dX11_findRounds_273 rfl ?_
                  refine zg_11_41 C 105 zk_105 zm_33_17 dX11_findRounds_274 ?_
                  refine zr_iload_n C 2 dX11_findRounds_277 rfl ?_
                  obtain ⟨hg8, hJ⟩ := zg_e hJ
                  obtain ⟨σ9, hσ9, hJ⟩ := zlet_e hJ
                  refine zv_iast C 129 zk_129 hg8 hσ9 dX11_findRounds_278 ?_
                  refine zr_aload_n C 0 dX11_findRounds_279 rfl ?_
                  refine zr_dup C dX11_findRounds_280 rfl ?_
                  refine zg_11_41 C 105 zk_105 zm_33_17 dX11_findRounds_281 ?_
                  refine zr_iconst C dX11_findRounds_284 (v := (1 : Int32)) (by decide) ?_
                  refine zr_iadd C dX11_findRounds_285 ?_
                  obtain ⟨σ10, hσ10, hJ⟩ := zlet_e hJ
                  refine zp_11_41 C 105 zk_105 zm_33_17 hσ10 dX11_findRounds_286 ?_
                  refine zr_iload_n C 1 dX11_findRounds_289 rfl ?_
                  refine zr_iload_n C 2 dX11_findRounds_290 rfl ?_
                  refine zr_iconst C dX11_findRounds_291 (v := (-1 : Int32)) (by decide) ?_
                  refine zr_ixor C dX11_findRounds_292 ?_
                  refine zr_iand C dX11_findRounds_293 ?_
                  obtain ⟨v11, hv11, hJ⟩ := zlet_e hJ
                  refine zr_topi hv11 ?_
                  refine zr_istore_n C [(2, .int v11), (0, .ref (G.1 + 105)), (3, .int w3_269)] dX11_findRounds_294 (by decide) rfl ?_
                  refine zr_goto C 210 dX11_findRounds_295 (by decide) ?_
                  refine zr_sub [1, 0] [(0, .ref (G.1 + 105)), (2, .int v11)] rfl ?_
                  exact ih210 _ _ hJ
                have hl216 : ∀ (n : Nat) (w3_216 : Int32), L_X11_findRounds_216 w2_210 σ_210 k269 n w3_216 = some σ' → zU G 6 p l e (zrm 2 50) s m args below meth c (MQ below (va_Qv (fun (_ : Unit) => True) (fun _ t => zok G 137 (zen G σ') t) (zA G)) args s 0 0 (zA G)) σ_210 216 [(0, .ref (G.1 + 105)), (2, .int w2_210), (3, .int w3_216)] [] := by
                  intro n
                  induction n with
                  | zero =>
                    intro w3_216 hJ
                    rw [L_X11_findRounds_216] at hJ
                    cases hJ
                  | succ n ih =>
                    intro w3_216 hJ
                    rw [L_X11_findRounds_216] at hJ
                    obtain ⟨r_216, hr_216, hJ⟩ := zlet_e hJ
                    have ih216 : ∀ (w3_216 : Int32), r_216 w3_216 = some σ' → zU G 6 p l e (zrm 2 50) s m args below meth c (MQ below (va_Qv (fun (_ : Unit) => True) (fun _ t => zok G 137 (zen G σ') t) (zA G)) args s 0 0 (zA G)) σ_210 216 [(0, .ref (G.1 + 105)), (2, .int w2_210), (3, .int w3_216)] [] := by
                      rw [hr_216]
                      exact ih
                    refine zr_iload_n C 2 dX11_findRounds_216 rfl ?_
                    refine zr_iload_n C 1 dX11_findRounds_217 rfl ?_
                    refine zr_iconst C dX11_findRounds_218 (v := (-1 : Int32)) (by decide) ?_
                    refine zr_ixor C dX11_findRounds_219 ?_
                    refine zr_iand C dX11_findRounds_220 ?_
                    refine zr_if_ne C 263 dX11_findRounds_221 (by decide) (fun hc12 => ?_) (fun hc12 => ?_)
                    · have hJ := zif' hc12 hJ
                      obtain ⟨v13, hv13, hJ⟩ := zlet_e hJ
                      refine zr_iinc C v13 2 [(3, .int v13), (0, .ref (G.1 + 105)), (2, .int w2_210)] dX11_findRounds_263 rfl (hv13.trans (zinc (by decide))) (by decide) rfl ?_
                      refine zr_goto C 216 dX11_findRounds_266 (by decide) ?_
                      refine zr_sub [1, 2, 0] [(0, .ref (G.1 + 105)), (2, .int w2_210), (3, .int v13)] rfl ?_
                      exact ih216 _ hJ
                    · have hJ := zif hc12 hJ
                      refine zr_iload_n C 2 dX11_findRounds_224 rfl ?_
                      refine zr_iload_n C 1 dX11_findRounds_225 rfl ?_
                      refine zr_iload_n C 1 dX11_findRounds_226 rfl ?_
                      refine zr_ineg C dX11_findRounds_227 ?_
                      refine zr_iand C dX11_findRounds_228 ?_
                      refine zr_iand C dX11_findRounds_229 ?_
                      refine zr_if_eq C 263 dX11_findRounds_230 (by decide) (fun hc14 => ?_) (fun hc14 => ?_)
                      · have hJ := zif hc14 hJ
                        obtain ⟨v15, hv15, hJ⟩ := zlet_e hJ
                        refine zr_iinc C v15 2 [(3, .int v15), (0, .ref (G.1 + 105)), (2, .int w2_210)] dX11_findRounds_263 rfl (hv15.trans (zinc (by decide))) (by decide) rfl ?_
                        refine zr_goto C 216 dX11_findRounds_266 (by decide) ?_
                        refine zr_sub [1, 2, 0] [(0, .ref (G.1 + 105)), (2, .int w2_210), (3, .int v15)] rfl ?_
                        exact ih216 _ hJ
                      · have hJ := zif' hc14 hJ
                        refine zr_aload_n C 0 dX11_findRounds_233 rfl ?_
                        refine zg_11_40 C 105 zk_105 zm_8_10 dX11_findRounds_234 ?_
                        refine zr_iload_n C 2 dX11_findRounds_237 rfl ?_
                        obtain ⟨hg16, hJ⟩ := zg_e hJ
                        refine zu_zald C 128 zk_128 hg16 dX11_findRounds_238 ?_
                        refine zr_if_eq C 263 dX11_findRounds_239 (by decide) (fun hc17 => ?_) (fun hc17 => ?_)
                        · have hJ := zif hc17 hJ
                          obtain ⟨v18, hv18, hJ⟩ := zlet_e hJ
                          refine zr_iinc C v18 2 [(3, .int v18), (0, .ref (G.1 + 105)), (2, .int w2_210)] dX11_findRounds_263 rfl (hv18.trans (zinc (by decide))) (by decide) rfl ?_
                          refine zr_goto C 216 dX11_findRounds_266 (by decide) ?_
                          refine zr_sub [1, 2, 0] [(0, .ref (G.1 + 105)), (2, .int w2_210), (3, .int v18)] rfl ?_
                          exact ih216 _ hJ
                        · have hJ := zif' hc17 hJ
                          refine zr_aload_n C 0 dX11_findRounds_242 rfl ?_
                          refine zg_11_39 C 105 zk_105 zm_8_9 dX11_findRounds_243 ?_
                          refine zr_iload_n C 1 dX11_findRounds_246 rfl ?_
                          refine zr_iload_n C 2 dX11_findRounds_247 rfl ?_
                          refine zr_iconst C dX11_findRounds_248 (v := (-1 : Int32)) (by decide) ?_
                          refine zr_ixor C dX11_findRounds_249 ?_
                          refine zr_iand C dX11_findRounds_250 ?_
                          obtain ⟨hg19, hJ⟩ := zg_e hJ
                          refine zu_iald C 127 zk_127 hg19 dX11_findRounds_251 ?_
                          refine zr_iconst C dX11_findRounds_252 (v := (1 : Int32)) (by decide) ?_
                          refine zr_iadd C dX11_findRounds_253 ?_
                          refine zr_aload_n C 0 dX11_findRounds_254 rfl ?_
                          refine zg_11_39 C 105 zk_105 zm_8_9 dX11_findRounds_255 ?_
                          refine zr_iload_n C 1 dX11_findRounds_258 rfl ?_
                          obtain ⟨hg20, hJ⟩ := zg_e hJ
                          refine zu_iald C 127 zk_127 hg20 dX11_findRounds_259 ?_
                          refine zr_icmp_eq C 269 dX11_findRounds_260 (by decide) (fun hc21 => ?_) (fun hc21 => ?_)
                          · have hJ := zif hc21 hJ
                            exact hj269 _ hJ
                          · have hJ := zif' hc21 hJ
                            obtain ⟨v22, hv22, hJ⟩ := zlet_e hJ
                            refine zr_iinc C v22 2 [(3, .int v22), (0, .ref (G.1 + 105)), (2, .int w2_210)] dX11_findRounds_263 rfl (hv22.trans (zinc (by decide))) (by decide) rfl ?_
                            refine zr_goto C 216 dX11_findRounds_266 (by decide) ?_
                            refine zr_sub [1, 2, 0] [(0, .ref (G.1 + 105)), (2, .int w2_210), (3, .int v22)] rfl ?_
                            exact ih216 _ hJ
                refine zr_sub [1, 2, 0] [(0, .ref (G.1 + 105)), (2, .int w2_210), (3, .int (1 : Int32))] rfl ?_
                exact hl216 _ _ hJ
          refine zr_sub [1, 0] [(0, .ref (G.1 + 105)), (2, .int v6)] rfl ?_
          exact hl210 _ _ _ hJ
        refine zr_icmp_ne C 208 dX11_findRounds_201 (by decide) (fun hc24 => ?_) (fun hc24 => ?_)
        · have hv6 := hv6.trans (if_neg hc24)
          refine zr_iload_n C 1 dX11_findRounds_208 rfl ?_
          refine zr_sub [0] [(0, .ref (G.1 + 105))] rfl ?_
          rw [hv6] at hf23
          exact hf23
        · have hv6 := hv6.trans (if_pos hc24)
          refine zr_iconst C dX11_findRounds_204 (v := (0 : Int32)) (by decide) ?_
          refine zr_goto C 209 dX11_findRounds_205 (by decide) ?_
          refine zr_sub [0] [(0, .ref (G.1 + 105))] rfl ?_
          rw [hv6] at hf23
          exact hf23
      refine zr_icmp_lt C 191 dX11_findRounds_183 (by decide) (fun hc26 => ?_) (fun hc26 => ?_)
      · have hv4 := hv4.trans (if_pos hc26)
        refine zr_iconst C dX11_findRounds_191 (v := (0 : Int32)) (by decide) ?_
        rw [hv4] at hf25
        exact hf25
      · have hv4 := hv4.trans (if_neg hc26)
        refine zr_bipush C dX11_findRounds_186 (v := (-4 : Int32)) (by decide) ?_
        refine zr_goto C 192 dX11_findRounds_188 (by decide) ?_
        rw [hv4] at hf25
        exact hf25
    have hl45 : ∀ (n : Nat) (w2_45 : Int32) (σ_45 : zS), L_X11_findRounds_45 k174 n w2_45 σ_45 = some σ' → zU G 6 p l e (zrm 2 50) s m args below meth c (MQ below (va_Qv (fun (_ : Unit) => True) (fun _ t => zok G 137 (zen G σ') t) (zA G)) args s 0 0 (zA G)) σ_45 45 [(0, .ref (G.1 + 105)), (1, .int a1), (2, .int w2_45)] [] := by
      intro n
      induction n with
      | zero =>
        intro w2_45 σ_45 hJ
        rw [L_X11_findRounds_45] at hJ
        cases hJ
      | succ n ih =>
        intro w2_45 σ_45 hJ
        rw [L_X11_findRounds_45] at hJ
        obtain ⟨r_45, hr_45, hJ⟩ := zlet_e hJ
        have ih45 : ∀ (w2_45 : Int32) (σ_45 : zS), r_45 w2_45 σ_45 = some σ' → zU G 6 p l e (zrm 2 50) s m args below meth c (MQ below (va_Qv (fun (_ : Unit) => True) (fun _ t => zok G 137 (zen G σ') t) (zA G)) args s 0 0 (zA G)) σ_45 45 [(0, .ref (G.1 + 105)), (1, .int a1), (2, .int w2_45)] [] := by
          rw [hr_45]
          exact ih
        refine zr_iload_n C 2 dX11_findRounds_45 rfl ?_
        refine zr_sipush C dX11_findRounds_46 (v := (256 : Int32)) (by decide) ?_
        refine zr_icmp_ge C 174 dX11_findRounds_49 (by decide) (fun hc27 => ?_) (fun hc27 => ?_)
        · have hJ := zif hc27 hJ
          refine zr_sub [0, 1] [(0, .ref (G.1 + 105)), (1, .int a1)] rfl ?_
          exact hj174 _ hJ
        · have hJ := zif' hc27 hJ
          refine zr_aload_n C 0 dX11_findRounds_52 rfl ?_
          refine zg_11_39 C 105 zk_105 zm_8_9 dX11_findRounds_53 ?_
          refine zr_iload_n C 2 dX11_findRounds_56 rfl ?_
          refine zr_bipush C dX11_findRounds_57 (v := (99 : Int32)) (by decide) ?_
          obtain ⟨hg28, hJ⟩ := zg_e hJ
          obtain ⟨σ29, hσ29, hJ⟩ := zlet_e hJ
          refine zv_iast C 127 zk_127 hg28 hσ29 dX11_findRounds_59 ?_
          refine zr_iload_n C 2 dX11_findRounds_60 rfl ?_
          refine zr_iload_n C 2 dX11_findRounds_61 rfl ?_
          refine zr_ineg C dX11_findRounds_62 ?_
          refine zr_iand C dX11_findRounds_63 ?_
          obtain ⟨v30, hv30, hJ⟩ := zlet_e hJ
          refine zr_topi hv30 ?_
          refine zr_istore_n C [(3, .int v30), (0, .ref (G.1 + 105)), (1, .int a1), (2, .int w2_45)] dX11_findRounds_64 (by decide) rfl ?_
          refine zr_iconst C dX11_findRounds_65 (v := (1 : Int32)) (by decide) ?_
          refine zr_istore C [(4, .int (1 : Int32)), (3, .int v30), (0, .ref (G.1 + 105)), (1, .int a1), (2, .int w2_45)] dX11_findRounds_66 (by decide) rfl ?_
          obtain ⟨k168, hk168, hJ⟩ := zlet_e hJ
          have hj168 : ∀ (σ_168 : zS), k168 σ_168 = some σ' → zU G 6 p l e (zrm 2 50) s m args below meth c (MQ below (va_Qv (fun (_ : Unit) => True) (fun _ t => zok G 137 (zen G σ') t) (zA G)) args s 0 0 (zA G)) σ_168 168 [(0, .ref (G.1 + 105)), (1, .int a1), (2, .int w2_45)] [] := by
            intro σ_168 hJ
            rw [hk168] at hJ
            unfold D_X11_findRounds_168 at hJ
            obtain ⟨v31, hv31, hJ⟩ := zlet_e hJ
            refine zr_iinc C v31 2 [(2, .int v31), (0, .ref (G.1 + 105)), (1, .int a1)] dX11_findRounds_168 rfl (hv31.trans (zinc (by decide))) (by decide) rfl ?_
            refine zr_goto C 45 dX11_findRounds_171 (by decide) ?_
            refine zr_sub [1, 2, 0] [(0, .ref (G.1 + 105)), (1, .int a1), (2, .int v31)] rfl ?_
            exact ih45 _ _ hJ
          have hl68 : ∀ (n : Nat) (w4_68 : Int32) (σ_68 : zS), L_X11_findRounds_68 w2_45 v30 k168 n w4_68 σ_68 = some σ' → zU G 6 p l e (zrm 2 50) s m args below meth c (MQ below (va_Qv (fun (_ : Unit) => True) (fun _ t => zok G 137 (zen G σ') t) (zA G)) args s 0 0 (zA G)) σ_68 68 [(0, .ref (G.1 + 105)), (1, .int a1), (2, .int w2_45), (3, .int v30), (4, .int w4_68)] [] := by
            intro n
            induction n with
            | zero =>
              intro w4_68 σ_68 hJ
              rw [L_X11_findRounds_68] at hJ
              cases hJ
            | succ n ih =>
              intro w4_68 σ_68 hJ
              rw [L_X11_findRounds_68] at hJ
              obtain ⟨r_68, hr_68, hJ⟩ := zlet_e hJ
              have ih68 : ∀ (w4_68 : Int32) (σ_68 : zS), r_68 w4_68 σ_68 = some σ' → zU G 6 p l e (zrm 2 50) s m args below meth c (MQ below (va_Qv (fun (_ : Unit) => True) (fun _ t => zok G 137 (zen G σ') t) (zA G)) args s 0 0 (zA G)) σ_68 68 [(0, .ref (G.1 + 105)), (1, .int a1), (2, .int w2_45), (3, .int v30), (4, .int w4_68)] [] := by
                rw [hr_68]
                exact ih
              refine zr_iload C 4 dX11_findRounds_68 rfl ?_
              refine zr_iload_n C 2 dX11_findRounds_70 rfl ?_
              refine zr_icmp_gt C 168 dX11_findRounds_71 (by decide) (fun hc32 => ?_) (fun hc32 => ?_)
              · have hJ := zif hc32 hJ
                refine zr_sub [0, 1, 2] [(0, .ref (G.1 + 105)), (1, .int a1), (2, .int w2_45)] rfl ?_
                exact hj168 _ hJ
              · have hJ := zif' hc32 hJ
                refine zr_iload C 4 dX11_findRounds_74 rfl ?_
                refine zr_iload_n C 2 dX11_findRounds_76 rfl ?_
                refine zr_iconst C dX11_findRounds_77 (v := (-1 : Int32)) (by decide) ?_
                refine zr_ixor C dX11_findRounds_78 ?_
                refine zr_iand C dX11_findRounds_79 ?_
                obtain ⟨k105, hk105, hJ⟩ := zlet_e hJ
                have hj105 : ∀ (x0_105 : Int32), k105 x0_105 = some σ' → zU G 6 p l e (zrm 2 50) s m args below meth c (MQ below (va_Qv (fun (_ : Unit) => True) (fun _ t => zok G 137 (zen G σ') t) (zA G)) args s 0 0 (zA G)) σ_68 105 [(0, .ref (G.1 + 105)), (1, .int a1), (2, .int w2_45), (3, .int v30), (4, .int w4_68)] [.int x0_105] := by
                  intro x0_105 hJ
                  rw [hk105] at hJ
                  unfold D_X11_findRounds_105 at hJ
                  refine zr_istore C [(5, .int x0_105), (0, .ref (G.1 + 105)), (1, .int a1), (2, .int w2_45), (3, .int v30), (4, .int w4_68)] dX11_findRounds_105 (by decide) rfl ?_
                  refine zr_aload_n C 1 dX11_findRounds_107 rfl ?_
                  refine zg_11_39 C 105 zk_105 zm_8_9 dX11_findRounds_108 ?_
                  refine zr_iload_n C 3 dX11_findRounds_111 rfl ?_
                  refine zr_iload C 0 dX11_findRounds_112 rfl ?_
                  obtain ⟨k155, hk155, hJ⟩ := zlet_e hJ
                  have hj155 : k155 = some σ' → zU G 6 p l e (zrm 2 50) s m args below meth c (MQ below (va_Qv (fun (_ : Unit) => True) (fun _ t => zok G 137 (zen G σ') t) (zA G)) args s 0 0 (zA G)) σ_68 155 [(0, .ref (G.1 + 105)), (1, .int a1), (2, .int w2_45), (3, .int v30), (4, .int w4_68)] [.int w2_45, .ref (G.1 + 127)] := by
                    intro hJ
                    rw [hk155] at hJ
                    unfold D_X11_findRounds_155 at hJ
                    refine zr_aload_n C 0 dX11_findRounds_155 rfl ?_
                    refine zg_11_39 C 105 zk_105 zm_8_9 dX11_findRounds_156 ?_
                    refine zr_iload_n C 2 dX11_findRounds_159 rfl ?_
                    obtain ⟨hg33, hJ⟩ := zg_e hJ
                    refine zu_iald C 127 zk_127 hg33 dX11_findRounds_160 ?_
                    obtain ⟨hg34, hJ⟩ := zg_e hJ
                    obtain ⟨σ35, hσ35, hJ⟩ := zlet_e hJ
                    refine zv_iast C 127 zk_127 hg34 hσ35 dX11_findRounds_161 ?_
                    obtain ⟨v36, hv36, hJ⟩ := zlet_e hJ
                    refine zr_iinc C v36 4 [(4, .int v36), (0, .ref (G.1 + 105)), (1, .int a1), (2, .int w2_45), (3, .int v30)] dX11_findRounds_162 rfl (hv36.trans (zinc (by decide))) (by decide) rfl ?_
                    refine zr_goto C 68 dX11_findRounds_165 (by decide) ?_
                    refine zr_sub [1, 2, 3, 4, 0] [(0, .ref (G.1 + 105)), (1, .int a1), (2, .int w2_45), (3, .int v30), (4, .int v36)] rfl ?_
                    exact ih68 _ _ hJ
                  refine zr_if_eq C 155 dX11_findRounds_114 (by decide) (fun hc37 => ?_) (fun hc37 => ?_)
                  · have hJ := zif hc37 hJ
                    refine zr_sub [1, 2, 3, 4, 5] [(0, .ref (G.1 + 105)), (1, .int a1), (2, .int w2_45), (3, .int v30), (4, .int w4_68)] rfl ?_
                    exact hj155 hJ
                  · have hJ := zif' hc37 hJ
                    refine zr_aload_n C 1 dX11_findRounds_117 rfl ?_
                    refine zg_11_39 C 105 zk_105 zm_8_9 dX11_findRounds_118 ?_
                    refine zr_iload_n C 3 dX11_findRounds_121 rfl ?_
                    refine zr_iload C 5 dX11_findRounds_122 rfl ?_
                    refine zr_iconst C dX11_findRounds_124 (v := (-1 : Int32)) (by decide) ?_
                    refine zr_ixor C dX11_findRounds_125 ?_
                    refine zr_iand C dX11_findRounds_126 ?_
                    obtain ⟨hg38, hJ⟩ := zg_e hJ
                    refine zu_iald C 127 zk_127 hg38 dX11_findRounds_127 ?_
                    refine zr_iconst C dX11_findRounds_128 (v := (1 : Int32)) (by decide) ?_
                    refine zr_iadd C dX11_findRounds_129 ?_
                    refine zr_aload_n C 1 dX11_findRounds_130 rfl ?_
                    refine zg_11_39 C 105 zk_105 zm_8_9 dX11_findRounds_131 ?_
                    refine zr_iload_n C 3 dX11_findRounds_134 rfl ?_
                    obtain ⟨hg39, hJ⟩ := zg_e hJ
                    refine zu_iald C 127 zk_127 hg39 dX11_findRounds_135 ?_
                    refine zr_icmp_ge C 155 dX11_findRounds_136 (by decide) (fun hc40 => ?_) (fun hc40 => ?_)
                    · have hJ := zif hc40 hJ
                      refine zr_sub [1, 2, 3, 4, 5] [(0, .ref (G.1 + 105)), (1, .int a1), (2, .int w2_45), (3, .int v30), (4, .int w4_68)] rfl ?_
                      exact hj155 hJ
                    · have hJ := zif' hc40 hJ
                      refine zr_aload_n C 1 dX11_findRounds_139 rfl ?_
                      refine zg_11_39 C 105 zk_105 zm_8_9 dX11_findRounds_140 ?_
                      refine zr_iload_n C 3 dX11_findRounds_143 rfl ?_
                      refine zr_iload C 5 dX11_findRounds_144 rfl ?_
                      refine zr_iconst C dX11_findRounds_146 (v := (-1 : Int32)) (by decide) ?_
                      refine zr_ixor C dX11_findRounds_147 ?_
                      refine zr_iand C dX11_findRounds_148 ?_
                      obtain ⟨hg41, hJ⟩ := zg_e hJ
                      refine zu_iald C 127 zk_127 hg41 dX11_findRounds_149 ?_
                      refine zr_iconst C dX11_findRounds_150 (v := (1 : Int32)) (by decide) ?_
                      refine zr_iadd C dX11_findRounds_151 ?_
                      refine zr_goto C 161 dX11_findRounds_152 (by decide) ?_
                      obtain ⟨hg42, hJ⟩ := zg_e hJ
                      obtain ⟨σ43, hσ43, hJ⟩ := zlet_e hJ
                      refine zv_iast C 127 zk_127 hg42 hσ43 dX11_findRounds_161 ?_
                      obtain ⟨v44, hv44, hJ⟩ := zlet_e hJ
                      refine zr_iinc C v44 5 [(4, .int v44), (5, .int x0_105), (0, .ref (G.1 + 105)), (1, .int a1), (2, .int w2_45), (3, .int v30)] dX11_findRounds_162 rfl (hv44.trans (zinc (by decide))) (by decide) rfl ?_
                      refine zr_goto C 68 dX11_findRounds_165 (by decide) ?_
                      refine zr_sub [2, 3, 4, 5, 0] [(0, .ref (G.1 + 105)), (1, .int a1), (2, .int w2_45), (3, .int v30), (4, .int v44)] rfl ?_
                      exact ih68 _ _ hJ
                refine zr_if_ne C 104 dX11_findRounds_80 (by decide) (fun hc45 => ?_) (fun hc45 => ?_)
                · have hJ := zif' hc45 hJ
                  refine zr_iconst C dX11_findRounds_104 (v := (0 : Int32)) (by decide) ?_
                  exact hj105 _ hJ
                · have hJ := zif hc45 hJ
                  refine zr_iload C 4 dX11_findRounds_83 rfl ?_
                  refine zr_iload_n C 3 dX11_findRounds_85 rfl ?_
                  refine zr_iand C dX11_findRounds_86 ?_
                  refine zr_if_eq C 104 dX11_findRounds_87 (by decide) (fun hc46 => ?_) (fun hc46 => ?_)
                  · have hJ := zif hc46 hJ
                    refine zr_iconst C dX11_findRounds_104 (v := (0 : Int32)) (by decide) ?_
                    exact hj105 _ hJ
                  · have hJ := zif' hc46 hJ
                    refine zr_aload_n C 0 dX11_findRounds_90 rfl ?_
                    refine zg_11_40 C 105 zk_105 zm_8_10 dX11_findRounds_91 ?_
                    refine zr_iload C 4 dX11_findRounds_94 rfl ?_
                    obtain ⟨hg47, hJ⟩ := zg_e hJ
                    refine zu_zald C 128 zk_128 hg47 dX11_findRounds_96 ?_
                    refine zr_if_eq C 104 dX11_findRounds_97 (by decide) (fun hc48 => ?_) (fun hc48 => ?_)
                    · have hJ := zif hc48 hJ
                      refine zr_iconst C dX11_findRounds_104 (v := (0 : Int32)) (by decide) ?_
                      exact hj105 _ hJ
                    · have hJ := zif' hc48 hJ
                      refine zr_iconst C dX11_findRounds_100 (v := (1 : Int32)) (by decide) ?_
                      refine zr_goto C 105 dX11_findRounds_101 (by decide) ?_
                      exact hj105 _ hJ
          refine zr_sub [2, 3, 4, 1, 0] [(0, .ref (G.1 + 105)), (1, .int a1), (2, .int w2_45), (3, .int v30), (4, .int (1 : Int32))] rfl ?_
          exact hl68 _ _ _ hJ
    refine zr_sub [1, 2, 0] [(0, .ref (G.1 + 105)), (1, .int a1), (2, .int (1 : Int32))] rfl ?_
    exact hl45 _ _ _ hJ
  have hl2 : ∀ (n : Nat) (w2_2 : Int32) (σ_2 : zS), L_X11_findRounds_2 k36 n w2_2 σ_2 = some σ' → zU G 6 p l e (zrm 2 50) s m args below meth c (MQ below (va_Qv (fun (_ : Unit) => True) (fun _ t => zok G 137 (zen G σ') t) (zA G)) args s 0 0 (zA G)) σ_2 2 [(0, .ref (G.1 + 105)), (1, .int a1), (2, .int w2_2)] [] := by
    intro n
    induction n with
    | zero =>
      intro w2_2 σ_2 hJ
      rw [L_X11_findRounds_2] at hJ
      cases hJ
    | succ n ih =>
      intro w2_2 σ_2 hJ
      rw [L_X11_findRounds_2] at hJ
      obtain ⟨r_2, hr_2, hJ⟩ := zlet_e hJ
      have ih2 : ∀ (w2_2 : Int32) (σ_2 : zS), r_2 w2_2 σ_2 = some σ' → zU G 6 p l e (zrm 2 50) s m args below meth c (MQ below (va_Qv (fun (_ : Unit) => True) (fun _ t => zok G 137 (zen G σ') t) (zA G)) args s 0 0 (zA G)) σ_2 2 [(0, .ref (G.1 + 105)), (1, .int a1), (2, .int w2_2)] [] := by
        rw [hr_2]
        exact ih
      refine zr_iload_n C 2 dX11_findRounds_2 rfl ?_
      refine zr_sipush C dX11_findRounds_3 (v := (256 : Int32)) (by decide) ?_
      refine zr_icmp_ge C 36 dX11_findRounds_6 (by decide) (fun hc49 => ?_) (fun hc49 => ?_)
      · have hJ := zif hc49 hJ
        refine zr_sub [0, 1] [(0, .ref (G.1 + 105)), (1, .int a1)] rfl ?_
        exact hj36 _ hJ
      · have hJ := zif' hc49 hJ
        refine zr_aload_n C 0 dX11_findRounds_9 rfl ?_
        refine zg_11_40 C 105 zk_105 zm_8_10 dX11_findRounds_10 ?_
        refine zr_iload_n C 2 dX11_findRounds_13 rfl ?_
        refine zr_aload_n C 0 dX11_findRounds_14 rfl ?_
        refine zr_iload_n C 2 dX11_findRounds_15 rfl ?_
        obtain ⟨r50, hr50, hJ⟩ := zb_e hJ
        refine zr_callVI C 105 (zk_lt zk_105 (by decide)) (zen_obj zk_105) (rfl : zcl[11]? = some (RX11, TX11, 56)) (M_X11_wayOf G l hr50) zin_X11_wayOf zm_31_20 rfl rfl (Nat.le_of_ble_eq_true rfl) ⟨Nat.le_of_ble_eq_true rfl, Nat.le_of_ble_eq_true rfl⟩ ⟨Nat.le_of_ble_eq_true rfl, Nat.le_of_ble_eq_true rfl⟩ dX11_findRounds_16 ?_
        refine zr_bipush C dX11_findRounds_19 (v := (-4 : Int32)) (by decide) ?_
        obtain ⟨v51, hv51, hJ⟩ := zlet_e hJ
        have hf55 : zU G 6 p l e (zrm 2 50) s m args below meth c (MQ below (va_Qv (fun (_ : Unit) => True) (fun _ t => zok G 137 (zen G σ') t) (zA G)) args s 0 0 (zA G)) σ_2 29 [(0, .ref (G.1 + 105)), (1, .int a1), (2, .int w2_2)] [.int v51, .int w2_2, .ref (G.1 + 128)] := by
          obtain ⟨hg52, hJ⟩ := zg_e hJ
          obtain ⟨σ53, hσ53, hJ⟩ := zlet_e hJ
          refine zv_zast C 128 zk_128 hg52 hσ53 dX11_findRounds_29 ?_
          obtain ⟨v54, hv54, hJ⟩ := zlet_e hJ
          refine zr_iinc C v54 2 [(2, .int v54), (0, .ref (G.1 + 105)), (1, .int a1)] dX11_findRounds_30 rfl (hv54.trans (zinc (by decide))) (by decide) rfl ?_
          refine zr_goto C 2 dX11_findRounds_33 (by decide) ?_
          refine zr_sub [1, 2, 0] [(0, .ref (G.1 + 105)), (1, .int a1), (2, .int v54)] rfl ?_
          exact ih2 _ _ hJ
        refine zr_icmp_eq C 28 dX11_findRounds_21 (by decide) (fun hc56 => ?_) (fun hc56 => ?_)
        · have hv51 := hv51.trans (if_pos hc56)
          refine zr_iconst C dX11_findRounds_28 (v := (0 : Int32)) (by decide) ?_
          rw [hv51] at hf55
          exact hf55
        · have hv51 := hv51.trans (if_neg hc56)
          refine zr_iconst C dX11_findRounds_24 (v := (1 : Int32)) (by decide) ?_
          refine zr_goto C 29 dX11_findRounds_25 (by decide) ?_
          rw [hv51] at hf55
          exact hf55
  refine zr_sub [1, 2, 0] [(0, .ref (G.1 + 105)), (1, .int a1), (2, .int (0 : Int32))] rfl ?_
  exact hl2 _ _ _ hJ
theorem dX11_countsBy_0 : decode cX11_countsBy 0 = .ok (.aload_n 0, 1) := by decide +kernel
theorem dX11_countsBy_1 : decode cX11_countsBy 1 = .ok (.iload_n 1, 1) := by decide +kernel
theorem dX11_countsBy_2 : decode cX11_countsBy 2 = .ok (.invokevirtual 295, 3) := by decide +kernel
theorem dX11_countsBy_5 : decode cX11_countsBy 5 = .ok (.aload_n 0, 1) := by decide +kernel
theorem dX11_countsBy_6 : decode cX11_countsBy 6 = .ok (.getfield 292, 3) := by decide +kernel
theorem dX11_countsBy_9 : decode cX11_countsBy 9 = .ok (.bipush (-4), 2) := by decide +kernel
theorem dX11_countsBy_11 : decode cX11_countsBy 11 = .ok (.if_icmp .ne 5, 3) := by decide +kernel
theorem dX11_countsBy_14 : decode cX11_countsBy 14 = .ok (.iconst 0, 1) := by decide +kernel
theorem dX11_countsBy_15 : decode cX11_countsBy 15 = .ok (.ireturn, 1) := by decide +kernel
theorem dX11_countsBy_16 : decode cX11_countsBy 16 = .ok (.aload_n 0, 1) := by decide +kernel
theorem dX11_countsBy_17 : decode cX11_countsBy 17 = .ok (.iload_n 2, 1) := by decide +kernel
theorem dX11_countsBy_18 : decode cX11_countsBy 18 = .ok (.iload_n 3, 1) := by decide +kernel
theorem dX11_countsBy_19 : decode cX11_countsBy 19 = .ok (.invokevirtual 299, 3) := by decide +kernel
theorem dX11_countsBy_22 : decode cX11_countsBy 22 = .ok (.iconst 1, 1) := by decide +kernel
theorem dX11_countsBy_23 : decode cX11_countsBy 23 = .ok (.ireturn, 1) := by decide +kernel
set_option maxRecDepth 100000 in
set_option maxHeartbeats 4000000 in
theorem M_X11_countsBy (G : zG) (l : Launch) {a1 : Int32} {a2 : Int32} {a3 : Int32} {σ : zS} {r : Int32} {σ' : zS} (hJ : J_X11_countsBy a1 a2 a3 σ = some (r, σ')) : zMI G l yX11_countsBy cX11_countsBy 4 (some .boolean) (zrm 3 75) [.ref (G.1 + 105), .int a1, .int a2, .int a3] 137 (zen G σ) r 137 (zen G σ') := by
  unfold J_X11_countsBy at hJ
  refine zentI (by decide +kernel) (Nat.le_of_ble_eq_true rfl) ?_
  intro p e s m args below meth c C hret
  refine zr_sub [0, 1, 2, 3] [(0, .ref (G.1 + 105)), (1, .int a1), (2, .int a2), (3, .int a3)] rfl ?_
  refine zr_aload_n C 0 dX11_countsBy_0 rfl ?_
  refine zr_iload_n C 1 dX11_countsBy_1 rfl ?_
  obtain ⟨σ2, hr1, hJ⟩ := zb_e hJ
  refine zr_callVV C 105 (zk_lt zk_105 (by decide)) (zen_obj zk_105) (rfl : zcl[11]? = some (RX11, TX11, 56)) (M_X11_findRounds G l hr1) zin_X11_findRounds zm_33_18 rfl rfl (Nat.le_of_ble_eq_true rfl) ⟨Nat.le_of_ble_eq_true rfl, Nat.le_of_ble_eq_true rfl⟩ ⟨Nat.le_of_ble_eq_true rfl, Nat.le_of_ble_eq_true rfl⟩ dX11_countsBy_2 ?_
  refine zr_aload_n C 0 dX11_countsBy_5 rfl ?_
  refine zg_11_41 C 105 zk_105 zm_33_17 dX11_countsBy_6 ?_
  refine zr_bipush C dX11_countsBy_9 (v := (-4 : Int32)) (by decide) ?_
  refine zr_icmp_ne C 16 dX11_countsBy_11 (by decide) (fun hc3 => ?_) (fun hc3 => ?_)
  · have hJ := zif' hc3 hJ
    refine zr_aload_n C 0 dX11_countsBy_16 rfl ?_
    refine zr_iload_n C 2 dX11_countsBy_17 rfl ?_
    refine zr_iload_n C 3 dX11_countsBy_18 rfl ?_
    obtain ⟨σ5, hr4, hJ⟩ := zb_e hJ
    refine zr_callVV C 105 (zk_lt zk_105 (by decide)) (zen_obj zk_105) (rfl : zcl[11]? = some (RX11, TX11, 56)) (M_X11_countsIn G l hr4) zin_X11_countsIn zm_35_13 rfl rfl (Nat.le_of_ble_eq_true rfl) ⟨Nat.le_of_ble_eq_true rfl, Nat.le_of_ble_eq_true rfl⟩ ⟨Nat.le_of_ble_eq_true rfl, Nat.le_of_ble_eq_true rfl⟩ dX11_countsBy_19 ?_
    refine zr_iconst C dX11_countsBy_22 (v := (1 : Int32)) (by decide) ?_
    exact zr_zret C hret (Prod.mk.inj (zs_e hJ)).1 rfl rfl (congrArg (zen G) (Prod.mk.inj (zs_e hJ)).2) dX11_countsBy_23
  · have hJ := zif hc3 hJ
    refine zr_iconst C dX11_countsBy_14 (v := (0 : Int32)) (by decide) ?_
    exact zr_zret C hret (Prod.mk.inj (zs_e hJ)).1 rfl rfl (congrArg (zen G) (Prod.mk.inj (zs_e hJ)).2) dX11_countsBy_15
theorem dX11_dTimes_0 : decode cX11_dTimes 0 = .ok (.lconst 1, 1) := by decide +kernel
theorem dX11_dTimes_1 : decode cX11_dTimes 1 = .ok (.lstore_n 2, 1) := by decide +kernel
theorem dX11_dTimes_2 : decode cX11_dTimes 2 = .ok (.aload_n 0, 1) := by decide +kernel
theorem dX11_dTimes_3 : decode cX11_dTimes 3 = .ok (.getfield 37, 3) := by decide +kernel
theorem dX11_dTimes_6 : decode cX11_dTimes 6 = .ok (.iload_n 1, 1) := by decide +kernel
theorem dX11_dTimes_7 : decode cX11_dTimes 7 = .ok (.iaload, 1) := by decide +kernel
theorem dX11_dTimes_8 : decode cX11_dTimes 8 = .ok (.istore 4, 2) := by decide +kernel
theorem dX11_dTimes_10 : decode cX11_dTimes 10 = .ok (.iload 4, 2) := by decide +kernel
theorem dX11_dTimes_12 : decode cX11_dTimes 12 = .ok (.bipush (-4), 2) := by decide +kernel
theorem dX11_dTimes_14 : decode cX11_dTimes 14 = .ok (.if_icmp .eq 26, 3) := by decide +kernel
theorem dX11_dTimes_17 : decode cX11_dTimes 17 = .ok (.lload_n 2, 1) := by decide +kernel
theorem dX11_dTimes_18 : decode cX11_dTimes 18 = .ok (.aload_n 0, 1) := by decide +kernel
theorem dX11_dTimes_19 : decode cX11_dTimes 19 = .ok (.getfield 40, 3) := by decide +kernel
theorem dX11_dTimes_22 : decode cX11_dTimes 22 = .ok (.iload 4, 2) := by decide +kernel
theorem dX11_dTimes_24 : decode cX11_dTimes 24 = .ok (.iaload, 1) := by decide +kernel
theorem dX11_dTimes_25 : decode cX11_dTimes 25 = .ok (.i2l, 1) := by decide +kernel
theorem dX11_dTimes_26 : decode cX11_dTimes 26 = .ok (.lmul, 1) := by decide +kernel
theorem dX11_dTimes_27 : decode cX11_dTimes 27 = .ok (.lstore_n 2, 1) := by decide +kernel
theorem dX11_dTimes_28 : decode cX11_dTimes 28 = .ok (.aload_n 0, 1) := by decide +kernel
theorem dX11_dTimes_29 : decode cX11_dTimes 29 = .ok (.getfield 43, 3) := by decide +kernel
theorem dX11_dTimes_32 : decode cX11_dTimes 32 = .ok (.iload 4, 2) := by decide +kernel
theorem dX11_dTimes_34 : decode cX11_dTimes 34 = .ok (.iaload, 1) := by decide +kernel
theorem dX11_dTimes_35 : decode cX11_dTimes 35 = .ok (.istore 4, 2) := by decide +kernel
theorem dX11_dTimes_37 : decode cX11_dTimes 37 = .ok (.goto (-27), 3) := by decide +kernel
theorem dX11_dTimes_40 : decode cX11_dTimes 40 = .ok (.lload_n 2, 1) := by decide +kernel
theorem dX11_dTimes_41 : decode cX11_dTimes 41 = .ok (.lreturn, 1) := by decide +kernel
set_option maxRecDepth 100000 in
set_option maxHeartbeats 4000000 in
theorem M_X11_dTimes (G : zG) (l : Launch) {a1 : Int32} {σ : zS} {r : Int64} (hJ : J_X11_dTimes a1 σ = some r) : zML G l yX11_dTimes cX11_dTimes 5 (some .long) (zrm 0 0) [.ref (G.1 + 105), .int a1] 137 (zen G σ) r 137 (zen G σ) := by
  unfold J_X11_dTimes at hJ
  refine zentL (by decide +kernel) (Nat.le_of_ble_eq_true rfl) ?_
  intro p e s m args below meth c C hret
  refine zr_sub [0, 1] [(0, .ref (G.1 + 105)), (1, .int a1)] rfl ?_
  refine zr_lconst C dX11_dTimes_0 (v := (1 : Int64)) (by decide) ?_
  refine zr_lstore_n C [(2, .long (1 : Int64)), (0, .ref (G.1 + 105)), (1, .int a1)] dX11_dTimes_1 (by decide) rfl ?_
  refine zr_aload_n C 1 dX11_dTimes_2 rfl ?_
  refine zg_11_14 C 105 zk_105 zm_7_20 dX11_dTimes_3 ?_
  refine zr_iload_n C 2 dX11_dTimes_6 rfl ?_
  obtain ⟨hg1, hJ⟩ := zg_e hJ
  refine zu_iald C 115 zk_115 hg1 dX11_dTimes_7 ?_
  obtain ⟨v2, hv2, hJ⟩ := zlet_e hJ
  refine zr_topi hv2 ?_
  refine zr_istore C [(4, .int v2), (2, .long (1 : Int64)), (0, .ref (G.1 + 105)), (1, .int a1)] dX11_dTimes_8 (by decide) rfl ?_
  have hl10 : ∀ (n : Nat) (w2_10 : Int64) (w4_10 : Int32), L_X11_dTimes_10 σ n w2_10 w4_10 = some r → zU G 5 p l e (zrm 0 0) s m args below meth c (MQ below (va_Ql (fun x (_ : Unit) => x = r) (fun _ t => zok G 137 (zen G σ) t) (zA G)) args s 0 0 (zA G)) σ 10 [(0, .ref (G.1 + 105)), (2, .long w2_10), (4, .int w4_10)] [] := by
    intro n
    induction n with
    | zero =>
      intro w2_10 w4_10 hJ
      rw [L_X11_dTimes_10] at hJ
      cases hJ
    | succ n ih =>
      intro w2_10 w4_10 hJ
      rw [L_X11_dTimes_10] at hJ
      obtain ⟨r_10, hr_10, hJ⟩ := zlet_e hJ
      have ih10 : ∀ (w2_10 : Int64) (w4_10 : Int32), r_10 w2_10 w4_10 = some r → zU G 5 p l e (zrm 0 0) s m args below meth c (MQ below (va_Ql (fun x (_ : Unit) => x = r) (fun _ t => zok G 137 (zen G σ) t) (zA G)) args s 0 0 (zA G)) σ 10 [(0, .ref (G.1 + 105)), (2, .long w2_10), (4, .int w4_10)] [] := by
        rw [hr_10]
        exact ih
      refine zr_iload C 2 dX11_dTimes_10 rfl ?_
      refine zr_bipush C dX11_dTimes_12 (v := (-4 : Int32)) (by decide) ?_
      refine zr_icmp_eq C 40 dX11_dTimes_14 (by decide) (fun hc3 => ?_) (fun hc3 => ?_)
      · have hJ := zif hc3 hJ
        refine zr_lload_n C 1 dX11_dTimes_40 rfl ?_
        exact zr_lret C hret (zs_e hJ) rfl rfl dX11_dTimes_41
      · have hJ := zif' hc3 hJ
        refine zr_lload_n C 1 dX11_dTimes_17 rfl ?_
        refine zr_aload_n C 0 dX11_dTimes_18 rfl ?_
        refine zg_11_16 C 105 zk_105 zm_7_21 dX11_dTimes_19 ?_
        refine zr_iload C 2 dX11_dTimes_22 rfl ?_
        obtain ⟨hg4, hJ⟩ := zg_e hJ
        refine zu_iald C 116 zk_116 hg4 dX11_dTimes_24 ?_
        refine zr_i2l C dX11_dTimes_25 ?_
        refine zr_lmul C dX11_dTimes_26 ?_
        obtain ⟨v5, hv5, hJ⟩ := zlet_e hJ
        refine zr_topl hv5 ?_
        refine zr_lstore_n C [(2, .long v5), (0, .ref (G.1 + 105)), (4, .int w4_10)] dX11_dTimes_27 (by decide) rfl ?_
        refine zr_aload_n C 1 dX11_dTimes_28 rfl ?_
        refine zg_11_17 C 105 zk_105 zm_7_22 dX11_dTimes_29 ?_
        refine zr_iload C 2 dX11_dTimes_32 rfl ?_
        obtain ⟨hg6, hJ⟩ := zg_e hJ
        refine zu_iald C 117 zk_117 hg6 dX11_dTimes_34 ?_
        obtain ⟨v7, hv7, hJ⟩ := zlet_e hJ
        refine zr_topi hv7 ?_
        refine zr_istore C [(4, .int v7), (2, .long v5), (0, .ref (G.1 + 105))] dX11_dTimes_35 (by decide) rfl ?_
        refine zr_goto C 10 dX11_dTimes_37 (by decide) ?_
        refine zr_sub [2, 1, 0] [(0, .ref (G.1 + 105)), (2, .long v5), (4, .int v7)] rfl ?_
        exact ih10 _ _ hJ
  refine zr_sub [2, 1, 0] [(0, .ref (G.1 + 105)), (2, .long (1 : Int64)), (4, .int v2)] rfl ?_
  exact hl10 _ _ _ hJ
theorem dX11_depthOf_0 : decode cX11_depthOf 0 = .ok (.iconst 0, 1) := by decide +kernel
theorem dX11_depthOf_1 : decode cX11_depthOf 1 = .ok (.istore_n 2, 1) := by decide +kernel
theorem dX11_depthOf_2 : decode cX11_depthOf 2 = .ok (.iload_n 1, 1) := by decide +kernel
theorem dX11_depthOf_3 : decode cX11_depthOf 3 = .ok (.istore_n 3, 1) := by decide +kernel
theorem dX11_depthOf_4 : decode cX11_depthOf 4 = .ok (.iload_n 3, 1) := by decide +kernel
theorem dX11_depthOf_5 : decode cX11_depthOf 5 = .ok (.bipush (-4), 2) := by decide +kernel
theorem dX11_depthOf_7 : decode cX11_depthOf 7 = .ok (.if_icmp .eq 16, 3) := by decide +kernel
theorem dX11_depthOf_10 : decode cX11_depthOf 10 = .ok (.iinc 2 1, 3) := by decide +kernel
theorem dX11_depthOf_13 : decode cX11_depthOf 13 = .ok (.aload_n 0, 1) := by decide +kernel
theorem dX11_depthOf_14 : decode cX11_depthOf 14 = .ok (.getfield 22, 3) := by decide +kernel
theorem dX11_depthOf_17 : decode cX11_depthOf 17 = .ok (.iload_n 3, 1) := by decide +kernel
theorem dX11_depthOf_18 : decode cX11_depthOf 18 = .ok (.iaload, 1) := by decide +kernel
theorem dX11_depthOf_19 : decode cX11_depthOf 19 = .ok (.istore_n 3, 1) := by decide +kernel
theorem dX11_depthOf_20 : decode cX11_depthOf 20 = .ok (.goto (-16), 3) := by decide +kernel
theorem dX11_depthOf_23 : decode cX11_depthOf 23 = .ok (.iload_n 2, 1) := by decide +kernel
theorem dX11_depthOf_24 : decode cX11_depthOf 24 = .ok (.ireturn, 1) := by decide +kernel
set_option maxRecDepth 100000 in
set_option maxHeartbeats 4000000 in
theorem M_X11_depthOf (G : zG) (l : Launch) {a1 : Int32} {σ : zS} {r : Int32} (hJ : J_X11_depthOf a1 σ = some r) : zMI G l yX11_depthOf cX11_depthOf 4 (some .int) (zrm 0 0) [.ref (G.1 + 105), .int a1] 137 (zen G σ) r 137 (zen G σ) := by
  unfold J_X11_depthOf at hJ
  refine zentI (by decide +kernel) (Nat.le_of_ble_eq_true rfl) ?_
  intro p e s m args below meth c C hret
  refine zr_sub [0, 1] [(0, .ref (G.1 + 105)), (1, .int a1)] rfl ?_
  refine zr_iconst C dX11_depthOf_0 (v := (0 : Int32)) (by decide) ?_
  refine zr_istore_n C [(2, .int (0 : Int32)), (0, .ref (G.1 + 105)), (1, .int a1)] dX11_depthOf_1 (by decide) rfl ?_
  refine zr_iload_n C 2 dX11_depthOf_2 rfl ?_
  refine zr_istore_n C [(3, .int a1), (2, .int (0 : Int32)), (0, .ref (G.1 + 105)), (1, .int a1)] dX11_depthOf_3 (by decide) rfl ?_
  have hl4 : ∀ (n : Nat) (w2_4 : Int32) (w3_4 : Int32), L_X11_depthOf_4 σ n w2_4 w3_4 = some r → zU G 4 p l e (zrm 0 0) s m args below meth c (MQ below (va_Qi (fun x (_ : Unit) => x = r) (fun _ t => zok G 137 (zen G σ) t) (zA G)) args s 0 0 (zA G)) σ 4 [(0, .ref (G.1 + 105)), (2, .int w2_4), (3, .int w3_4)] [] := by
    intro n
    induction n with
    | zero =>
      intro w2_4 w3_4 hJ
      rw [L_X11_depthOf_4] at hJ
      cases hJ
    | succ n ih =>
      intro w2_4 w3_4 hJ
      rw [L_X11_depthOf_4] at hJ
      obtain ⟨r_4, hr_4, hJ⟩ := zlet_e hJ
      have ih4 : ∀ (w2_4 : Int32) (w3_4 : Int32), r_4 w2_4 w3_4 = some r → zU G 4 p l e (zrm 0 0) s m args below meth c (MQ below (va_Qi (fun x (_ : Unit) => x = r) (fun _ t => zok G 137 (zen G σ) t) (zA G)) args s 0 0 (zA G)) σ 4 [(0, .ref (G.1 + 105)), (2, .int w2_4), (3, .int w3_4)] [] := by
        rw [hr_4]
        exact ih
      refine zr_iload_n C 2 dX11_depthOf_4 rfl ?_
      refine zr_bipush C dX11_depthOf_5 (v := (-4 : Int32)) (by decide) ?_
      refine zr_icmp_eq C 23 dX11_depthOf_7 (by decide) (fun hc1 => ?_) (fun hc1 => ?_)
      · have hJ := zif hc1 hJ
        refine zr_iload_n C 1 dX11_depthOf_23 rfl ?_
        exact zr_iret C hret (zs_e hJ) rfl rfl dX11_depthOf_24
      · have hJ := zif' hc1 hJ
        obtain ⟨v2, hv2, hJ⟩ := zlet_e hJ
        refine zr_iinc C v2 1 [(2, .int v2), (0, .ref (G.1 + 105)), (3, .int w3_4)] dX11_depthOf_10 rfl (hv2.trans (zinc (by decide))) (by decide) rfl ?_
        refine zr_aload_n C 1 dX11_depthOf_13 rfl ?_
        refine zg_11_6 C 105 zk_105 zm_7_15 dX11_depthOf_14 ?_
        refine zr_iload_n C 2 dX11_depthOf_17 rfl ?_
        obtain ⟨hg3, hJ⟩ := zg_e hJ
        refine zu_iald C 110 zk_110 hg3 dX11_depthOf_18 ?_
        obtain ⟨v4, hv4, hJ⟩ := zlet_e hJ
        refine zr_topi hv4 ?_
        refine zr_istore_n C [(3, .int v4), (2, .int v2), (0, .ref (G.1 + 105))] dX11_depthOf_19 (by decide) rfl ?_
        refine zr_goto C 4 dX11_depthOf_20 (by decide) ?_
        refine zr_sub [2, 1, 0] [(0, .ref (G.1 + 105)), (2, .int v2), (3, .int v4)] rfl ?_
        exact ih4 _ _ hJ
  refine zr_sub [2, 1, 0] [(0, .ref (G.1 + 105)), (2, .int (0 : Int32)), (3, .int a1)] rfl ?_
  exact hl4 _ _ _ hJ
theorem dX11_end_0 : decode cX11_end 0 = .ok (.iload_n 1, 1) := by decide +kernel
theorem dX11_end_1 : decode cX11_end 1 = .ok (.i2l, 1) := by decide +kernel
theorem dX11_end_2 : decode cX11_end 2 = .ok (.lconst 0, 1) := by decide +kernel
theorem dX11_end_3 : decode cX11_end 3 = .ok (.aload_n 0, 1) := by decide +kernel
theorem dX11_end_4 : decode cX11_end 4 = .ok (.getfield 119, 3) := by decide +kernel
theorem dX11_end_7 : decode cX11_end 7 = .ok (.i2l, 1) := by decide +kernel
theorem dX11_end_8 : decode cX11_end 8 = .ok (.invokestatic 124, 3) := by decide +kernel
theorem dX11_end_11 : decode cX11_end 11 = .ok (.ifCond .ne 5, 3) := by decide +kernel
theorem dX11_end_14 : decode cX11_end 14 = .ok (.iconst (-1), 1) := by decide +kernel
theorem dX11_end_15 : decode cX11_end 15 = .ok (.ireturn, 1) := by decide +kernel
theorem dX11_end_16 : decode cX11_end 16 = .ok (.aload_n 0, 1) := by decide +kernel
theorem dX11_end_17 : decode cX11_end 17 = .ok (.getfield 119, 3) := by decide +kernel
theorem dX11_end_20 : decode cX11_end 20 = .ok (.istore_n 2, 1) := by decide +kernel
theorem dX11_end_21 : decode cX11_end 21 = .ok (.aload_n 0, 1) := by decide +kernel
theorem dX11_end_22 : decode cX11_end 22 = .ok (.iload_n 1, 1) := by decide +kernel
theorem dX11_end_23 : decode cX11_end 23 = .ok (.putfield 119, 3) := by decide +kernel
theorem dX11_end_26 : decode cX11_end 26 = .ok (.iload_n 2, 1) := by decide +kernel
theorem dX11_end_27 : decode cX11_end 27 = .ok (.ireturn, 1) := by decide +kernel
set_option maxRecDepth 100000 in
set_option maxHeartbeats 4000000 in
theorem M_X11_end (G : zG) (l : Launch) {a1 : Int32} {σ : zS} {r : Int32} {σ' : zS} (hJ : J_X11_end a1 σ = some (r, σ')) : zMI G l yX11_end cX11_end 3 (some .int) (zrm 1 25) [.ref (G.1 + 105), .int a1] 137 (zen G σ) r 137 (zen G σ') := by
  unfold J_X11_end at hJ
  refine zentI (by decide +kernel) (Nat.le_of_ble_eq_true rfl) ?_
  intro p e s m args below meth c C hret
  refine zr_sub [0, 1] [(0, .ref (G.1 + 105)), (1, .int a1)] rfl ?_
  refine zr_iload_n C 1 dX11_end_0 rfl ?_
  refine zr_i2l C dX11_end_1 ?_
  refine zr_lconst C dX11_end_2 (v := (0 : Int64)) (by decide) ?_
  refine zr_aload_n C 0 dX11_end_3 rfl ?_
  refine zg_11_25 C 105 zk_105 zm_9_12 dX11_end_4 ?_
  refine zr_i2l C dX11_end_7 ?_
  obtain ⟨r1, hr1, hJ⟩ := zb_e hJ
  refine zr_callSI C (M_X11_in G l hr1) zin_X11_in zm_9_22 rfl rfl (Nat.le_of_ble_eq_true rfl) ⟨Nat.le_of_ble_eq_true rfl, Nat.le_of_ble_eq_true rfl⟩ ⟨Nat.le_of_ble_eq_true rfl, Nat.le_of_ble_eq_true rfl⟩ dX11_end_8 ?_
  refine zr_if_ne C 16 dX11_end_11 (by decide) (fun hc2 => ?_) (fun hc2 => ?_)
  · have hJ := zif' hc2 hJ
    refine zr_aload_n C 0 dX11_end_16 rfl ?_
    refine zg_11_25 C 105 zk_105 zm_9_12 dX11_end_17 ?_
    obtain ⟨v3, hv3, hJ⟩ := zlet_e hJ
    refine zr_topi hv3 ?_
    refine zr_istore_n C [(2, .int v3), (0, .ref (G.1 + 105)), (1, .int a1)] dX11_end_20 (by decide) rfl ?_
    refine zr_aload_n C 1 dX11_end_21 rfl ?_
    refine zr_iload_n C 2 dX11_end_22 rfl ?_
    obtain ⟨σ4, hσ4, hJ⟩ := zlet_e hJ
    refine zp_11_25 C 105 zk_105 zm_9_12 hσ4 dX11_end_23 ?_
    refine zr_iload_n C 0 dX11_end_26 rfl ?_
    exact zr_iret C hret (Prod.mk.inj (zs_e hJ)).1 rfl (congrArg (zen G) (Prod.mk.inj (zs_e hJ)).2) dX11_end_27
  · have hJ := zif hc2 hJ
    refine zr_iconst C dX11_end_14 (v := (-1 : Int32)) (by decide) ?_
    exact zr_iret C hret (Prod.mk.inj (zs_e hJ)).1 rfl (congrArg (zen G) (Prod.mk.inj (zs_e hJ)).2) dX11_end_15
theorem dX11_farNow_0 : decode cX11_farNow 0 = .ok (.aload_n 0, 1) := by decide +kernel
theorem dX11_farNow_1 : decode cX11_farNow 1 = .ok (.iload_n 1, 1) := by decide +kernel
theorem dX11_farNow_2 : decode cX11_farNow 2 = .ok (.invokevirtual 257, 3) := by decide +kernel
theorem dX11_farNow_5 : decode cX11_farNow 5 = .ok (.i2l, 1) := by decide +kernel
theorem dX11_farNow_6 : decode cX11_farNow 6 = .ok (.lstore_n 2, 1) := by decide +kernel
theorem dX11_farNow_7 : decode cX11_farNow 7 = .ok (.lconst 0, 1) := by decide +kernel
theorem dX11_farNow_8 : decode cX11_farNow 8 = .ok (.lstore 4, 2) := by decide +kernel
theorem dX11_farNow_10 : decode cX11_farNow 10 = .ok (.iconst 0, 1) := by decide +kernel
theorem dX11_farNow_11 : decode cX11_farNow 11 = .ok (.istore 6, 2) := by decide +kernel
theorem dX11_farNow_13 : decode cX11_farNow 13 = .ok (.iload 6, 2) := by decide +kernel
theorem dX11_farNow_15 : decode cX11_farNow 15 = .ok (.aload_n 0, 1) := by decide +kernel
theorem dX11_farNow_16 : decode cX11_farNow 16 = .ok (.getfield 203, 3) := by decide +kernel
theorem dX11_farNow_19 : decode cX11_farNow 19 = .ok (.if_icmp .ge 56, 3) := by decide +kernel
theorem dX11_farNow_22 : decode cX11_farNow 22 = .ok (.lload 4, 2) := by decide +kernel
theorem dX11_farNow_24 : decode cX11_farNow 24 = .ok (.aload_n 0, 1) := by decide +kernel
theorem dX11_farNow_25 : decode cX11_farNow 25 = .ok (.getfield 87, 3) := by decide +kernel
theorem dX11_farNow_28 : decode cX11_farNow 28 = .ok (.iload 6, 2) := by decide +kernel
theorem dX11_farNow_30 : decode cX11_farNow 30 = .ok (.iaload, 1) := by decide +kernel
theorem dX11_farNow_31 : decode cX11_farNow 31 = .ok (.i2l, 1) := by decide +kernel
theorem dX11_farNow_32 : decode cX11_farNow 32 = .ok (.lload_n 2, 1) := by decide +kernel
theorem dX11_farNow_33 : decode cX11_farNow 33 = .ok (.lmul, 1) := by decide +kernel
theorem dX11_farNow_34 : decode cX11_farNow 34 = .ok (.aload_n 0, 1) := by decide +kernel
theorem dX11_farNow_35 : decode cX11_farNow 35 = .ok (.getfield 28, 3) := by decide +kernel
theorem dX11_farNow_38 : decode cX11_farNow 38 = .ok (.iload 6, 2) := by decide +kernel
theorem dX11_farNow_40 : decode cX11_farNow 40 = .ok (.iaload, 1) := by decide +kernel
theorem dX11_farNow_41 : decode cX11_farNow 41 = .ok (.i2l, 1) := by decide +kernel
theorem dX11_farNow_42 : decode cX11_farNow 42 = .ok (.aload_n 0, 1) := by decide +kernel
theorem dX11_farNow_43 : decode cX11_farNow 43 = .ok (.iload 6, 2) := by decide +kernel
theorem dX11_farNow_45 : decode cX11_farNow 45 = .ok (.iload_n 1, 1) := by decide +kernel
theorem dX11_farNow_46 : decode cX11_farNow 46 = .ok (.invokevirtual 251, 3) := by decide +kernel
theorem dX11_farNow_49 : decode cX11_farNow 49 = .ok (.i2l, 1) := by decide +kernel
theorem dX11_farNow_50 : decode cX11_farNow 50 = .ok (.lmul, 1) := by decide +kernel
theorem dX11_farNow_51 : decode cX11_farNow 51 = .ok (.aload_n 0, 1) := by decide +kernel
theorem dX11_farNow_52 : decode cX11_farNow 52 = .ok (.getfield 325, 3) := by decide +kernel
theorem dX11_farNow_55 : decode cX11_farNow 55 = .ok (.aload_n 0, 1) := by decide +kernel
theorem dX11_farNow_56 : decode cX11_farNow 56 = .ok (.getfield 328, 3) := by decide +kernel
theorem dX11_farNow_59 : decode cX11_farNow 59 = .ok (.isub, 1) := by decide +kernel
theorem dX11_farNow_60 : decode cX11_farNow 60 = .ok (.i2l, 1) := by decide +kernel
theorem dX11_farNow_61 : decode cX11_farNow 61 = .ok (.lmul, 1) := by decide +kernel
theorem dX11_farNow_62 : decode cX11_farNow 62 = .ok (.lsub, 1) := by decide +kernel
theorem dX11_farNow_63 : decode cX11_farNow 63 = .ok (.invokestatic 111, 3) := by decide +kernel
theorem dX11_farNow_66 : decode cX11_farNow 66 = .ok (.ladd, 1) := by decide +kernel
theorem dX11_farNow_67 : decode cX11_farNow 67 = .ok (.lstore 4, 2) := by decide +kernel
theorem dX11_farNow_69 : decode cX11_farNow 69 = .ok (.iinc 6 1, 3) := by decide +kernel
theorem dX11_farNow_72 : decode cX11_farNow 72 = .ok (.goto (-59), 3) := by decide +kernel
theorem dX11_farNow_75 : decode cX11_farNow 75 = .ok (.lload 4, 2) := by decide +kernel
theorem dX11_farNow_77 : decode cX11_farNow 77 = .ok (.lreturn, 1) := by decide +kernel
set_option maxRecDepth 100000 in
set_option maxHeartbeats 4000000 in
theorem M_X11_farNow (G : zG) (l : Launch) {a1 : Int32} {σ : zS} {r : Int64} (hJ : J_X11_farNow a1 σ = some r) : zML G l yX11_farNow cX11_farNow 7 (some .long) (zrm 2 45) [.ref (G.1 + 105), .int a1] 137 (zen G σ) r 137 (zen G σ) := by
  unfold J_X11_farNow at hJ
  refine zentL (by decide +kernel) (Nat.le_of_ble_eq_true rfl) ?_
  intro p e s m args below meth c C hret
  refine zr_sub [0, 1] [(0, .ref (G.1 + 105)), (1, .int a1)] rfl ?_
  refine zr_aload_n C 0 dX11_farNow_0 rfl ?_
  refine zr_iload_n C 1 dX11_farNow_1 rfl ?_
  obtain ⟨r1, hr1, hJ⟩ := zb_e hJ
  refine zr_callVI C 105 (zk_lt zk_105 (by decide)) (zen_obj zk_105) (rfl : zcl[11]? = some (RX11, TX11, 56)) (M_X11_total G l hr1) zin_X11_total zm_22_23 rfl rfl (Nat.le_of_ble_eq_true rfl) ⟨Nat.le_of_ble_eq_true rfl, Nat.le_of_ble_eq_true rfl⟩ ⟨Nat.le_of_ble_eq_true rfl, Nat.le_of_ble_eq_true rfl⟩ dX11_farNow_2 ?_
  refine zr_i2l C dX11_farNow_5 ?_
  obtain ⟨v2, hv2, hJ⟩ := zlet_e hJ
  refine zr_topl hv2 ?_
  refine zr_lstore_n C [(2, .long v2), (0, .ref (G.1 + 105)), (1, .int a1)] dX11_farNow_6 (by decide) rfl ?_
  refine zr_lconst C dX11_farNow_7 (v := (0 : Int64)) (by decide) ?_
  refine zr_lstore C [(4, .long (0 : Int64)), (2, .long v2), (0, .ref (G.1 + 105)), (1, .int a1)] dX11_farNow_8 (by decide) rfl ?_
  refine zr_iconst C dX11_farNow_10 (v := (0 : Int32)) (by decide) ?_
  refine zr_istore C [(6, .int (0 : Int32)), (4, .long (0 : Int64)), (2, .long v2), (0, .ref (G.1 + 105)), (1, .int a1)] dX11_farNow_11 (by decide) rfl ?_
  have hl13 : ∀ (n : Nat) (w4_13 : Int64) (w6_13 : Int32), L_X11_farNow_13 a1 σ v2 n w4_13 w6_13 = some r → zU G 7 p l e (zrm 2 45) s m args below meth c (MQ below (va_Ql (fun x (_ : Unit) => x = r) (fun _ t => zok G 137 (zen G σ) t) (zA G)) args s 0 0 (zA G)) σ 13 [(0, .ref (G.1 + 105)), (1, .int a1), (2, .long v2), (4, .long w4_13), (6, .int w6_13)] [] := by
    intro n
    induction n with
    | zero =>
      intro w4_13 w6_13 hJ
      rw [L_X11_farNow_13] at hJ
      cases hJ
    | succ n ih =>
      intro w4_13 w6_13 hJ
      rw [L_X11_farNow_13] at hJ
      obtain ⟨r_13, hr_13, hJ⟩ := zlet_e hJ
      have ih13 : ∀ (w4_13 : Int64) (w6_13 : Int32), r_13 w4_13 w6_13 = some r → zU G 7 p l e (zrm 2 45) s m args below meth c (MQ below (va_Ql (fun x (_ : Unit) => x = r) (fun _ t => zok G 137 (zen G σ) t) (zA G)) args s 0 0 (zA G)) σ 13 [(0, .ref (G.1 + 105)), (1, .int a1), (2, .long v2), (4, .long w4_13), (6, .int w6_13)] [] := by
        rw [hr_13]
        exact ih
      refine zr_iload C 4 dX11_farNow_13 rfl ?_
      refine zr_aload_n C 0 dX11_farNow_15 rfl ?_
      refine zg_11_0 C 105 zk_105 zm_16_22 dX11_farNow_16 ?_
      refine zr_icmp_ge C 75 dX11_farNow_19 (by decide) (fun hc3 => ?_) (fun hc3 => ?_)
      · have hJ := zif hc3 hJ
        refine zr_lload C 3 dX11_farNow_75 rfl ?_
        exact zr_lret C hret (zs_e hJ) rfl rfl dX11_farNow_77
      · have hJ := zif' hc3 hJ
        refine zr_lload C 3 dX11_farNow_22 rfl ?_
        refine zr_aload_n C 0 dX11_farNow_24 rfl ?_
        refine zg_11_47 C 105 zk_105 zm_8_12 dX11_farNow_25 ?_
        refine zr_iload C 4 dX11_farNow_28 rfl ?_
        obtain ⟨hg4, hJ⟩ := zg_e hJ
        refine zu_iald C 130 zk_130 hg4 dX11_farNow_30 ?_
        refine zr_i2l C dX11_farNow_31 ?_
        refine zr_lload_n C 2 dX11_farNow_32 rfl ?_
        refine zr_lmul C dX11_farNow_33 ?_
        refine zr_aload_n C 0 dX11_farNow_34 rfl ?_
        refine zg_11_9 C 105 zk_105 zm_7_17 dX11_farNow_35 ?_
        refine zr_iload C 4 dX11_farNow_38 rfl ?_
        obtain ⟨hg5, hJ⟩ := zg_e hJ
        refine zu_iald C 112 zk_112 hg5 dX11_farNow_40 ?_
        refine zr_i2l C dX11_farNow_41 ?_
        refine zr_aload_n C 0 dX11_farNow_42 rfl ?_
        refine zr_iload C 4 dX11_farNow_43 rfl ?_
        refine zr_iload_n C 1 dX11_farNow_45 rfl ?_
        obtain ⟨r6, hr6, hJ⟩ := zb_e hJ
        refine zr_callVI C 105 (zk_lt zk_105 (by decide)) (zen_obj zk_105) (rfl : zcl[11]? = some (RX11, TX11, 56)) (M_X11_made G l hr6) zin_X11_made zm_21_9 rfl rfl (Nat.le_of_ble_eq_true rfl) ⟨Nat.le_of_ble_eq_true rfl, Nat.le_of_ble_eq_true rfl⟩ ⟨Nat.le_of_ble_eq_true rfl, Nat.le_of_ble_eq_true rfl⟩ dX11_farNow_46 ?_
        refine zr_i2l C dX11_farNow_49 ?_
        refine zr_lmul C dX11_farNow_50 ?_
        refine zr_aload_n C 0 dX11_farNow_51 rfl ?_
        refine zg_11_45 C 105 zk_105 zm_38_16 dX11_farNow_52 ?_
        refine zr_aload_n C 0 dX11_farNow_55 rfl ?_
        refine zg_11_46 C 105 zk_105 zm_38_17 dX11_farNow_56 ?_
        refine zr_isub C dX11_farNow_59 ?_
        refine zr_i2l C dX11_farNow_60 ?_
        refine zr_lmul C dX11_farNow_61 ?_
        refine zr_lsub C dX11_farNow_62 ?_
        obtain ⟨r7, hr7, hJ⟩ := zb_e hJ
        refine zr_callSL C (M_X11_size G l hr7) zin_X11_size zm_24_6 rfl rfl (Nat.le_of_ble_eq_true rfl) ⟨Nat.le_of_ble_eq_true rfl, Nat.le_of_ble_eq_true rfl⟩ ⟨Nat.le_of_ble_eq_true rfl, Nat.le_of_ble_eq_true rfl⟩ dX11_farNow_63 ?_
        refine zr_ladd C dX11_farNow_66 ?_
        obtain ⟨v8, hv8, hJ⟩ := zlet_e hJ
        refine zr_topl hv8 ?_
        refine zr_lstore C [(4, .long v8), (0, .ref (G.1 + 105)), (1, .int a1), (2, .long v2), (6, .int w6_13)] dX11_farNow_67 (by decide) rfl ?_
        obtain ⟨v9, hv9, hJ⟩ := zlet_e hJ
        refine zr_iinc C v9 4 [(6, .int v9), (4, .long v8), (0, .ref (G.1 + 105)), (1, .int a1), (2, .long v2)] dX11_farNow_69 rfl (hv9.trans (zinc (by decide))) (by decide) rfl ?_
        refine zr_goto C 13 dX11_farNow_72 (by decide) ?_
        refine zr_sub [2, 3, 4, 1, 0] [(0, .ref (G.1 + 105)), (1, .int a1), (2, .long v2), (4, .long v8), (6, .int v9)] rfl ?_
        exact ih13 _ _ hJ
  refine zr_sub [3, 4, 2, 1, 0] [(0, .ref (G.1 + 105)), (1, .int a1), (2, .long v2), (4, .long (0 : Int64)), (6, .int (0 : Int32))] rfl ?_
  exact hl13 _ _ _ hJ
theorem dX11_findSamples_0 : decode cX11_findSamples 0 = .ok (.aload_n 0, 1) := by decide +kernel
theorem dX11_findSamples_1 : decode cX11_findSamples 1 = .ok (.iconst 0, 1) := by decide +kernel
theorem dX11_findSamples_2 : decode cX11_findSamples 2 = .ok (.putfield 325, 3) := by decide +kernel
theorem dX11_findSamples_5 : decode cX11_findSamples 5 = .ok (.aload_n 0, 1) := by decide +kernel
theorem dX11_findSamples_6 : decode cX11_findSamples 6 = .ok (.iconst 0, 1) := by decide +kernel
theorem dX11_findSamples_7 : decode cX11_findSamples 7 = .ok (.putfield 328, 3) := by decide +kernel
theorem dX11_findSamples_10 : decode cX11_findSamples 10 = .ok (.iconst 0, 1) := by decide +kernel
theorem dX11_findSamples_11 : decode cX11_findSamples 11 = .ok (.istore 5, 2) := by decide +kernel
theorem dX11_findSamples_13 : decode cX11_findSamples 13 = .ok (.iload 5, 2) := by decide +kernel
theorem dX11_findSamples_15 : decode cX11_findSamples 15 = .ok (.bipush 16, 2) := by decide +kernel
theorem dX11_findSamples_17 : decode cX11_findSamples 17 = .ok (.if_icmp .ge 17, 3) := by decide +kernel
theorem dX11_findSamples_20 : decode cX11_findSamples 20 = .ok (.aload_n 0, 1) := by decide +kernel
theorem dX11_findSamples_21 : decode cX11_findSamples 21 = .ok (.getfield 87, 3) := by decide +kernel
theorem dX11_findSamples_24 : decode cX11_findSamples 24 = .ok (.iload 5, 2) := by decide +kernel
theorem dX11_findSamples_26 : decode cX11_findSamples 26 = .ok (.iconst 0, 1) := by decide +kernel
theorem dX11_findSamples_27 : decode cX11_findSamples 27 = .ok (.iastore, 1) := by decide +kernel
theorem dX11_findSamples_28 : decode cX11_findSamples 28 = .ok (.iinc 5 1, 3) := by decide +kernel
theorem dX11_findSamples_31 : decode cX11_findSamples 31 = .ok (.goto (-18), 3) := by decide +kernel
theorem dX11_findSamples_34 : decode cX11_findSamples 34 = .ok (.iload_n 3, 1) := by decide +kernel
theorem dX11_findSamples_35 : decode cX11_findSamples 35 = .ok (.istore 5, 2) := by decide +kernel
theorem dX11_findSamples_37 : decode cX11_findSamples 37 = .ok (.iconst 0, 1) := by decide +kernel
theorem dX11_findSamples_38 : decode cX11_findSamples 38 = .ok (.istore 6, 2) := by decide +kernel
theorem dX11_findSamples_40 : decode cX11_findSamples 40 = .ok (.iload 6, 2) := by decide +kernel
theorem dX11_findSamples_42 : decode cX11_findSamples 42 = .ok (.aload_n 0, 1) := by decide +kernel
theorem dX11_findSamples_43 : decode cX11_findSamples 43 = .ok (.getfield 225, 3) := by decide +kernel
theorem dX11_findSamples_46 : decode cX11_findSamples 46 = .ok (.if_icmp .ge 95, 3) := by decide +kernel
theorem dX11_findSamples_49 : decode cX11_findSamples 49 = .ok (.iload 5, 2) := by decide +kernel
theorem dX11_findSamples_51 : decode cX11_findSamples 51 = .ok (.aload_n 0, 1) := by decide +kernel
theorem dX11_findSamples_52 : decode cX11_findSamples 52 = .ok (.aload_n 0, 1) := by decide +kernel
theorem dX11_findSamples_53 : decode cX11_findSamples 53 = .ok (.getfield 25, 3) := by decide +kernel
theorem dX11_findSamples_56 : decode cX11_findSamples 56 = .ok (.iload 6, 2) := by decide +kernel
theorem dX11_findSamples_58 : decode cX11_findSamples 58 = .ok (.iaload, 1) := by decide +kernel
theorem dX11_findSamples_59 : decode cX11_findSamples 59 = .ok (.iload_n 1, 1) := by decide +kernel
theorem dX11_findSamples_60 : decode cX11_findSamples 60 = .ok (.invokevirtual 251, 3) := by decide +kernel
theorem dX11_findSamples_63 : decode cX11_findSamples 63 = .ok (.iadd, 1) := by decide +kernel
theorem dX11_findSamples_64 : decode cX11_findSamples 64 = .ok (.istore 5, 2) := by decide +kernel
theorem dX11_findSamples_66 : decode cX11_findSamples 66 = .ok (.iload 5, 2) := by decide +kernel
theorem dX11_findSamples_68 : decode cX11_findSamples 68 = .ok (.iload_n 2, 1) := by decide +kernel
theorem dX11_findSamples_69 : decode cX11_findSamples 69 = .ok (.idiv, 1) := by decide +kernel
theorem dX11_findSamples_70 : decode cX11_findSamples 70 = .ok (.istore 7, 2) := by decide +kernel
theorem dX11_findSamples_72 : decode cX11_findSamples 72 = .ok (.iload 5, 2) := by decide +kernel
theorem dX11_findSamples_74 : decode cX11_findSamples 74 = .ok (.iload_n 2, 1) := by decide +kernel
theorem dX11_findSamples_75 : decode cX11_findSamples 75 = .ok (.irem, 1) := by decide +kernel
theorem dX11_findSamples_76 : decode cX11_findSamples 76 = .ok (.istore 5, 2) := by decide +kernel
theorem dX11_findSamples_78 : decode cX11_findSamples 78 = .ok (.aload_n 0, 1) := by decide +kernel
theorem dX11_findSamples_79 : decode cX11_findSamples 79 = .ok (.dup, 1) := by decide +kernel
theorem dX11_findSamples_80 : decode cX11_findSamples 80 = .ok (.getfield 325, 3) := by decide +kernel
theorem dX11_findSamples_83 : decode cX11_findSamples 83 = .ok (.iload 7, 2) := by decide +kernel
theorem dX11_findSamples_85 : decode cX11_findSamples 85 = .ok (.iadd, 1) := by decide +kernel
theorem dX11_findSamples_86 : decode cX11_findSamples 86 = .ok (.putfield 325, 3) := by decide +kernel
theorem dX11_findSamples_89 : decode cX11_findSamples 89 = .ok (.iload 6, 2) := by decide +kernel
theorem dX11_findSamples_91 : decode cX11_findSamples 91 = .ok (.iload 4, 2) := by decide +kernel
theorem dX11_findSamples_93 : decode cX11_findSamples 93 = .ok (.iadd, 1) := by decide +kernel
theorem dX11_findSamples_94 : decode cX11_findSamples 94 = .ok (.aload_n 0, 1) := by decide +kernel
theorem dX11_findSamples_95 : decode cX11_findSamples 95 = .ok (.getfield 225, 3) := by decide +kernel
theorem dX11_findSamples_98 : decode cX11_findSamples 98 = .ok (.if_icmp .ge 26, 3) := by decide +kernel
theorem dX11_findSamples_101 : decode cX11_findSamples 101 = .ok (.aload_n 0, 1) := by decide +kernel
theorem dX11_findSamples_102 : decode cX11_findSamples 102 = .ok (.getfield 87, 3) := by decide +kernel
theorem dX11_findSamples_105 : decode cX11_findSamples 105 = .ok (.aload_n 0, 1) := by decide +kernel
theorem dX11_findSamples_106 : decode cX11_findSamples 106 = .ok (.getfield 25, 3) := by decide +kernel
theorem dX11_findSamples_109 : decode cX11_findSamples 109 = .ok (.iload 6, 2) := by decide +kernel
theorem dX11_findSamples_111 : decode cX11_findSamples 111 = .ok (.iload 4, 2) := by decide +kernel
theorem dX11_findSamples_113 : decode cX11_findSamples 113 = .ok (.iadd, 1) := by decide +kernel
theorem dX11_findSamples_114 : decode cX11_findSamples 114 = .ok (.iaload, 1) := by decide +kernel
theorem dX11_findSamples_115 : decode cX11_findSamples 115 = .ok (.dup2, 1) := by decide +kernel
theorem dX11_findSamples_116 : decode cX11_findSamples 116 = .ok (.iaload, 1) := by decide +kernel
theorem dX11_findSamples_117 : decode cX11_findSamples 117 = .ok (.iload 7, 2) := by decide +kernel
theorem dX11_findSamples_119 : decode cX11_findSamples 119 = .ok (.iadd, 1) := by decide +kernel
theorem dX11_findSamples_120 : decode cX11_findSamples 120 = .ok (.iastore, 1) := by decide +kernel
theorem dX11_findSamples_121 : decode cX11_findSamples 121 = .ok (.goto 14, 3) := by decide +kernel
theorem dX11_findSamples_124 : decode cX11_findSamples 124 = .ok (.aload_n 0, 1) := by decide +kernel
theorem dX11_findSamples_125 : decode cX11_findSamples 125 = .ok (.dup, 1) := by decide +kernel
theorem dX11_findSamples_126 : decode cX11_findSamples 126 = .ok (.getfield 328, 3) := by decide +kernel
theorem dX11_findSamples_129 : decode cX11_findSamples 129 = .ok (.iload 7, 2) := by decide +kernel
theorem dX11_findSamples_131 : decode cX11_findSamples 131 = .ok (.iadd, 1) := by decide +kernel
theorem dX11_findSamples_132 : decode cX11_findSamples 132 = .ok (.putfield 328, 3) := by decide +kernel
theorem dX11_findSamples_135 : decode cX11_findSamples 135 = .ok (.iinc 6 1, 3) := by decide +kernel
theorem dX11_findSamples_138 : decode cX11_findSamples 138 = .ok (.goto (-98), 3) := by decide +kernel
theorem dX11_findSamples_141 : decode cX11_findSamples 141 = .ok (.return_, 1) := by decide +kernel
set_option maxRecDepth 100000 in
set_option maxHeartbeats 4000000 in
theorem M_X11_findSamples (G : zG) (l : Launch) {a1 : Int32} {a2 : Int32} {a3 : Int32} {a4 : Int32} {σ : zS} {σ' : zS} (hJ : J_X11_findSamples a1 a2 a3 a4 σ = some σ') : zMV G l yX11_findSamples cX11_findSamples 8 none (zrm 1 22) [.ref (G.1 + 105), .int a1, .int a2, .int a3, .int a4] 137 (zen G σ) 137 (zen G σ') := by
  unfold J_X11_findSamples at hJ
  refine zentV (by decide +kernel) (Nat.le_of_ble_eq_true rfl) ?_
  intro p e s m args below meth c C hret
  refine zr_sub [0, 1, 2, 3, 4] [(0, .ref (G.1 + 105)), (1, .int a1), (2, .int a2), (3, .int a3), (4, .int a4)] rfl ?_
  refine zr_aload_n C 0 dX11_findSamples_0 rfl ?_
  refine zr_iconst C dX11_findSamples_1 (v := (0 : Int32)) (by decide) ?_
  obtain ⟨σ1, hσ1, hJ⟩ := zlet_e hJ
  refine zp_11_45 C 105 zk_105 zm_38_16 hσ1 dX11_findSamples_2 ?_
  refine zr_aload_n C 0 dX11_findSamples_5 rfl ?_
  refine zr_iconst C dX11_findSamples_6 (v := (0 : Int32)) (by decide) ?_
  obtain ⟨σ2, hσ2, hJ⟩ := zlet_e hJ
  refine zp_11_46 C 105 zk_105 zm_38_17 hσ2 dX11_findSamples_7 ?_
  refine zr_iconst C dX11_findSamples_10 (v := (0 : Int32)) (by decide) ?_
  refine zr_istore C [(5, .int (0 : Int32)), (0, .ref (G.1 + 105)), (1, .int a1), (2, .int a2), (3, .int a3), (4, .int a4)] dX11_findSamples_11 (by decide) rfl ?_
  obtain ⟨k34, hk34, hJ⟩ := zlet_e hJ
  have hj34 : ∀ (σ_34 : zS), k34 σ_34 = some σ' → zU G 8 p l e (zrm 1 22) s m args below meth c (MQ below (va_Qv (fun (_ : Unit) => True) (fun _ t => zok G 137 (zen G σ') t) (zA G)) args s 0 0 (zA G)) σ_34 34 [(0, .ref (G.1 + 105)), (1, .int a1), (2, .int a2), (3, .int a3), (4, .int a4)] [] := by
    intro σ_34 hJ
    rw [hk34] at hJ
    unfold D_X11_findSamples_34 at hJ
    refine zr_iload_n C 3 dX11_findSamples_34 rfl ?_
    refine zr_istore C [(5, .int a3), (0, .ref (G.1 + 105)), (1, .int a1), (2, .int a2), (3, .int a3), (4, .int a4)] dX11_findSamples_35 (by decide) rfl ?_
    refine zr_iconst C dX11_findSamples_37 (v := (0 : Int32)) (by decide) ?_
    refine zr_istore C [(6, .int (0 : Int32)), (5, .int a3), (0, .ref (G.1 + 105)), (1, .int a1), (2, .int a2), (3, .int a3), (4, .int a4)] dX11_findSamples_38 (by decide) rfl ?_
    have hl40 : ∀ (n : Nat) (w5_40 : Int32) (w6_40 : Int32) (σ_40 : zS), L_X11_findSamples_40 a1 a2 a4 n w5_40 w6_40 σ_40 = some σ' → zU G 8 p l e (zrm 1 22) s m args below meth c (MQ below (va_Qv (fun (_ : Unit) => True) (fun _ t => zok G 137 (zen G σ') t) (zA G)) args s 0 0 (zA G)) σ_40 40 [(0, .ref (G.1 + 105)), (1, .int a1), (2, .int a2), (4, .int a4), (5, .int w5_40), (6, .int w6_40)] [] := by
      intro n
      induction n with
      | zero =>
        intro w5_40 w6_40 σ_40 hJ
        rw [L_X11_findSamples_40] at hJ
        cases hJ
      | succ n ih =>
        intro w5_40 w6_40 σ_40 hJ
        rw [L_X11_findSamples_40] at hJ
        obtain ⟨r_40, hr_40, hJ⟩ := zlet_e hJ
        have ih40 : ∀ (w5_40 : Int32) (w6_40 : Int32) (σ_40 : zS), r_40 w5_40 w6_40 σ_40 = some σ' → zU G 8 p l e (zrm 1 22) s m args below meth c (MQ below (va_Qv (fun (_ : Unit) => True) (fun _ t => zok G 137 (zen G σ') t) (zA G)) args s 0 0 (zA G)) σ_40 40 [(0, .ref (G.1 + 105)), (1, .int a1), (2, .int a2), (4, .int a4), (5, .int w5_40), (6, .int w6_40)] [] := by
          rw [hr_40]
          exact ih
        refine zr_iload C 5 dX11_findSamples_40 rfl ?_
        refine zr_aload_n C 0 dX11_findSamples_42 rfl ?_
        refine zg_11_7 C 105 zk_105 zm_19_18 dX11_findSamples_43 ?_
        refine zr_icmp_ge C 141 dX11_findSamples_46 (by decide) (fun hc3 => ?_) (fun hc3 => ?_)
        · have hJ := zif hc3 hJ
          exact zr_vret C hret rfl (congrArg (zen G) (zs_e hJ)) dX11_findSamples_141
        · have hJ := zif' hc3 hJ
          refine zr_iload C 4 dX11_findSamples_49 rfl ?_
          refine zr_aload_n C 0 dX11_findSamples_51 rfl ?_
          refine zr_aload_n C 0 dX11_findSamples_52 rfl ?_
          refine zg_11_8 C 105 zk_105 zm_7_16 dX11_findSamples_53 ?_
          refine zr_iload C 5 dX11_findSamples_56 rfl ?_
          obtain ⟨hg4, hJ⟩ := zg_e hJ
          refine zu_iald C 111 zk_111 hg4 dX11_findSamples_58 ?_
          refine zr_iload_n C 1 dX11_findSamples_59 rfl ?_
          obtain ⟨r5, hr5, hJ⟩ := zb_e hJ
          refine zr_callVI C 105 (zk_lt zk_105 (by decide)) (zen_obj zk_105) (rfl : zcl[11]? = some (RX11, TX11, 56)) (M_X11_made G l hr5) zin_X11_made zm_21_9 rfl rfl (Nat.le_of_ble_eq_true rfl) ⟨Nat.le_of_ble_eq_true rfl, Nat.le_of_ble_eq_true rfl⟩ ⟨Nat.le_of_ble_eq_true rfl, Nat.le_of_ble_eq_true rfl⟩ dX11_findSamples_60 ?_
          refine zr_iadd C dX11_findSamples_63 ?_
          obtain ⟨v6, hv6, hJ⟩ := zlet_e hJ
          refine zr_topi hv6 ?_
          refine zr_istore C [(5, .int v6), (0, .ref (G.1 + 105)), (1, .int a1), (2, .int a2), (4, .int a4), (6, .int w6_40)] dX11_findSamples_64 (by decide) rfl ?_
          refine zr_iload C 0 dX11_findSamples_66 rfl ?_
          refine zr_iload_n C 3 dX11_findSamples_68 rfl ?_
          obtain ⟨hn7, hJ⟩ := zn_e hJ
          refine zr_idiv C dX11_findSamples_69 hn7 ?_
          obtain ⟨v8, hv8, hJ⟩ := zlet_e hJ
          refine zr_topi hv8 ?_
          refine zr_istore C [(7, .int v8), (5, .int v6), (0, .ref (G.1 + 105)), (1, .int a1), (2, .int a2), (4, .int a4), (6, .int w6_40)] dX11_findSamples_70 (by decide) rfl ?_
          refine zr_iload C 1 dX11_findSamples_72 rfl ?_
          refine zr_iload_n C 4 dX11_findSamples_74 rfl ?_
          obtain ⟨hn9, hJ⟩ := zn_e hJ
          refine zr_irem C dX11_findSamples_75 hn9 ?_
          obtain ⟨v10, hv10, hJ⟩ := zlet_e hJ
          refine zr_topi hv10 ?_
          refine zr_istore C [(5, .int v10), (7, .int v8), (0, .ref (G.1 + 105)), (1, .int a1), (2, .int a2), (4, .int a4), (6, .int w6_40)] dX11_findSamples_76 (by decide) rfl ?_
          refine zr_aload_n C 2 dX11_findSamples_78 rfl ?_
          refine zr_dup C dX11_findSamples_79 rfl ?_
          refine zg_11_45 C 105 zk_105 zm_38_16 dX11_findSamples_80 ?_
          refine zr_iload C 1 dX11_findSamples_83 rfl ?_
          refine zr_iadd C dX11_findSamples_85 ?_
          obtain ⟨σ11, hσ11, hJ⟩ := zlet_e hJ
          refine zp_11_45 C 105 zk_105 zm_38_16 hσ11 dX11_findSamples_86 ?_
          refine zr_iload C 6 dX11_findSamples_89 rfl ?_
          refine zr_iload C 5 dX11_findSamples_91 rfl ?_
          refine zr_iadd C dX11_findSamples_93 ?_
          refine zr_aload_n C 2 dX11_findSamples_94 rfl ?_
          refine zg_11_7 C 105 zk_105 zm_19_18 dX11_findSamples_95 ?_
          refine zr_icmp_ge C 124 dX11_findSamples_98 (by decide) (fun hc12 => ?_) (fun hc12 => ?_)
          · have hJ := zif hc12 hJ
            refine zr_aload_n C 2 dX11_findSamples_124 rfl ?_
            refine zr_dup C dX11_findSamples_125 rfl ?_
            refine zg_11_46 C 105 zk_105 zm_38_17 dX11_findSamples_126 ?_
            refine zr_iload C 1 dX11_findSamples_129 rfl ?_
            refine zr_iadd C dX11_findSamples_131 ?_
            obtain ⟨σ13, hσ13, hJ⟩ := zlet_e hJ
            refine zp_11_46 C 105 zk_105 zm_38_17 hσ13 dX11_findSamples_132 ?_
            obtain ⟨v14, hv14, hJ⟩ := zlet_e hJ
            refine zr_iinc C v14 6 [(6, .int v14), (5, .int v10), (7, .int v8), (0, .ref (G.1 + 105)), (1, .int a1), (2, .int a2), (4, .int a4)] dX11_findSamples_135 rfl (hv14.trans (zinc (by decide))) (by decide) rfl ?_
            refine zr_goto C 40 dX11_findSamples_138 (by decide) ?_
            refine zr_sub [3, 4, 5, 6, 1, 0] [(0, .ref (G.1 + 105)), (1, .int a1), (2, .int a2), (4, .int a4), (5, .int v10), (6, .int v14)] rfl ?_
            exact ih40 _ _ _ hJ
          · have hJ := zif' hc12 hJ
            refine zr_aload_n C 2 dX11_findSamples_101 rfl ?_
            refine zg_11_47 C 105 zk_105 zm_8_12 dX11_findSamples_102 ?_
            refine zr_aload_n C 2 dX11_findSamples_105 rfl ?_
            refine zg_11_8 C 105 zk_105 zm_7_16 dX11_findSamples_106 ?_
            refine zr_iload C 6 dX11_findSamples_109 rfl ?_
            refine zr_iload C 5 dX11_findSamples_111 rfl ?_
            refine zr_iadd C dX11_findSamples_113 ?_
            obtain ⟨hg15, hJ⟩ := zg_e hJ
            refine zu_iald C 111 zk_111 hg15 dX11_findSamples_114 ?_
            refine zr_dup2 C dX11_findSamples_115 rfl rfl ?_
            obtain ⟨hg16, hJ⟩ := zg_e hJ
            refine zu_iald C 130 zk_130 hg16 dX11_findSamples_116 ?_
            refine zr_iload C 1 dX11_findSamples_117 rfl ?_
            refine zr_iadd C dX11_findSamples_119 ?_
            obtain ⟨hg17, hJ⟩ := zg_e hJ
            obtain ⟨σ18, hσ18, hJ⟩ := zlet_e hJ
            refine zv_iast C 130 zk_130 hg17 hσ18 dX11_findSamples_120 ?_
            refine zr_goto C 135 dX11_findSamples_121 (by decide) ?_
            obtain ⟨v19, hv19, hJ⟩ := zlet_e hJ
            refine zr_iinc C v19 6 [(6, .int v19), (5, .int v10), (7, .int v8), (0, .ref (G.1 + 105)), (1, .int a1), (2, .int a2), (4, .int a4)] dX11_findSamples_135 rfl (hv19.trans (zinc (by decide))) (by decide) rfl ?_
            refine zr_goto C 40 dX11_findSamples_138 (by decide) ?_
            refine zr_sub [3, 4, 5, 6, 1, 0] [(0, .ref (G.1 + 105)), (1, .int a1), (2, .int a2), (4, .int a4), (5, .int v10), (6, .int v19)] rfl ?_
            exact ih40 _ _ _ hJ
    refine zr_sub [2, 3, 4, 6, 1, 0] [(0, .ref (G.1 + 105)), (1, .int a1), (2, .int a2), (4, .int a4), (5, .int a3), (6, .int (0 : Int32))] rfl ?_
    exact hl40 _ _ _ _ hJ
  have hl13 : ∀ (n : Nat) (w5_13 : Int32) (σ_13 : zS), L_X11_findSamples_13 k34 n w5_13 σ_13 = some σ' → zU G 8 p l e (zrm 1 22) s m args below meth c (MQ below (va_Qv (fun (_ : Unit) => True) (fun _ t => zok G 137 (zen G σ') t) (zA G)) args s 0 0 (zA G)) σ_13 13 [(0, .ref (G.1 + 105)), (1, .int a1), (2, .int a2), (3, .int a3), (4, .int a4), (5, .int w5_13)] [] := by
    intro n
    induction n with
    | zero =>
      intro w5_13 σ_13 hJ
      rw [L_X11_findSamples_13] at hJ
      cases hJ
    | succ n ih =>
      intro w5_13 σ_13 hJ
      rw [L_X11_findSamples_13] at hJ
      obtain ⟨r_13, hr_13, hJ⟩ := zlet_e hJ
      have ih13 : ∀ (w5_13 : Int32) (σ_13 : zS), r_13 w5_13 σ_13 = some σ' → zU G 8 p l e (zrm 1 22) s m args below meth c (MQ below (va_Qv (fun (_ : Unit) => True) (fun _ t => zok G 137 (zen G σ') t) (zA G)) args s 0 0 (zA G)) σ_13 13 [(0, .ref (G.1 + 105)), (1, .int a1), (2, .int a2), (3, .int a3), (4, .int a4), (5, .int w5_13)] [] := by
        rw [hr_13]
        exact ih
      refine zr_iload C 5 dX11_findSamples_13 rfl ?_
      refine zr_bipush C dX11_findSamples_15 (v := (16 : Int32)) (by decide) ?_
      refine zr_icmp_ge C 34 dX11_findSamples_17 (by decide) (fun hc20 => ?_) (fun hc20 => ?_)
      · have hJ := zif hc20 hJ
        refine zr_sub [0, 1, 2, 3, 4] [(0, .ref (G.1 + 105)), (1, .int a1), (2, .int a2), (3, .int a3), (4, .int a4)] rfl ?_
        exact hj34 _ hJ
      · have hJ := zif' hc20 hJ
        refine zr_aload_n C 0 dX11_findSamples_20 rfl ?_
        refine zg_11_47 C 105 zk_105 zm_8_12 dX11_findSamples_21 ?_
        refine zr_iload C 5 dX11_findSamples_24 rfl ?_
        refine zr_iconst C dX11_findSamples_26 (v := (0 : Int32)) (by decide) ?_
        obtain ⟨hg21, hJ⟩ := zg_e hJ
        obtain ⟨σ22, hσ22, hJ⟩ := zlet_e hJ
        refine zv_iast C 130 zk_130 hg21 hσ22 dX11_findSamples_27 ?_
        obtain ⟨v23, hv23, hJ⟩ := zlet_e hJ
        refine zr_iinc C v23 5 [(5, .int v23), (0, .ref (G.1 + 105)), (1, .int a1), (2, .int a2), (3, .int a3), (4, .int a4)] dX11_findSamples_28 rfl (hv23.trans (zinc (by decide))) (by decide) rfl ?_
        refine zr_goto C 13 dX11_findSamples_31 (by decide) ?_
        refine zr_sub [1, 2, 3, 4, 5, 0] [(0, .ref (G.1 + 105)), (1, .int a1), (2, .int a2), (3, .int a3), (4, .int a4), (5, .int v23)] rfl ?_
        exact ih13 _ _ hJ
  refine zr_sub [1, 2, 3, 4, 5, 0] [(0, .ref (G.1 + 105)), (1, .int a1), (2, .int a2), (3, .int a3), (4, .int a4), (5, .int (0 : Int32))] rfl ?_
  exact hl13 _ _ _ hJ
theorem dX11_told_0 : decode cX11_told 0 = .ok (.lload_n 2, 1) := by decide +kernel
theorem dX11_told_1 : decode cX11_told 1 = .ok (.lload_n 0, 1) := by decide +kernel
theorem dX11_told_2 : decode cX11_told 2 = .ok (.invokestatic 111, 3) := by decide +kernel
theorem dX11_told_5 : decode cX11_told 5 = .ok (.invokestatic 115, 3) := by decide +kernel
theorem dX11_told_8 : decode cX11_told 8 = .ok (.lstore 5, 2) := by decide +kernel
theorem dX11_told_10 : decode cX11_told 10 = .ok (.iload 4, 2) := by decide +kernel
theorem dX11_told_12 : decode cX11_told 12 = .ok (.ifCond .ne 10, 3) := by decide +kernel
theorem dX11_told_15 : decode cX11_told 15 = .ok (.lload_n 0, 1) := by decide +kernel
theorem dX11_told_16 : decode cX11_told 16 = .ok (.lload 5, 2) := by decide +kernel
theorem dX11_told_18 : decode cX11_told 18 = .ok (.ldiv, 1) := by decide +kernel
theorem dX11_told_19 : decode cX11_told 19 = .ok (.goto 7, 3) := by decide +kernel
theorem dX11_told_22 : decode cX11_told 22 = .ok (.lload_n 2, 1) := by decide +kernel
theorem dX11_told_23 : decode cX11_told 23 = .ok (.lload 5, 2) := by decide +kernel
theorem dX11_told_25 : decode cX11_told 25 = .ok (.ldiv, 1) := by decide +kernel
theorem dX11_told_26 : decode cX11_told 26 = .ok (.lreturn, 1) := by decide +kernel
set_option maxRecDepth 100000 in
set_option maxHeartbeats 4000000 in
theorem M_X11_told (G : zG) (l : Launch) {a0 : Int64} {a2 : Int64} {a4 : Int32} {σ : zS} {r : Int64} (hJ : J_X11_told a0 a2 a4 σ = some r) : zML G l yX11_told cX11_told 7 (some .long) (zrm 2 50) [.long a0, .long a2, .int a4] 137 (zen G σ) r 137 (zen G σ) := by
  unfold J_X11_told at hJ
  refine zentL (by decide +kernel) (Nat.le_of_ble_eq_true rfl) ?_
  intro p e s m args below meth c C hret
  refine zr_sub [0, 1, 2] [(0, .long a0), (2, .long a2), (4, .int a4)] rfl ?_
  refine zr_lload_n C 1 dX11_told_0 rfl ?_
  refine zr_lload_n C 0 dX11_told_1 rfl ?_
  obtain ⟨r1, hr1, hJ⟩ := zb_e hJ
  refine zr_callSL C (M_X11_size G l hr1) zin_X11_size zm_24_6 rfl rfl (Nat.le_of_ble_eq_true rfl) ⟨Nat.le_of_ble_eq_true rfl, Nat.le_of_ble_eq_true rfl⟩ ⟨Nat.le_of_ble_eq_true rfl, Nat.le_of_ble_eq_true rfl⟩ dX11_told_2 ?_
  obtain ⟨r2, hr2, hJ⟩ := zb_e hJ
  refine zr_callSL C (M_X11_common G l hr2) zin_X11_common zm_24_9 rfl rfl (Nat.le_of_ble_eq_true rfl) ⟨Nat.le_of_ble_eq_true rfl, Nat.le_of_ble_eq_true rfl⟩ ⟨Nat.le_of_ble_eq_true rfl, Nat.le_of_ble_eq_true rfl⟩ dX11_told_5 ?_
  refine zr_lstore C [(5, .long r2), (0, .long a0), (2, .long a2), (4, .int a4)] dX11_told_8 (by decide) rfl ?_
  refine zr_iload C 3 dX11_told_10 rfl ?_
  refine zr_if_ne C 22 dX11_told_12 (by decide) (fun hc3 => ?_) (fun hc3 => ?_)
  · have hJ := zif' hc3 hJ
    refine zr_lload_n C 2 dX11_told_22 rfl ?_
    refine zr_lload C 0 dX11_told_23 rfl ?_
    obtain ⟨hn4, hJ⟩ := znl_e hJ
    refine zr_ldiv C dX11_told_25 hn4 ?_
    exact zr_lret C hret (zs_e hJ) rfl rfl dX11_told_26
  · have hJ := zif hc3 hJ
    refine zr_lload_n C 1 dX11_told_15 rfl ?_
    refine zr_lload C 0 dX11_told_16 rfl ?_
    obtain ⟨hn5, hJ⟩ := znl_e hJ
    refine zr_ldiv C dX11_told_18 hn5 ?_
    refine zr_goto C 26 dX11_told_19 (by decide) ?_
    exact zr_lret C hret (zs_e hJ) rfl rfl dX11_told_26
theorem dX11_far_0 : decode cX11_far 0 = .ok (.iload_n 1, 1) := by decide +kernel
theorem dX11_far_1 : decode cX11_far 1 = .ok (.iload_n 2, 1) := by decide +kernel
theorem dX11_far_2 : decode cX11_far 2 = .ok (.iload_n 3, 1) := by decide +kernel
theorem dX11_far_3 : decode cX11_far 3 = .ok (.iload 4, 2) := by decide +kernel
theorem dX11_far_5 : decode cX11_far 5 = .ok (.invokestatic 335, 3) := by decide +kernel
theorem dX11_far_8 : decode cX11_far 8 = .ok (.ifCond .eq 14, 3) := by decide +kernel
theorem dX11_far_11 : decode cX11_far 11 = .ok (.iload 5, 2) := by decide +kernel
theorem dX11_far_13 : decode cX11_far 13 = .ok (.i2l, 1) := by decide +kernel
theorem dX11_far_14 : decode cX11_far 14 = .ok (.lconst 0, 1) := by decide +kernel
theorem dX11_far_15 : decode cX11_far 15 = .ok (.lconst 1, 1) := by decide +kernel
theorem dX11_far_16 : decode cX11_far 16 = .ok (.invokestatic 124, 3) := by decide +kernel
theorem dX11_far_19 : decode cX11_far 19 = .ok (.ifCond .ne 7, 3) := by decide +kernel
theorem dX11_far_22 : decode cX11_far 22 = .ok (.ldc2_w 345, 3) := by decide +kernel
theorem dX11_far_25 : decode cX11_far 25 = .ok (.lreturn, 1) := by decide +kernel
theorem dX11_far_26 : decode cX11_far 26 = .ok (.aload_n 0, 1) := by decide +kernel
theorem dX11_far_27 : decode cX11_far 27 = .ok (.iload_n 1, 1) := by decide +kernel
theorem dX11_far_28 : decode cX11_far 28 = .ok (.iload_n 2, 1) := by decide +kernel
theorem dX11_far_29 : decode cX11_far 29 = .ok (.iload_n 3, 1) := by decide +kernel
theorem dX11_far_30 : decode cX11_far 30 = .ok (.iload 4, 2) := by decide +kernel
theorem dX11_far_32 : decode cX11_far 32 = .ok (.invokevirtual 339, 3) := by decide +kernel
theorem dX11_far_35 : decode cX11_far 35 = .ok (.aload_n 0, 1) := by decide +kernel
theorem dX11_far_36 : decode cX11_far 36 = .ok (.getfield 325, 3) := by decide +kernel
theorem dX11_far_39 : decode cX11_far 39 = .ok (.aload_n 0, 1) := by decide +kernel
theorem dX11_far_40 : decode cX11_far 40 = .ok (.getfield 328, 3) := by decide +kernel
theorem dX11_far_43 : decode cX11_far 43 = .ok (.if_icmp .ne 9, 3) := by decide +kernel
theorem dX11_far_46 : decode cX11_far 46 = .ok (.ldc2_w 347, 3) := by decide +kernel
theorem dX11_far_49 : decode cX11_far 49 = .ok (.goto 30, 3) := by decide +kernel
theorem dX11_far_52 : decode cX11_far 52 = .ok (.aload_n 0, 1) := by decide +kernel
theorem dX11_far_53 : decode cX11_far 53 = .ok (.iload_n 1, 1) := by decide +kernel
theorem dX11_far_54 : decode cX11_far 54 = .ok (.invokevirtual 349, 3) := by decide +kernel
theorem dX11_far_57 : decode cX11_far 57 = .ok (.aload_n 0, 1) := by decide +kernel
theorem dX11_far_58 : decode cX11_far 58 = .ok (.getfield 325, 3) := by decide +kernel
theorem dX11_far_61 : decode cX11_far 61 = .ok (.aload_n 0, 1) := by decide +kernel
theorem dX11_far_62 : decode cX11_far 62 = .ok (.getfield 328, 3) := by decide +kernel
theorem dX11_far_65 : decode cX11_far 65 = .ok (.isub, 1) := by decide +kernel
theorem dX11_far_66 : decode cX11_far 66 = .ok (.i2l, 1) := by decide +kernel
theorem dX11_far_67 : decode cX11_far 67 = .ok (.aload_n 0, 1) := by decide +kernel
theorem dX11_far_68 : decode cX11_far 68 = .ok (.iload_n 1, 1) := by decide +kernel
theorem dX11_far_69 : decode cX11_far 69 = .ok (.invokevirtual 257, 3) := by decide +kernel
theorem dX11_far_72 : decode cX11_far 72 = .ok (.i2l, 1) := by decide +kernel
theorem dX11_far_73 : decode cX11_far 73 = .ok (.lmul, 1) := by decide +kernel
theorem dX11_far_74 : decode cX11_far 74 = .ok (.iload 5, 2) := by decide +kernel
theorem dX11_far_76 : decode cX11_far 76 = .ok (.invokestatic 263, 3) := by decide +kernel
theorem dX11_far_79 : decode cX11_far 79 = .ok (.lreturn, 1) := by decide +kernel
set_option maxRecDepth 100000 in
set_option maxHeartbeats 4000000 in
theorem M_X11_far (G : zG) (l : Launch) {a1 : Int32} {a2 : Int32} {a3 : Int32} {a4 : Int32} {a5 : Int32} {σ : zS} {r : Int64} {σ' : zS} (hJ : J_X11_far a1 a2 a3 a4 a5 σ = some (r, σ')) : zML G l yX11_far cX11_far 6 (some .long) (zrm 3 76) [.ref (G.1 + 105), .int a1, .int a2, .int a3, .int a4, .int a5] 137 (zen G σ) r 137 (zen G σ') := by
  unfold J_X11_far at hJ
  refine zentL (by decide +kernel) (Nat.le_of_ble_eq_true rfl) ?_
  intro p e s m args below meth c C hret
  refine zr_sub [0, 1, 2, 3, 4, 5] [(0, .ref (G.1 + 105)), (1, .int a1), (2, .int a2), (3, .int a3), (4, .int a4), (5, .int a5)] rfl ?_
  refine zr_iload_n C 1 dX11_far_0 rfl ?_
  refine zr_iload_n C 2 dX11_far_1 rfl ?_
  refine zr_iload_n C 3 dX11_far_2 rfl ?_
  refine zr_iload C 4 dX11_far_3 rfl ?_
  obtain ⟨r1, hr1, hJ⟩ := zb_e hJ
  refine zr_callSI C (M_X11_isSampling G l hr1) zin_X11_isSampling zm_38_7 rfl rfl (Nat.le_of_ble_eq_true rfl) ⟨Nat.le_of_ble_eq_true rfl, Nat.le_of_ble_eq_true rfl⟩ ⟨Nat.le_of_ble_eq_true rfl, Nat.le_of_ble_eq_true rfl⟩ dX11_far_5 ?_
  refine zr_if_eq C 22 dX11_far_8 (by decide) (fun hc2 => ?_) (fun hc2 => ?_)
  · have hJ := zif hc2 hJ
    refine zr_ldc2 C dX11_far_22 zm_40_10 ?_
    exact zr_lret C hret (Prod.mk.inj (zs_e hJ)).1 rfl (congrArg (zen G) (Prod.mk.inj (zs_e hJ)).2) dX11_far_25
  · have hJ := zif' hc2 hJ
    refine zr_iload C 5 dX11_far_11 rfl ?_
    refine zr_i2l C dX11_far_13 ?_
    refine zr_lconst C dX11_far_14 (v := (0 : Int64)) (by decide) ?_
    refine zr_lconst C dX11_far_15 (v := (1 : Int64)) (by decide) ?_
    obtain ⟨r3, hr3, hJ⟩ := zb_e hJ
    refine zr_callSI C (M_X11_in G l hr3) zin_X11_in zm_9_22 rfl rfl (Nat.le_of_ble_eq_true rfl) ⟨Nat.le_of_ble_eq_true rfl, Nat.le_of_ble_eq_true rfl⟩ ⟨Nat.le_of_ble_eq_true rfl, Nat.le_of_ble_eq_true rfl⟩ dX11_far_16 ?_
    refine zr_if_ne C 26 dX11_far_19 (by decide) (fun hc4 => ?_) (fun hc4 => ?_)
    · have hJ := zif' hc4 hJ
      refine zr_aload_n C 0 dX11_far_26 rfl ?_
      refine zr_iload_n C 1 dX11_far_27 rfl ?_
      refine zr_iload_n C 2 dX11_far_28 rfl ?_
      refine zr_iload_n C 3 dX11_far_29 rfl ?_
      refine zr_iload C 4 dX11_far_30 rfl ?_
      obtain ⟨σ6, hr5, hJ⟩ := zb_e hJ
      refine zr_callVV C 105 (zk_lt zk_105 (by decide)) (zen_obj zk_105) (rfl : zcl[11]? = some (RX11, TX11, 56)) (M_X11_findSamples G l hr5) zin_X11_findSamples zm_38_12 rfl rfl (Nat.le_of_ble_eq_true rfl) ⟨Nat.le_of_ble_eq_true rfl, Nat.le_of_ble_eq_true rfl⟩ ⟨Nat.le_of_ble_eq_true rfl, Nat.le_of_ble_eq_true rfl⟩ dX11_far_32 ?_
      refine zr_aload_n C 0 dX11_far_35 rfl ?_
      refine zg_11_45 C 105 zk_105 zm_38_16 dX11_far_36 ?_
      refine zr_aload_n C 0 dX11_far_39 rfl ?_
      refine zg_11_46 C 105 zk_105 zm_38_17 dX11_far_40 ?_
      refine zr_icmp_ne C 52 dX11_far_43 (by decide) (fun hc7 => ?_) (fun hc7 => ?_)
      · have hJ := zif' hc7 hJ
        refine zr_aload_n C 0 dX11_far_52 rfl ?_
        refine zr_iload_n C 1 dX11_far_53 rfl ?_
        obtain ⟨r8, hr8, hJ⟩ := zb_e hJ
        refine zr_callVL C 105 (zk_lt zk_105 (by decide)) (zen_obj zk_105) (rfl : zcl[11]? = some (RX11, TX11, 56)) (M_X11_farNow G l hr8) zin_X11_farNow zm_40_12 rfl rfl (Nat.le_of_ble_eq_true rfl) ⟨Nat.le_of_ble_eq_true rfl, Nat.le_of_ble_eq_true rfl⟩ ⟨Nat.le_of_ble_eq_true rfl, Nat.le_of_ble_eq_true rfl⟩ dX11_far_54 ?_
        refine zr_aload_n C 0 dX11_far_57 rfl ?_
        refine zg_11_45 C 105 zk_105 zm_38_16 dX11_far_58 ?_
        refine zr_aload_n C 0 dX11_far_61 rfl ?_
        refine zg_11_46 C 105 zk_105 zm_38_17 dX11_far_62 ?_
        refine zr_isub C dX11_far_65 ?_
        refine zr_i2l C dX11_far_66 ?_
        refine zr_aload_n C 0 dX11_far_67 rfl ?_
        refine zr_iload_n C 1 dX11_far_68 rfl ?_
        obtain ⟨r9, hr9, hJ⟩ := zb_e hJ
        refine zr_callVI C 105 (zk_lt zk_105 (by decide)) (zen_obj zk_105) (rfl : zcl[11]? = some (RX11, TX11, 56)) (M_X11_total G l hr9) zin_X11_total zm_22_23 rfl rfl (Nat.le_of_ble_eq_true rfl) ⟨Nat.le_of_ble_eq_true rfl, Nat.le_of_ble_eq_true rfl⟩ ⟨Nat.le_of_ble_eq_true rfl, Nat.le_of_ble_eq_true rfl⟩ dX11_far_69 ?_
        refine zr_i2l C dX11_far_72 ?_
        refine zr_lmul C dX11_far_73 ?_
        refine zr_iload C 5 dX11_far_74 rfl ?_
        obtain ⟨r10, hr10, hJ⟩ := zb_e hJ
        refine zr_callSL C (M_X11_told G l hr10) zin_X11_told zm_24_3 rfl rfl (Nat.le_of_ble_eq_true rfl) ⟨Nat.le_of_ble_eq_true rfl, Nat.le_of_ble_eq_true rfl⟩ ⟨Nat.le_of_ble_eq_true rfl, Nat.le_of_ble_eq_true rfl⟩ dX11_far_76 ?_
        exact zr_lret C hret (Prod.mk.inj (zs_e hJ)).1 rfl (congrArg (zen G) (Prod.mk.inj (zs_e hJ)).2) dX11_far_79
      · have hJ := zif hc7 hJ
        refine zr_ldc2 C dX11_far_46 zm_40_11 ?_
        refine zr_goto C 79 dX11_far_49 (by decide) ?_
        exact zr_lret C hret (Prod.mk.inj (zs_e hJ)).1 rfl (congrArg (zen G) (Prod.mk.inj (zs_e hJ)).2) dX11_far_79
    · have hJ := zif hc4 hJ
      refine zr_ldc2 C dX11_far_22 zm_40_10 ?_
      exact zr_lret C hret (Prod.mk.inj (zs_e hJ)).1 rfl (congrArg (zen G) (Prod.mk.inj (zs_e hJ)).2) dX11_far_25
theorem dX11_fault_0 : decode cX11_fault 0 = .ok (.aload_n 0, 1) := by decide +kernel
theorem dX11_fault_1 : decode cX11_fault 1 = .ok (.getfield 128, 3) := by decide +kernel
theorem dX11_fault_4 : decode cX11_fault 4 = .ok (.ireturn, 1) := by decide +kernel
set_option maxRecDepth 100000 in
set_option maxHeartbeats 4000000 in
theorem M_X11_fault (G : zG) (l : Launch) {σ : zS} {r : Int32} (hJ : J_X11_fault σ = some r) : zMI G l yX11_fault cX11_fault 1 (some .int) (zrm 0 0) [.ref (G.1 + 105)] 137 (zen G σ) r 137 (zen G σ) := by
  unfold J_X11_fault at hJ
  refine zentI (by decide +kernel) (Nat.le_of_ble_eq_true rfl) ?_
  intro p e s m args below meth c C hret
  refine zr_sub [0] [(0, .ref (G.1 + 105))] rfl ?_
  refine zr_aload_n C 0 dX11_fault_0 rfl ?_
  refine zg_11_30 C 105 zk_105 zm_16_13 dX11_fault_1 ?_
  exact zr_iret C hret (zs_e hJ) rfl rfl dX11_fault_4
theorem dX11_feed_0 : decode cX11_feed 0 = .ok (.aload_n 0, 1) := by decide +kernel
theorem dX11_feed_1 : decode cX11_feed 1 = .ok (.getfield 119, 3) := by decide +kernel
theorem dX11_feed_4 : decode cX11_feed 4 = .ok (.bipush 8, 2) := by decide +kernel
theorem dX11_feed_6 : decode cX11_feed 6 = .ok (.iadd, 1) := by decide +kernel
theorem dX11_feed_7 : decode cX11_feed 7 = .ok (.sipush 320, 3) := by decide +kernel
theorem dX11_feed_10 : decode cX11_feed 10 = .ok (.if_icmp .le 6, 3) := by decide +kernel
theorem dX11_feed_13 : decode cX11_feed 13 = .ok (.bipush (-3), 2) := by decide +kernel
theorem dX11_feed_15 : decode cX11_feed 15 = .ok (.ireturn, 1) := by decide +kernel
theorem dX11_feed_16 : decode cX11_feed 16 = .ok (.bipush 56, 2) := by decide +kernel
theorem dX11_feed_18 : decode cX11_feed 18 = .ok (.istore_n 3, 1) := by decide +kernel
theorem dX11_feed_19 : decode cX11_feed 19 = .ok (.iload_n 3, 1) := by decide +kernel
theorem dX11_feed_20 : decode cX11_feed 20 = .ok (.ifCond .lt 36, 3) := by decide +kernel
theorem dX11_feed_23 : decode cX11_feed 23 = .ok (.aload_n 0, 1) := by decide +kernel
theorem dX11_feed_24 : decode cX11_feed 24 = .ok (.getfield 55, 3) := by decide +kernel
theorem dX11_feed_27 : decode cX11_feed 27 = .ok (.aload_n 0, 1) := by decide +kernel
theorem dX11_feed_28 : decode cX11_feed 28 = .ok (.getfield 119, 3) := by decide +kernel
theorem dX11_feed_31 : decode cX11_feed 31 = .ok (.lload_n 1, 1) := by decide +kernel
theorem dX11_feed_32 : decode cX11_feed 32 = .ok (.iload_n 3, 1) := by decide +kernel
theorem dX11_feed_33 : decode cX11_feed 33 = .ok (.lshr, 1) := by decide +kernel
theorem dX11_feed_34 : decode cX11_feed 34 = .ok (.ldc2_w 122, 3) := by decide +kernel
theorem dX11_feed_37 : decode cX11_feed 37 = .ok (.land, 1) := by decide +kernel
theorem dX11_feed_38 : decode cX11_feed 38 = .ok (.l2i, 1) := by decide +kernel
theorem dX11_feed_39 : decode cX11_feed 39 = .ok (.iastore, 1) := by decide +kernel
theorem dX11_feed_40 : decode cX11_feed 40 = .ok (.aload_n 0, 1) := by decide +kernel
theorem dX11_feed_41 : decode cX11_feed 41 = .ok (.dup, 1) := by decide +kernel
theorem dX11_feed_42 : decode cX11_feed 42 = .ok (.getfield 119, 3) := by decide +kernel
theorem dX11_feed_45 : decode cX11_feed 45 = .ok (.iconst 1, 1) := by decide +kernel
theorem dX11_feed_46 : decode cX11_feed 46 = .ok (.iadd, 1) := by decide +kernel
theorem dX11_feed_47 : decode cX11_feed 47 = .ok (.putfield 119, 3) := by decide +kernel
theorem dX11_feed_50 : decode cX11_feed 50 = .ok (.iinc 3 (-8), 3) := by decide +kernel
theorem dX11_feed_53 : decode cX11_feed 53 = .ok (.goto (-34), 3) := by decide +kernel
theorem dX11_feed_56 : decode cX11_feed 56 = .ok (.aload_n 0, 1) := by decide +kernel
theorem dX11_feed_57 : decode cX11_feed 57 = .ok (.getfield 119, 3) := by decide +kernel
theorem dX11_feed_60 : decode cX11_feed 60 = .ok (.ireturn, 1) := by decide +kernel
set_option maxRecDepth 100000 in
set_option maxHeartbeats 4000000 in
theorem M_X11_feed (G : zG) (l : Launch) {a1 : Int64} {σ : zS} {r : Int32} {σ' : zS} (hJ : J_X11_feed a1 σ = some (r, σ')) : zMI G l yX11_feed cX11_feed 4 (some .int) (zrm 0 0) [.ref (G.1 + 105), .long a1] 137 (zen G σ) r 137 (zen G σ') := by
  unfold J_X11_feed at hJ
  refine zentI (by decide +kernel) (Nat.le_of_ble_eq_true rfl) ?_
  intro p e s m args below meth c C hret
  refine zr_sub [0, 1] [(0, .ref (G.1 + 105)), (1, .long a1)] rfl ?_
  refine zr_aload_n C 0 dX11_feed_0 rfl ?_
  refine zg_11_25 C 105 zk_105 zm_9_12 dX11_feed_1 ?_
  refine zr_bipush C dX11_feed_4 (v := (8 : Int32)) (by decide) ?_
  refine zr_iadd C dX11_feed_6 ?_
  refine zr_sipush C dX11_feed_7 (v := (320 : Int32)) (by decide) ?_
  refine zr_icmp_le C 16 dX11_feed_10 (by decide) (fun hc1 => ?_) (fun hc1 => ?_)
  · have hJ := zif hc1 hJ
    refine zr_bipush C dX11_feed_16 (v := (56 : Int32)) (by decide) ?_
    refine zr_istore_n C [(3, .int (56 : Int32)), (0, .ref (G.1 + 105)), (1, .long a1)] dX11_feed_18 (by decide) rfl ?_
    have hl19 : ∀ (n : Nat) (w3_19 : Int32) (σ_19 : zS), L_X11_feed_19 a1 n w3_19 σ_19 = some (r, σ') → zU G 4 p l e (zrm 0 0) s m args below meth c (MQ below (va_Qi (fun x (_ : Unit) => x = r) (fun _ t => zok G 137 (zen G σ') t) (zA G)) args s 0 0 (zA G)) σ_19 19 [(0, .ref (G.1 + 105)), (1, .long a1), (3, .int w3_19)] [] := by
      intro n
      induction n with
      | zero =>
        intro w3_19 σ_19 hJ
        rw [L_X11_feed_19] at hJ
        cases hJ
      | succ n ih =>
        intro w3_19 σ_19 hJ
        rw [L_X11_feed_19] at hJ
        obtain ⟨r_19, hr_19, hJ⟩ := zlet_e hJ
        have ih19 : ∀ (w3_19 : Int32) (σ_19 : zS), r_19 w3_19 σ_19 = some (r, σ') → zU G 4 p l e (zrm 0 0) s m args below meth c (MQ below (va_Qi (fun x (_ : Unit) => x = r) (fun _ t => zok G 137 (zen G σ') t) (zA G)) args s 0 0 (zA G)) σ_19 19 [(0, .ref (G.1 + 105)), (1, .long a1), (3, .int w3_19)] [] := by
          rw [hr_19]
          exact ih
        refine zr_iload_n C 2 dX11_feed_19 rfl ?_
        refine zr_if_lt C 56 dX11_feed_20 (by decide) (fun hc2 => ?_) (fun hc2 => ?_)
        · have hJ := zif hc2 hJ
          refine zr_aload_n C 0 dX11_feed_56 rfl ?_
          refine zg_11_25 C 105 zk_105 zm_9_12 dX11_feed_57 ?_
          exact zr_iret C hret (Prod.mk.inj (zs_e hJ)).1 rfl (congrArg (zen G) (Prod.mk.inj (zs_e hJ)).2) dX11_feed_60
        · have hJ := zif' hc2 hJ
          refine zr_aload_n C 0 dX11_feed_23 rfl ?_
          refine zg_11_24 C 105 zk_105 zm_8_2 dX11_feed_24 ?_
          refine zr_aload_n C 0 dX11_feed_27 rfl ?_
          refine zg_11_25 C 105 zk_105 zm_9_12 dX11_feed_28 ?_
          refine zr_lload_n C 1 dX11_feed_31 rfl ?_
          refine zr_iload_n C 2 dX11_feed_32 rfl ?_
          refine zr_lshr C dX11_feed_33 ?_
          refine zr_ldc2 C dX11_feed_34 zm_9_13 ?_
          refine zr_land C dX11_feed_37 ?_
          refine zr_l2i C dX11_feed_38 ?_
          obtain ⟨hg3, hJ⟩ := zg_e hJ
          obtain ⟨σ4, hσ4, hJ⟩ := zlet_e hJ
          refine zv_iast C 121 zk_121 hg3 hσ4 dX11_feed_39 ?_
          refine zr_aload_n C 0 dX11_feed_40 rfl ?_
          refine zr_dup C dX11_feed_41 rfl ?_
          refine zg_11_25 C 105 zk_105 zm_9_12 dX11_feed_42 ?_
          refine zr_iconst C dX11_feed_45 (v := (1 : Int32)) (by decide) ?_
          refine zr_iadd C dX11_feed_46 ?_
          obtain ⟨σ5, hσ5, hJ⟩ := zlet_e hJ
          refine zp_11_25 C 105 zk_105 zm_9_12 hσ5 dX11_feed_47 ?_
          obtain ⟨v6, hv6, hJ⟩ := zlet_e hJ
          refine zr_iinc C v6 2 [(3, .int v6), (0, .ref (G.1 + 105)), (1, .long a1)] dX11_feed_50 rfl (hv6.trans (zinc (by decide))) (by decide) rfl ?_
          refine zr_goto C 19 dX11_feed_53 (by decide) ?_
          refine zr_sub [1, 2, 0] [(0, .ref (G.1 + 105)), (1, .long a1), (3, .int v6)] rfl ?_
          exact ih19 _ _ hJ
    refine zr_sub [1, 2, 0] [(0, .ref (G.1 + 105)), (1, .long a1), (3, .int (56 : Int32))] rfl ?_
    exact hl19 _ _ _ hJ
  · have hJ := zif' hc1 hJ
    refine zr_bipush C dX11_feed_13 (v := (-3 : Int32)) (by decide) ?_
    exact zr_iret C hret (Prod.mk.inj (zs_e hJ)).1 rfl (congrArg (zen G) (Prod.mk.inj (zs_e hJ)).2) dX11_feed_15
theorem dX11_isOf_0 : decode cX11_isOf 0 = .ok (.iload_n 0, 1) := by decide +kernel
theorem dX11_isOf_1 : decode cX11_isOf 1 = .ok (.invokestatic 286, 3) := by decide +kernel
theorem dX11_isOf_4 : decode cX11_isOf 4 = .ok (.ifCond .eq 23, 3) := by decide +kernel
theorem dX11_isOf_7 : decode cX11_isOf 7 = .ok (.iload_n 1, 1) := by decide +kernel
theorem dX11_isOf_8 : decode cX11_isOf 8 = .ok (.invokestatic 260, 3) := by decide +kernel
theorem dX11_isOf_11 : decode cX11_isOf 11 = .ok (.ifCond .eq 16, 3) := by decide +kernel
theorem dX11_isOf_14 : decode cX11_isOf 14 = .ok (.iload_n 0, 1) := by decide +kernel
theorem dX11_isOf_15 : decode cX11_isOf 15 = .ok (.iload_n 1, 1) := by decide +kernel
theorem dX11_isOf_16 : decode cX11_isOf 16 = .ok (.ishr, 1) := by decide +kernel
theorem dX11_isOf_17 : decode cX11_isOf 17 = .ok (.iconst 1, 1) := by decide +kernel
theorem dX11_isOf_18 : decode cX11_isOf 18 = .ok (.iand, 1) := by decide +kernel
theorem dX11_isOf_19 : decode cX11_isOf 19 = .ok (.iconst 1, 1) := by decide +kernel
theorem dX11_isOf_20 : decode cX11_isOf 20 = .ok (.if_icmp .ne 7, 3) := by decide +kernel
theorem dX11_isOf_23 : decode cX11_isOf 23 = .ok (.iconst 1, 1) := by decide +kernel
theorem dX11_isOf_24 : decode cX11_isOf 24 = .ok (.goto 4, 3) := by decide +kernel
theorem dX11_isOf_27 : decode cX11_isOf 27 = .ok (.iconst 0, 1) := by decide +kernel
theorem dX11_isOf_28 : decode cX11_isOf 28 = .ok (.ireturn, 1) := by decide +kernel
set_option maxRecDepth 100000 in
set_option maxHeartbeats 4000000 in
theorem M_X11_isOf (G : zG) (l : Launch) {a0 : Int32} {a1 : Int32} {σ : zS} {r : Int32} (hJ : J_X11_isOf a0 a1 σ = some r) : zMI G l yX11_isOf cX11_isOf 2 (some .boolean) (zrm 2 45) [.int a0, .int a1] 137 (zen G σ) r 137 (zen G σ) := by
  unfold J_X11_isOf at hJ
  refine zentI (by decide +kernel) (Nat.le_of_ble_eq_true rfl) ?_
  intro p e s m args below meth c C hret
  refine zr_sub [0, 1] [(0, .int a0), (1, .int a1)] rfl ?_
  refine zr_iload_n C 0 dX11_isOf_0 rfl ?_
  obtain ⟨r1, hr1, hJ⟩ := zb_e hJ
  refine zr_callSI C (M_X11_areEvents G l hr1) zin_X11_areEvents zm_31_17 rfl rfl (Nat.le_of_ble_eq_true rfl) ⟨Nat.le_of_ble_eq_true rfl, Nat.le_of_ble_eq_true rfl⟩ ⟨Nat.le_of_ble_eq_true rfl, Nat.le_of_ble_eq_true rfl⟩ dX11_isOf_1 ?_
  refine zr_if_eq C 27 dX11_isOf_4 (by decide) (fun hc2 => ?_) (fun hc2 => ?_)
  · have hJ := zif hc2 hJ
    refine zr_iconst C dX11_isOf_27 (v := (0 : Int32)) (by decide) ?_
    exact zr_zret C hret (zs_e hJ) rfl rfl rfl dX11_isOf_28
  · have hJ := zif' hc2 hJ
    refine zr_iload_n C 1 dX11_isOf_7 rfl ?_
    obtain ⟨r3, hr3, hJ⟩ := zb_e hJ
    refine zr_callSI C (M_X11_isEvent G l hr3) zin_X11_isEvent zm_24_0 rfl rfl (Nat.le_of_ble_eq_true rfl) ⟨Nat.le_of_ble_eq_true rfl, Nat.le_of_ble_eq_true rfl⟩ ⟨Nat.le_of_ble_eq_true rfl, Nat.le_of_ble_eq_true rfl⟩ dX11_isOf_8 ?_
    refine zr_if_eq C 27 dX11_isOf_11 (by decide) (fun hc4 => ?_) (fun hc4 => ?_)
    · have hJ := zif hc4 hJ
      refine zr_iconst C dX11_isOf_27 (v := (0 : Int32)) (by decide) ?_
      exact zr_zret C hret (zs_e hJ) rfl rfl rfl dX11_isOf_28
    · have hJ := zif' hc4 hJ
      refine zr_iload_n C 0 dX11_isOf_14 rfl ?_
      refine zr_iload_n C 1 dX11_isOf_15 rfl ?_
      refine zr_ishr C dX11_isOf_16 ?_
      refine zr_iconst C dX11_isOf_17 (v := (1 : Int32)) (by decide) ?_
      refine zr_iand C dX11_isOf_18 ?_
      refine zr_iconst C dX11_isOf_19 (v := (1 : Int32)) (by decide) ?_
      refine zr_icmp_ne C 27 dX11_isOf_20 (by decide) (fun hc5 => ?_) (fun hc5 => ?_)
      · have hJ := zif' hc5 hJ
        refine zr_iconst C dX11_isOf_27 (v := (0 : Int32)) (by decide) ?_
        exact zr_zret C hret (zs_e hJ) rfl rfl rfl dX11_isOf_28
      · have hJ := zif hc5 hJ
        refine zr_iconst C dX11_isOf_23 (v := (1 : Int32)) (by decide) ?_
        refine zr_goto C 28 dX11_isOf_24 (by decide) ?_
        exact zr_zret C hret (zs_e hJ) rfl rfl rfl dX11_isOf_28
theorem dX11_finest_0 : decode cX11_finest 0 = .ok (.iload_n 1, 1) := by decide +kernel
theorem dX11_finest_1 : decode cX11_finest 1 = .ok (.iload 4, 2) := by decide +kernel
theorem dX11_finest_3 : decode cX11_finest 3 = .ok (.invokestatic 310, 3) := by decide +kernel
theorem dX11_finest_6 : decode cX11_finest 6 = .ok (.ifCond .eq 37, 3) := by decide +kernel
theorem dX11_finest_9 : decode cX11_finest 9 = .ok (.iload_n 2, 1) := by decide +kernel
theorem dX11_finest_10 : decode cX11_finest 10 = .ok (.i2l, 1) := by decide +kernel
theorem dX11_finest_11 : decode cX11_finest 11 = .ok (.lconst 1, 1) := by decide +kernel
theorem dX11_finest_12 : decode cX11_finest 12 = .ok (.ldc2_w 313, 3) := by decide +kernel
theorem dX11_finest_15 : decode cX11_finest 15 = .ok (.invokestatic 124, 3) := by decide +kernel
theorem dX11_finest_18 : decode cX11_finest 18 = .ok (.ifCond .eq 25, 3) := by decide +kernel
theorem dX11_finest_21 : decode cX11_finest 21 = .ok (.iload_n 3, 1) := by decide +kernel
theorem dX11_finest_22 : decode cX11_finest 22 = .ok (.i2l, 1) := by decide +kernel
theorem dX11_finest_23 : decode cX11_finest 23 = .ok (.iload_n 2, 1) := by decide +kernel
theorem dX11_finest_24 : decode cX11_finest 24 = .ok (.i2l, 1) := by decide +kernel
theorem dX11_finest_25 : decode cX11_finest 25 = .ok (.ldc2_w 313, 3) := by decide +kernel
theorem dX11_finest_28 : decode cX11_finest 28 = .ok (.invokestatic 124, 3) := by decide +kernel
theorem dX11_finest_31 : decode cX11_finest 31 = .ok (.ifCond .eq 12, 3) := by decide +kernel
theorem dX11_finest_34 : decode cX11_finest 34 = .ok (.iload_n 3, 1) := by decide +kernel
theorem dX11_finest_35 : decode cX11_finest 35 = .ok (.iload_n 2, 1) := by decide +kernel
theorem dX11_finest_36 : decode cX11_finest 36 = .ok (.isub, 1) := by decide +kernel
theorem dX11_finest_37 : decode cX11_finest 37 = .ok (.sipush 199, 3) := by decide +kernel
theorem dX11_finest_40 : decode cX11_finest 40 = .ok (.if_icmp .le 5, 3) := by decide +kernel
theorem dX11_finest_43 : decode cX11_finest 43 = .ok (.iconst (-1), 1) := by decide +kernel
theorem dX11_finest_44 : decode cX11_finest 44 = .ok (.ireturn, 1) := by decide +kernel
theorem dX11_finest_45 : decode cX11_finest 45 = .ok (.bipush (-4), 2) := by decide +kernel
theorem dX11_finest_47 : decode cX11_finest 47 = .ok (.istore 5, 2) := by decide +kernel
theorem dX11_finest_49 : decode cX11_finest 49 = .ok (.lconst 0, 1) := by decide +kernel
theorem dX11_finest_50 : decode cX11_finest 50 = .ok (.lstore 6, 2) := by decide +kernel
theorem dX11_finest_52 : decode cX11_finest 52 = .ok (.lconst 1, 1) := by decide +kernel
theorem dX11_finest_53 : decode cX11_finest 53 = .ok (.lstore 8, 2) := by decide +kernel
theorem dX11_finest_55 : decode cX11_finest 55 = .ok (.aload_n 0, 1) := by decide +kernel
theorem dX11_finest_56 : decode cX11_finest 56 = .ok (.iload_n 1, 1) := by decide +kernel
theorem dX11_finest_57 : decode cX11_finest 57 = .ok (.invokevirtual 295, 3) := by decide +kernel
theorem dX11_finest_60 : decode cX11_finest 60 = .ok (.iload_n 2, 1) := by decide +kernel
theorem dX11_finest_61 : decode cX11_finest 61 = .ok (.istore 10, 2) := by decide +kernel
theorem dX11_finest_63 : decode cX11_finest 63 = .ok (.iload 10, 2) := by decide +kernel
theorem dX11_finest_65 : decode cX11_finest 65 = .ok (.iload_n 3, 1) := by decide +kernel
theorem dX11_finest_66 : decode cX11_finest 66 = .ok (.if_icmp .gt 137, 3) := by decide +kernel
theorem dX11_finest_69 : decode cX11_finest 69 = .ok (.aload_n 0, 1) := by decide +kernel
theorem dX11_finest_70 : decode cX11_finest 70 = .ok (.getfield 292, 3) := by decide +kernel
theorem dX11_finest_73 : decode cX11_finest 73 = .ok (.bipush (-4), 2) := by decide +kernel
theorem dX11_finest_75 : decode cX11_finest 75 = .ok (.if_icmp .eq 128, 3) := by decide +kernel
theorem dX11_finest_78 : decode cX11_finest 78 = .ok (.aload_n 0, 1) := by decide +kernel
theorem dX11_finest_79 : decode cX11_finest 79 = .ok (.iload 10, 2) := by decide +kernel
theorem dX11_finest_81 : decode cX11_finest 81 = .ok (.iload 4, 2) := by decide +kernel
theorem dX11_finest_83 : decode cX11_finest 83 = .ok (.invokevirtual 299, 3) := by decide +kernel
theorem dX11_finest_86 : decode cX11_finest 86 = .ok (.aload_n 0, 1) := by decide +kernel
theorem dX11_finest_87 : decode cX11_finest 87 = .ok (.getfield 303, 3) := by decide +kernel
theorem dX11_finest_90 : decode cX11_finest 90 = .ok (.aload_n 0, 1) := by decide +kernel
theorem dX11_finest_91 : decode cX11_finest 91 = .ok (.getfield 212, 3) := by decide +kernel
theorem dX11_finest_94 : decode cX11_finest 94 = .ok (.i2l, 1) := by decide +kernel
theorem dX11_finest_95 : decode cX11_finest 95 = .ok (.lmul, 1) := by decide +kernel
theorem dX11_finest_96 : decode cX11_finest 96 = .ok (.aload_n 0, 1) := by decide +kernel
theorem dX11_finest_97 : decode cX11_finest 97 = .ok (.iload 4, 2) := by decide +kernel
theorem dX11_finest_99 : decode cX11_finest 99 = .ok (.invokevirtual 257, 3) := by decide +kernel
theorem dX11_finest_102 : decode cX11_finest 102 = .ok (.i2l, 1) := by decide +kernel
theorem dX11_finest_103 : decode cX11_finest 103 = .ok (.aload_n 0, 1) := by decide +kernel
theorem dX11_finest_104 : decode cX11_finest 104 = .ok (.getfield 307, 3) := by decide +kernel
theorem dX11_finest_107 : decode cX11_finest 107 = .ok (.lmul, 1) := by decide +kernel
theorem dX11_finest_108 : decode cX11_finest 108 = .ok (.lsub, 1) := by decide +kernel
theorem dX11_finest_109 : decode cX11_finest 109 = .ok (.invokestatic 111, 3) := by decide +kernel
theorem dX11_finest_112 : decode cX11_finest 112 = .ok (.lstore 11, 2) := by decide +kernel
theorem dX11_finest_114 : decode cX11_finest 114 = .ok (.aload_n 0, 1) := by decide +kernel
theorem dX11_finest_115 : decode cX11_finest 115 = .ok (.getfield 307, 3) := by decide +kernel
theorem dX11_finest_118 : decode cX11_finest 118 = .ok (.lconst 0, 1) := by decide +kernel
theorem dX11_finest_119 : decode cX11_finest 119 = .ok (.lcmp, 1) := by decide +kernel
theorem dX11_finest_120 : decode cX11_finest 120 = .ok (.ifCond .le 30, 3) := by decide +kernel
theorem dX11_finest_123 : decode cX11_finest 123 = .ok (.iload 5, 2) := by decide +kernel
theorem dX11_finest_125 : decode cX11_finest 125 = .ok (.bipush (-4), 2) := by decide +kernel
theorem dX11_finest_127 : decode cX11_finest 127 = .ok (.if_icmp .eq 19, 3) := by decide +kernel
theorem dX11_finest_130 : decode cX11_finest 130 = .ok (.lload 11, 2) := by decide +kernel
theorem dX11_finest_132 : decode cX11_finest 132 = .ok (.lload 8, 2) := by decide +kernel
theorem dX11_finest_134 : decode cX11_finest 134 = .ok (.lmul, 1) := by decide +kernel
theorem dX11_finest_135 : decode cX11_finest 135 = .ok (.lload 6, 2) := by decide +kernel
theorem dX11_finest_137 : decode cX11_finest 137 = .ok (.aload_n 0, 1) := by decide +kernel
theorem dX11_finest_138 : decode cX11_finest 138 = .ok (.getfield 307, 3) := by decide +kernel
theorem dX11_finest_141 : decode cX11_finest 141 = .ok (.lmul, 1) := by decide +kernel
theorem dX11_finest_142 : decode cX11_finest 142 = .ok (.lcmp, 1) := by decide +kernel
theorem dX11_finest_143 : decode cX11_finest 143 = .ok (.ifCond .ge 7, 3) := by decide +kernel
theorem dX11_finest_146 : decode cX11_finest 146 = .ok (.iconst 1, 1) := by decide +kernel
theorem dX11_finest_147 : decode cX11_finest 147 = .ok (.goto 4, 3) := by decide +kernel
theorem dX11_finest_150 : decode cX11_finest 150 = .ok (.iconst 0, 1) := by decide +kernel
theorem dX11_finest_151 : decode cX11_finest 151 = .ok (.istore 13, 2) := by decide +kernel
theorem dX11_finest_153 : decode cX11_finest 153 = .ok (.iload 13, 2) := by decide +kernel
theorem dX11_finest_155 : decode cX11_finest 155 = .ok (.ifCond .eq 8, 3) := by decide +kernel
theorem dX11_finest_158 : decode cX11_finest 158 = .ok (.iload 10, 2) := by decide +kernel
theorem dX11_finest_160 : decode cX11_finest 160 = .ok (.goto 5, 3) := by decide +kernel
theorem dX11_finest_163 : decode cX11_finest 163 = .ok (.iload 5, 2) := by decide +kernel
theorem dX11_finest_165 : decode cX11_finest 165 = .ok (.istore 5, 2) := by decide +kernel
theorem dX11_finest_167 : decode cX11_finest 167 = .ok (.iload 13, 2) := by decide +kernel
theorem dX11_finest_169 : decode cX11_finest 169 = .ok (.ifCond .eq 8, 3) := by decide +kernel
theorem dX11_finest_172 : decode cX11_finest 172 = .ok (.lload 11, 2) := by decide +kernel
theorem dX11_finest_174 : decode cX11_finest 174 = .ok (.goto 5, 3) := by decide +kernel
theorem dX11_finest_177 : decode cX11_finest 177 = .ok (.lload 6, 2) := by decide +kernel
theorem dX11_finest_179 : decode cX11_finest 179 = .ok (.lstore 6, 2) := by decide +kernel
theorem dX11_finest_181 : decode cX11_finest 181 = .ok (.iload 13, 2) := by decide +kernel
theorem dX11_finest_183 : decode cX11_finest 183 = .ok (.ifCond .eq 10, 3) := by decide +kernel
theorem dX11_finest_186 : decode cX11_finest 186 = .ok (.aload_n 0, 1) := by decide +kernel
theorem dX11_finest_187 : decode cX11_finest 187 = .ok (.getfield 307, 3) := by decide +kernel
theorem dX11_finest_190 : decode cX11_finest 190 = .ok (.goto 5, 3) := by decide +kernel
theorem dX11_finest_193 : decode cX11_finest 193 = .ok (.lload 8, 2) := by decide +kernel
theorem dX11_finest_195 : decode cX11_finest 195 = .ok (.lstore 8, 2) := by decide +kernel
theorem dX11_finest_197 : decode cX11_finest 197 = .ok (.iinc 10 1, 3) := by decide +kernel
theorem dX11_finest_200 : decode cX11_finest 200 = .ok (.goto (-137), 3) := by decide +kernel
theorem dX11_finest_203 : decode cX11_finest 203 = .ok (.iload 5, 2) := by decide +kernel
theorem dX11_finest_205 : decode cX11_finest 205 = .ok (.ireturn, 1) := by decide +kernel
set_option maxRecDepth 100000 in
set_option maxHeartbeats 4000000 in
theorem M_X11_finest (G : zG) (l : Launch) {a1 : Int32} {a2 : Int32} {a3 : Int32} {a4 : Int32} {σ : zS} {r : Int32} {σ' : zS} (hJ : J_X11_finest a1 a2 a3 a4 σ = some (r, σ')) : zMI G l yX11_finest cX11_finest 14 (some .int) (zrm 3 75) [.ref (G.1 + 105), .int a1, .int a2, .int a3, .int a4] 137 (zen G σ) r 137 (zen G σ') := by
  unfold J_X11_finest at hJ
  refine zentI (by decide +kernel) (Nat.le_of_ble_eq_true rfl) ?_
  intro p e s m args below meth c C hret
  refine zr_sub [0, 1, 2, 3, 4] [(0, .ref (G.1 + 105)), (1, .int a1), (2, .int a2), (3, .int a3), (4, .int a4)] rfl ?_
  refine zr_iload_n C 1 dX11_finest_0 rfl ?_
  refine zr_iload C 4 dX11_finest_1 rfl ?_
  obtain ⟨r1, hr1, hJ⟩ := zb_e hJ
  refine zr_callSI C (M_X11_isOf G l hr1) zin_X11_isOf zm_35_6 rfl rfl (Nat.le_of_ble_eq_true rfl) ⟨Nat.le_of_ble_eq_true rfl, Nat.le_of_ble_eq_true rfl⟩ ⟨Nat.le_of_ble_eq_true rfl, Nat.le_of_ble_eq_true rfl⟩ dX11_finest_3 ?_
  refine zr_if_eq C 43 dX11_finest_6 (by decide) (fun hc2 => ?_) (fun hc2 => ?_)
  · have hJ := zif hc2 hJ
    refine zr_iconst C dX11_finest_43 (v := (-1 : Int32)) (by decide) ?_
    exact zr_iret C hret (Prod.mk.inj (zs_e hJ)).1 rfl (congrArg (zen G) (Prod.mk.inj (zs_e hJ)).2) dX11_finest_44
  · have hJ := zif' hc2 hJ
    refine zr_iload_n C 2 dX11_finest_9 rfl ?_
    refine zr_i2l C dX11_finest_10 ?_
    refine zr_lconst C dX11_finest_11 (v := (1 : Int64)) (by decide) ?_
    refine zr_ldc2 C dX11_finest_12 zm_35_3 ?_
    obtain ⟨r3, hr3, hJ⟩ := zb_e hJ
    refine zr_callSI C (M_X11_in G l hr3) zin_X11_in zm_9_22 rfl rfl (Nat.le_of_ble_eq_true rfl) ⟨Nat.le_of_ble_eq_true rfl, Nat.le_of_ble_eq_true rfl⟩ ⟨Nat.le_of_ble_eq_true rfl, Nat.le_of_ble_eq_true rfl⟩ dX11_finest_15 ?_
    refine zr_if_eq C 43 dX11_finest_18 (by decide) (fun hc4 => ?_) (fun hc4 => ?_)
    · have hJ := zif hc4 hJ
      refine zr_iconst C dX11_finest_43 (v := (-1 : Int32)) (by decide) ?_
      exact zr_iret C hret (Prod.mk.inj (zs_e hJ)).1 rfl (congrArg (zen G) (Prod.mk.inj (zs_e hJ)).2) dX11_finest_44
    · have hJ := zif' hc4 hJ
      refine zr_iload_n C 3 dX11_finest_21 rfl ?_
      refine zr_i2l C dX11_finest_22 ?_
      refine zr_iload_n C 2 dX11_finest_23 rfl ?_
      refine zr_i2l C dX11_finest_24 ?_
      refine zr_ldc2 C dX11_finest_25 zm_35_3 ?_
      obtain ⟨r5, hr5, hJ⟩ := zb_e hJ
      refine zr_callSI C (M_X11_in G l hr5) zin_X11_in zm_9_22 rfl rfl (Nat.le_of_ble_eq_true rfl) ⟨Nat.le_of_ble_eq_true rfl, Nat.le_of_ble_eq_true rfl⟩ ⟨Nat.le_of_ble_eq_true rfl, Nat.le_of_ble_eq_true rfl⟩ dX11_finest_28 ?_
      refine zr_if_eq C 43 dX11_finest_31 (by decide) (fun hc6 => ?_) (fun hc6 => ?_)
      · have hJ := zif hc6 hJ
        refine zr_iconst C dX11_finest_43 (v := (-1 : Int32)) (by decide) ?_
        exact zr_iret C hret (Prod.mk.inj (zs_e hJ)).1 rfl (congrArg (zen G) (Prod.mk.inj (zs_e hJ)).2) dX11_finest_44
      · have hJ := zif' hc6 hJ
        refine zr_iload_n C 3 dX11_finest_34 rfl ?_
        refine zr_iload_n C 2 dX11_finest_35 rfl ?_
        refine zr_isub C dX11_finest_36 ?_
        refine zr_sipush C dX11_finest_37 (v := (199 : Int32)) (by decide) ?_
        refine zr_icmp_le C 45 dX11_finest_40 (by decide) (fun hc7 => ?_) (fun hc7 => ?_)
        · have hJ := zif hc7 hJ
          refine zr_bipush C dX11_finest_45 (v := (-4 : Int32)) (by decide) ?_
          refine zr_istore C [(5, .int (-4 : Int32)), (0, .ref (G.1 + 105)), (1, .int a1), (2, .int a2), (3, .int a3), (4, .int a4)] dX11_finest_47 (by decide) rfl ?_
          refine zr_lconst C dX11_finest_49 (v := (0 : Int64)) (by decide) ?_
          refine zr_lstore C [(6, .long (0 : Int64)), (5, .int (-4 : Int32)), (0, .ref (G.1 + 105)), (1, .int a1), (2, .int a2), (3, .int a3), (4, .int a4)] dX11_finest_50 (by decide) rfl ?_
          refine zr_lconst C dX11_finest_52 (v := (1 : Int64)) (by decide) ?_
          refine zr_lstore C [(8, .long (1 : Int64)), (6, .long (0 : Int64)), (5, .int (-4 : Int32)), (0, .ref (G.1 + 105)), (1, .int a1), (2, .int a2), (3, .int a3), (4, .int a4)] dX11_finest_53 (by decide) rfl ?_
          refine zr_aload_n C 3 dX11_finest_55 rfl ?_
          refine zr_iload_n C 4 dX11_finest_56 rfl ?_
          obtain ⟨σ9, hr8, hJ⟩ := zb_e hJ
          refine zr_callVV C 105 (zk_lt zk_105 (by decide)) (zen_obj zk_105) (rfl : zcl[11]? = some (RX11, TX11, 56)) (M_X11_findRounds G l hr8) zin_X11_findRounds zm_33_18 rfl rfl (Nat.le_of_ble_eq_true rfl) ⟨Nat.le_of_ble_eq_true rfl, Nat.le_of_ble_eq_true rfl⟩ ⟨Nat.le_of_ble_eq_true rfl, Nat.le_of_ble_eq_true rfl⟩ dX11_finest_57 ?_
          refine zr_iload_n C 5 dX11_finest_60 rfl ?_
          refine zr_istore C [(10, .int a2), (8, .long (1 : Int64)), (6, .long (0 : Int64)), (5, .int (-4 : Int32)), (0, .ref (G.1 + 105)), (1, .int a1), (2, .int a2), (3, .int a3), (4, .int a4)] dX11_finest_61 (by decide) rfl ?_
          have hl63 : ∀ (n : Nat) (w5_63 : Int32) (w6_63 : Int64) (w8_63 : Int64) (w10_63 : Int32) (σ_63 : zS), L_X11_finest_63 a3 a4 n w5_63 w6_63 w8_63 w10_63 σ_63 = some (r, σ') → zU G 14 p l e (zrm 3 75) s m args below meth c (MQ below (va_Qi (fun x (_ : Unit) => x = r) (fun _ t => zok G 137 (zen G σ') t) (zA G)) args s 0 0 (zA G)) σ_63 63 [(0, .ref (G.1 + 105)), (3, .int a3), (4, .int a4), (5, .int w5_63), (6, .long w6_63), (8, .long w8_63), (10, .int w10_63)] [] := by
            intro n
            induction n with
            | zero =>
              intro w5_63 w6_63 w8_63 w10_63 σ_63 hJ
              rw [L_X11_finest_63] at hJ
              cases hJ
            | succ n ih =>
              intro w5_63 w6_63 w8_63 w10_63 σ_63 hJ
              rw [L_X11_finest_63] at hJ
              obtain ⟨r_63, hr_63, hJ⟩ := zlet_e hJ
              have ih63 : ∀ (w5_63 : Int32) (w6_63 : Int64) (w8_63 : Int64) (w10_63 : Int32) (σ_63 : zS), r_63 w5_63 w6_63 w8_63 w10_63 σ_63 = some (r, σ') → zU G 14 p l e (zrm 3 75) s m args below meth c (MQ below (va_Qi (fun x (_ : Unit) => x = r) (fun _ t => zok G 137 (zen G σ') t) (zA G)) args s 0 0 (zA G)) σ_63 63 [(0, .ref (G.1 + 105)), (3, .int a3), (4, .int a4), (5, .int w5_63), (6, .long w6_63), (8, .long w8_63), (10, .int w10_63)] [] := by
                rw [hr_63]
                exact ih
              refine zr_iload C 6 dX11_finest_63 rfl ?_
              refine zr_iload_n C 1 dX11_finest_65 rfl ?_
              refine zr_icmp_gt C 203 dX11_finest_66 (by decide) (fun hc10 => ?_) (fun hc10 => ?_)
              · have hJ := zif hc10 hJ
                refine zr_iload C 3 dX11_finest_203 rfl ?_
                exact zr_iret C hret (Prod.mk.inj (zs_e hJ)).1 rfl (congrArg (zen G) (Prod.mk.inj (zs_e hJ)).2) dX11_finest_205
              · have hJ := zif' hc10 hJ
                refine zr_aload_n C 0 dX11_finest_69 rfl ?_
                refine zg_11_41 C 105 zk_105 zm_33_17 dX11_finest_70 ?_
                refine zr_bipush C dX11_finest_73 (v := (-4 : Int32)) (by decide) ?_
                refine zr_icmp_eq C 203 dX11_finest_75 (by decide) (fun hc11 => ?_) (fun hc11 => ?_)
                · have hJ := zif hc11 hJ
                  refine zr_iload C 3 dX11_finest_203 rfl ?_
                  exact zr_iret C hret (Prod.mk.inj (zs_e hJ)).1 rfl (congrArg (zen G) (Prod.mk.inj (zs_e hJ)).2) dX11_finest_205
                · have hJ := zif' hc11 hJ
                  refine zr_aload_n C 0 dX11_finest_78 rfl ?_
                  refine zr_iload C 6 dX11_finest_79 rfl ?_
                  refine zr_iload C 2 dX11_finest_81 rfl ?_
                  obtain ⟨σ13, hr12, hJ⟩ := zb_e hJ
                  refine zr_callVV C 105 (zk_lt zk_105 (by decide)) (zen_obj zk_105) (rfl : zcl[11]? = some (RX11, TX11, 56)) (M_X11_countsIn G l hr12) zin_X11_countsIn zm_35_13 rfl rfl (Nat.le_of_ble_eq_true rfl) ⟨Nat.le_of_ble_eq_true rfl, Nat.le_of_ble_eq_true rfl⟩ ⟨Nat.le_of_ble_eq_true rfl, Nat.le_of_ble_eq_true rfl⟩ dX11_finest_83 ?_
                  refine zr_aload_n C 0 dX11_finest_86 rfl ?_
                  refine zg_11_43 C 105 zk_105 zm_35_4 dX11_finest_87 ?_
                  refine zr_aload_n C 0 dX11_finest_90 rfl ?_
                  refine zg_11_10 C 105 zk_105 zm_19_12 dX11_finest_91 ?_
                  refine zr_i2l C dX11_finest_94 ?_
                  refine zr_lmul C dX11_finest_95 ?_
                  refine zr_aload_n C 0 dX11_finest_96 rfl ?_
                  refine zr_iload C 2 dX11_finest_97 rfl ?_
                  obtain ⟨r14, hr14, hJ⟩ := zb_e hJ
                  refine zr_callVI C 105 (zk_lt zk_105 (by decide)) (zen_obj zk_105) (rfl : zcl[11]? = some (RX11, TX11, 56)) (M_X11_total G l hr14) zin_X11_total zm_22_23 rfl rfl (Nat.le_of_ble_eq_true rfl) ⟨Nat.le_of_ble_eq_true rfl, Nat.le_of_ble_eq_true rfl⟩ ⟨Nat.le_of_ble_eq_true rfl, Nat.le_of_ble_eq_true rfl⟩ dX11_finest_99 ?_
                  refine zr_i2l C dX11_finest_102 ?_
                  refine zr_aload_n C 0 dX11_finest_103 rfl ?_
                  refine zg_11_44 C 105 zk_105 zm_35_5 dX11_finest_104 ?_
                  refine zr_lmul C dX11_finest_107 ?_
                  refine zr_lsub C dX11_finest_108 ?_
                  obtain ⟨r15, hr15, hJ⟩ := zb_e hJ
                  refine zr_callSL C (M_X11_size G l hr15) zin_X11_size zm_24_6 rfl rfl (Nat.le_of_ble_eq_true rfl) ⟨Nat.le_of_ble_eq_true rfl, Nat.le_of_ble_eq_true rfl⟩ ⟨Nat.le_of_ble_eq_true rfl, Nat.le_of_ble_eq_true rfl⟩ dX11_finest_109 ?_
                  refine zr_lstore C [(11, .long r15), (0, .ref (G.1 + 105)), (3, .int a3), (4, .int a4), (5, .int w5_63), (6, .long w6_63), (8, .long w8_63), (10, .int w10_63)] dX11_finest_112 (by decide) rfl ?_
                  refine zr_aload_n C 1 dX11_finest_114 rfl ?_
                  refine zg_11_44 C 105 zk_105 zm_35_5 dX11_finest_115 ?_
                  refine zr_lconst C dX11_finest_118 (v := (0 : Int64)) (by decide) ?_
                  refine zr_lcmp C dX11_finest_119 ?_
                  obtain ⟨v16, hv16, hJ⟩ := zlet_e hJ
                  have hf27 : zU G 14 p l e (zrm 3 75) s m args below meth c (MQ below (va_Qi (fun x (_ : Unit) => x = r) (fun _ t => zok G 137 (zen G σ') t) (zA G)) args s 0 0 (zA G)) σ13 151 [(0, .ref (G.1 + 105)), (3, .int a3), (4, .int a4), (5, .int w5_63), (6, .long w6_63), (8, .long w8_63), (10, .int w10_63), (11, .long r15)] [.int v16] := by
                    refine zr_istore C [(13, .int v16), (0, .ref (G.1 + 105)), (3, .int a3), (4, .int a4), (5, .int w5_63), (6, .long w6_63), (8, .long w8_63), (10, .int w10_63), (11, .long r15)] dX11_finest_151 (by decide) rfl ?_
                    refine zr_iload C 0 dX11_finest_153 rfl ?_
                    obtain ⟨v17, hv17, hJ⟩ := zlet_e hJ
                    have hf25 : zU G 14 p l e (zrm 3 75) s m args below meth c (MQ below (va_Qi (fun x (_ : Unit) => x = r) (fun _ t => zok G 137 (zen G σ') t) (zA G)) args s 0 0 (zA G)) σ13 165 [(0, .ref (G.1 + 105)), (3, .int a3), (4, .int a4), (6, .long w6_63), (8, .long w8_63), (10, .int w10_63), (11, .long r15), (13, .int v16)] [.int v17] := by
                      refine zr_istore C [(5, .int v17), (0, .ref (G.1 + 105)), (3, .int a3), (4, .int a4), (6, .long w6_63), (8, .long w8_63), (10, .int w10_63), (11, .long r15), (13, .int v16)] dX11_finest_165 (by decide) rfl ?_
                      refine zr_iload C 8 dX11_finest_167 rfl ?_
                      obtain ⟨v18, hv18, hJ⟩ := zlet_e hJ
                      have hf23 : zU G 14 p l e (zrm 3 75) s m args below meth c (MQ below (va_Qi (fun x (_ : Unit) => x = r) (fun _ t => zok G 137 (zen G σ') t) (zA G)) args s 0 0 (zA G)) σ13 179 [(0, .ref (G.1 + 105)), (3, .int a3), (4, .int a4), (5, .int v17), (8, .long w8_63), (10, .int w10_63), (13, .int v16)] [.long v18] := by
                        refine zr_lstore C [(6, .long v18), (0, .ref (G.1 + 105)), (3, .int a3), (4, .int a4), (5, .int v17), (8, .long w8_63), (10, .int w10_63), (13, .int v16)] dX11_finest_179 (by decide) rfl ?_
                        refine zr_iload C 7 dX11_finest_181 rfl ?_
                        obtain ⟨v19, hv19, hJ⟩ := zlet_e hJ
                        have hf21 : zU G 14 p l e (zrm 3 75) s m args below meth c (MQ below (va_Qi (fun x (_ : Unit) => x = r) (fun _ t => zok G 137 (zen G σ') t) (zA G)) args s 0 0 (zA G)) σ13 195 [(0, .ref (G.1 + 105)), (3, .int a3), (4, .int a4), (5, .int v17), (6, .long v18), (10, .int w10_63)] [.long v19] := by
                          refine zr_lstore C [(8, .long v19), (0, .ref (G.1 + 105)), (3, .int a3), (4, .int a4), (5, .int v17), (6, .long v18), (10, .int w10_63)] dX11_finest_195 (by decide) rfl ?_
                          obtain ⟨v20, hv20, hJ⟩ := zlet_e hJ
                          refine zr_iinc C v20 6 [(10, .int v20), (8, .long v19), (0, .ref (G.1 + 105)), (3, .int a3), (4, .int a4), (5, .int v17), (6, .long v18)] dX11_finest_197 rfl (hv20.trans (zinc (by decide))) (by decide) rfl ?_
                          refine zr_goto C 63 dX11_finest_200 (by decide) ?_
                          refine zr_sub [2, 3, 4, 5, 6, 1, 0] [(0, .ref (G.1 + 105)), (3, .int a3), (4, .int a4), (5, .int v17), (6, .long v18), (8, .long v19), (10, .int v20)] rfl ?_
                          exact ih63 _ _ _ _ _ hJ
                        refine zr_if_eq C 193 dX11_finest_183 (by decide) (fun hc22 => ?_) (fun hc22 => ?_)
                        · have hv19 := hv19.trans (if_pos hc22)
                          refine zr_lload C 5 dX11_finest_193 rfl ?_
                          refine zr_sub [1, 2, 3, 4, 0, 6] [(0, .ref (G.1 + 105)), (3, .int a3), (4, .int a4), (5, .int v17), (6, .long v18), (10, .int w10_63)] rfl ?_
                          rw [hv19] at hf21
                          exact hf21
                        · have hv19 := hv19.trans (if_neg hc22)
                          refine zr_aload_n C 1 dX11_finest_186 rfl ?_
                          refine zg_11_44 C 105 zk_105 zm_35_5 dX11_finest_187 ?_
                          refine zr_goto C 195 dX11_finest_190 (by decide) ?_
                          refine zr_sub [1, 2, 3, 4, 0, 6] [(0, .ref (G.1 + 105)), (3, .int a3), (4, .int a4), (5, .int v17), (6, .long v18), (10, .int w10_63)] rfl ?_
                          rw [hv19] at hf21
                          exact hf21
                      refine zr_if_eq C 177 dX11_finest_169 (by decide) (fun hc24 => ?_) (fun hc24 => ?_)
                      · have hv18 := hv18.trans (if_pos hc24)
                        refine zr_lload C 4 dX11_finest_177 rfl ?_
                        refine zr_sub [1, 2, 3, 0, 5, 6, 8] [(0, .ref (G.1 + 105)), (3, .int a3), (4, .int a4), (5, .int v17), (8, .long w8_63), (10, .int w10_63), (13, .int v16)] rfl ?_
                        rw [hv18] at hf23
                        exact hf23
                      · have hv18 := hv18.trans (if_neg hc24)
                        refine zr_lload C 7 dX11_finest_172 rfl ?_
                        refine zr_goto C 179 dX11_finest_174 (by decide) ?_
                        refine zr_sub [1, 2, 3, 0, 5, 6, 8] [(0, .ref (G.1 + 105)), (3, .int a3), (4, .int a4), (5, .int v17), (8, .long w8_63), (10, .int w10_63), (13, .int v16)] rfl ?_
                        rw [hv18] at hf23
                        exact hf23
                    refine zr_if_eq C 163 dX11_finest_155 (by decide) (fun hc26 => ?_) (fun hc26 => ?_)
                    · have hv17 := hv17.trans (if_pos hc26)
                      refine zr_iload C 4 dX11_finest_163 rfl ?_
                      refine zr_sub [1, 2, 3, 5, 6, 7, 8, 0] [(0, .ref (G.1 + 105)), (3, .int a3), (4, .int a4), (6, .long w6_63), (8, .long w8_63), (10, .int w10_63), (11, .long r15), (13, .int v16)] rfl ?_
                      rw [hv17] at hf25
                      exact hf25
                    · have hv17 := hv17.trans (if_neg hc26)
                      refine zr_iload C 7 dX11_finest_158 rfl ?_
                      refine zr_goto C 165 dX11_finest_160 (by decide) ?_
                      refine zr_sub [1, 2, 3, 5, 6, 7, 8, 0] [(0, .ref (G.1 + 105)), (3, .int a3), (4, .int a4), (6, .long w6_63), (8, .long w8_63), (10, .int w10_63), (11, .long r15), (13, .int v16)] rfl ?_
                      rw [hv17] at hf25
                      exact hf25
                  refine zr_if_le C 150 dX11_finest_120 (by decide) (fun hc28 => ?_) (fun hc28 => ?_)
                  · have hv16 := hv16.trans (if_pos hc28)
                    refine zr_iconst C dX11_finest_150 (v := (0 : Int32)) (by decide) ?_
                    refine zr_sub [1, 2, 3, 4, 5, 6, 7, 0] [(0, .ref (G.1 + 105)), (3, .int a3), (4, .int a4), (5, .int w5_63), (6, .long w6_63), (8, .long w8_63), (10, .int w10_63), (11, .long r15)] rfl ?_
                    rw [hv16] at hf27
                    exact hf27
                  · have hv16 := hv16.trans (if_neg hc28)
                    refine zr_iload C 4 dX11_finest_123 rfl ?_
                    refine zr_bipush C dX11_finest_125 (v := (-4 : Int32)) (by decide) ?_
                    refine zr_icmp_eq C 146 dX11_finest_127 (by decide) (fun hc29 => ?_) (fun hc29 => ?_)
                    · have hv16 := hv16.trans (if_pos hc29)
                      refine zr_iconst C dX11_finest_146 (v := (1 : Int32)) (by decide) ?_
                      refine zr_goto C 151 dX11_finest_147 (by decide) ?_
                      refine zr_sub [1, 2, 3, 4, 5, 6, 7, 0] [(0, .ref (G.1 + 105)), (3, .int a3), (4, .int a4), (5, .int w5_63), (6, .long w6_63), (8, .long w8_63), (10, .int w10_63), (11, .long r15)] rfl ?_
                      rw [hv16] at hf27
                      exact hf27
                    · have hv16 := hv16.trans (if_neg hc29)
                      refine zr_lload C 0 dX11_finest_130 rfl ?_
                      refine zr_lload C 6 dX11_finest_132 rfl ?_
                      refine zr_lmul C dX11_finest_134 ?_
                      refine zr_lload C 5 dX11_finest_135 rfl ?_
                      refine zr_aload_n C 1 dX11_finest_137 rfl ?_
                      refine zg_11_44 C 105 zk_105 zm_35_5 dX11_finest_138 ?_
                      refine zr_lmul C dX11_finest_141 ?_
                      refine zr_lcmp C dX11_finest_142 ?_
                      refine zr_if_ge C 150 dX11_finest_143 (by decide) (fun hc30 => ?_) (fun hc30 => ?_)
                      · have hv16 := hv16.trans (if_pos hc30)
                        refine zr_iconst C dX11_finest_150 (v := (0 : Int32)) (by decide) ?_
                        refine zr_sub [1, 2, 3, 4, 5, 6, 7, 0] [(0, .ref (G.1 + 105)), (3, .int a3), (4, .int a4), (5, .int w5_63), (6, .long w6_63), (8, .long w8_63), (10, .int w10_63), (11, .long r15)] rfl ?_
                        rw [hv16] at hf27
                        exact hf27
                      · have hv16 := hv16.trans (if_neg hc30)
                        refine zr_iconst C dX11_finest_146 (v := (1 : Int32)) (by decide) ?_
                        refine zr_goto C 151 dX11_finest_147 (by decide) ?_
                        refine zr_sub [1, 2, 3, 4, 5, 6, 7, 0] [(0, .ref (G.1 + 105)), (3, .int a3), (4, .int a4), (5, .int w5_63), (6, .long w6_63), (8, .long w8_63), (10, .int w10_63), (11, .long r15)] rfl ?_
                        rw [hv16] at hf27
                        exact hf27
          refine zr_sub [4, 7, 8, 3, 2, 1, 0] [(0, .ref (G.1 + 105)), (3, .int a3), (4, .int a4), (5, .int (-4 : Int32)), (6, .long (0 : Int64)), (8, .long (1 : Int64)), (10, .int a2)] rfl ?_
          exact hl63 _ _ _ _ _ _ hJ
        · have hJ := zif' hc7 hJ
          refine zr_iconst C dX11_finest_43 (v := (-1 : Int32)) (by decide) ?_
          exact zr_iret C hret (Prod.mk.inj (zs_e hJ)).1 rfl (congrArg (zen G) (Prod.mk.inj (zs_e hJ)).2) dX11_finest_44
theorem dX11_fits_0 : decode cX11_fits 0 = .ok (.iconst 0, 1) := by decide +kernel
theorem dX11_fits_1 : decode cX11_fits 1 = .ok (.istore 4, 2) := by decide +kernel
theorem dX11_fits_3 : decode cX11_fits 3 = .ok (.iconst 0, 1) := by decide +kernel
theorem dX11_fits_4 : decode cX11_fits 4 = .ok (.istore 5, 2) := by decide +kernel
theorem dX11_fits_6 : decode cX11_fits 6 = .ok (.iload 5, 2) := by decide +kernel
theorem dX11_fits_8 : decode cX11_fits 8 = .ok (.bipush 8, 2) := by decide +kernel
theorem dX11_fits_10 : decode cX11_fits 10 = .ok (.if_icmp .ge 34, 3) := by decide +kernel
theorem dX11_fits_13 : decode cX11_fits 13 = .ok (.iload 4, 2) := by decide +kernel
theorem dX11_fits_15 : decode cX11_fits 15 = .ok (.iload_n 3, 1) := by decide +kernel
theorem dX11_fits_16 : decode cX11_fits 16 = .ok (.iload 5, 2) := by decide +kernel
theorem dX11_fits_18 : decode cX11_fits 18 = .ok (.ishr, 1) := by decide +kernel
theorem dX11_fits_19 : decode cX11_fits 19 = .ok (.iconst 1, 1) := by decide +kernel
theorem dX11_fits_20 : decode cX11_fits 20 = .ok (.iand, 1) := by decide +kernel
theorem dX11_fits_21 : decode cX11_fits 21 = .ok (.iconst 1, 1) := by decide +kernel
theorem dX11_fits_22 : decode cX11_fits 22 = .ok (.if_icmp .ne 12, 3) := by decide +kernel
theorem dX11_fits_25 : decode cX11_fits 25 = .ok (.aload_n 0, 1) := by decide +kernel
theorem dX11_fits_26 : decode cX11_fits 26 = .ok (.iload 5, 2) := by decide +kernel
theorem dX11_fits_28 : decode cX11_fits 28 = .ok (.invokevirtual 257, 3) := by decide +kernel
theorem dX11_fits_31 : decode cX11_fits 31 = .ok (.goto 4, 3) := by decide +kernel
theorem dX11_fits_34 : decode cX11_fits 34 = .ok (.iconst 0, 1) := by decide +kernel
theorem dX11_fits_35 : decode cX11_fits 35 = .ok (.iadd, 1) := by decide +kernel
theorem dX11_fits_36 : decode cX11_fits 36 = .ok (.istore 4, 2) := by decide +kernel
theorem dX11_fits_38 : decode cX11_fits 38 = .ok (.iinc 5 1, 3) := by decide +kernel
theorem dX11_fits_41 : decode cX11_fits 41 = .ok (.goto (-35), 3) := by decide +kernel
theorem dX11_fits_44 : decode cX11_fits 44 = .ok (.iconst 1, 1) := by decide +kernel
theorem dX11_fits_45 : decode cX11_fits 45 = .ok (.istore 5, 2) := by decide +kernel
theorem dX11_fits_47 : decode cX11_fits 47 = .ok (.iconst 0, 1) := by decide +kernel
theorem dX11_fits_48 : decode cX11_fits 48 = .ok (.istore 6, 2) := by decide +kernel
theorem dX11_fits_50 : decode cX11_fits 50 = .ok (.iload 6, 2) := by decide +kernel
theorem dX11_fits_52 : decode cX11_fits 52 = .ok (.aload_n 0, 1) := by decide +kernel
theorem dX11_fits_53 : decode cX11_fits 53 = .ok (.getfield 222, 3) := by decide +kernel
theorem dX11_fits_56 : decode cX11_fits 56 = .ok (.if_icmp .ge 55, 3) := by decide +kernel
theorem dX11_fits_59 : decode cX11_fits 59 = .ok (.iload 5, 2) := by decide +kernel
theorem dX11_fits_61 : decode cX11_fits 61 = .ok (.ifCond .eq 41, 3) := by decide +kernel
theorem dX11_fits_64 : decode cX11_fits 64 = .ok (.aload_n 0, 1) := by decide +kernel
theorem dX11_fits_65 : decode cX11_fits 65 = .ok (.getfield 90, 3) := by decide +kernel
theorem dX11_fits_68 : decode cX11_fits 68 = .ok (.iload 6, 2) := by decide +kernel
theorem dX11_fits_70 : decode cX11_fits 70 = .ok (.iaload, 1) := by decide +kernel
theorem dX11_fits_71 : decode cX11_fits 71 = .ok (.iload_n 1, 1) := by decide +kernel
theorem dX11_fits_72 : decode cX11_fits 72 = .ok (.if_icmp .ne 26, 3) := by decide +kernel
theorem dX11_fits_75 : decode cX11_fits 75 = .ok (.aload_n 0, 1) := by decide +kernel
theorem dX11_fits_76 : decode cX11_fits 76 = .ok (.getfield 93, 3) := by decide +kernel
theorem dX11_fits_79 : decode cX11_fits 79 = .ok (.iload 6, 2) := by decide +kernel
theorem dX11_fits_81 : decode cX11_fits 81 = .ok (.iaload, 1) := by decide +kernel
theorem dX11_fits_82 : decode cX11_fits 82 = .ok (.iload_n 2, 1) := by decide +kernel
theorem dX11_fits_83 : decode cX11_fits 83 = .ok (.if_icmp .ne 15, 3) := by decide +kernel
theorem dX11_fits_86 : decode cX11_fits 86 = .ok (.aload_n 0, 1) := by decide +kernel
theorem dX11_fits_87 : decode cX11_fits 87 = .ok (.getfield 96, 3) := by decide +kernel
theorem dX11_fits_90 : decode cX11_fits 90 = .ok (.iload 6, 2) := by decide +kernel
theorem dX11_fits_92 : decode cX11_fits 92 = .ok (.iaload, 1) := by decide +kernel
theorem dX11_fits_93 : decode cX11_fits 93 = .ok (.iload 4, 2) := by decide +kernel
theorem dX11_fits_95 : decode cX11_fits 95 = .ok (.if_icmp .ne 7, 3) := by decide +kernel
theorem dX11_fits_98 : decode cX11_fits 98 = .ok (.iconst 1, 1) := by decide +kernel
theorem dX11_fits_99 : decode cX11_fits 99 = .ok (.goto 4, 3) := by decide +kernel
theorem dX11_fits_102 : decode cX11_fits 102 = .ok (.iconst 0, 1) := by decide +kernel
theorem dX11_fits_103 : decode cX11_fits 103 = .ok (.istore 5, 2) := by decide +kernel
theorem dX11_fits_105 : decode cX11_fits 105 = .ok (.iinc 6 1, 3) := by decide +kernel
theorem dX11_fits_108 : decode cX11_fits 108 = .ok (.goto (-58), 3) := by decide +kernel
theorem dX11_fits_111 : decode cX11_fits 111 = .ok (.iload 5, 2) := by decide +kernel
theorem dX11_fits_113 : decode cX11_fits 113 = .ok (.ireturn, 1) := by decide +kernel
set_option maxRecDepth 100000 in
set_option maxHeartbeats 4000000 in
theorem M_X11_fits (G : zG) (l : Launch) {a1 : Int32} {a2 : Int32} {a3 : Int32} {σ : zS} {r : Int32} (hJ : J_X11_fits a1 a2 a3 σ = some r) : zMI G l yX11_fits cX11_fits 7 (some .boolean) (zrm 2 45) [.ref (G.1 + 105), .int a1, .int a2, .int a3] 137 (zen G σ) r 137 (zen G σ) := by
  unfold J_X11_fits at hJ
  refine zentI (by decide +kernel) (Nat.le_of_ble_eq_true rfl) ?_
  intro p e s m args below meth c C hret
  refine zr_sub [0, 1, 2, 3] [(0, .ref (G.1 + 105)), (1, .int a1), (2, .int a2), (3, .int a3)] rfl ?_
  refine zr_iconst C dX11_fits_0 (v := (0 : Int32)) (by decide) ?_
  refine zr_istore C [(4, .int (0 : Int32)), (0, .ref (G.1 + 105)), (1, .int a1), (2, .int a2), (3, .int a3)] dX11_fits_1 (by decide) rfl ?_
  refine zr_iconst C dX11_fits_3 (v := (0 : Int32)) (by decide) ?_
  refine zr_istore C [(5, .int (0 : Int32)), (4, .int (0 : Int32)), (0, .ref (G.1 + 105)), (1, .int a1), (2, .int a2), (3, .int a3)] dX11_fits_4 (by decide) rfl ?_
  obtain ⟨k44, hk44, hJ⟩ := zlet_e hJ
  have hj44 : ∀ (w4_44 : Int32), k44 w4_44 = some r → zU G 7 p l e (zrm 2 45) s m args below meth c (MQ below (va_Qi (fun x (_ : Unit) => x = r) (fun _ t => zok G 137 (zen G σ) t) (zA G)) args s 0 0 (zA G)) σ 44 [(0, .ref (G.1 + 105)), (1, .int a1), (2, .int a2), (4, .int w4_44)] [] := by
    intro w4_44 hJ
    rw [hk44] at hJ
    unfold D_X11_fits_44 at hJ
    refine zr_iconst C dX11_fits_44 (v := (1 : Int32)) (by decide) ?_
    refine zr_istore C [(5, .int (1 : Int32)), (0, .ref (G.1 + 105)), (1, .int a1), (2, .int a2), (4, .int w4_44)] dX11_fits_45 (by decide) rfl ?_
    refine zr_iconst C dX11_fits_47 (v := (0 : Int32)) (by decide) ?_
    refine zr_istore C [(6, .int (0 : Int32)), (5, .int (1 : Int32)), (0, .ref (G.1 + 105)), (1, .int a1), (2, .int a2), (4, .int w4_44)] dX11_fits_48 (by decide) rfl ?_
    have hl50 : ∀ (n : Nat) (w5_50 : Int32) (w6_50 : Int32), L_X11_fits_50 a1 a2 σ w4_44 n w5_50 w6_50 = some r → zU G 7 p l e (zrm 2 45) s m args below meth c (MQ below (va_Qi (fun x (_ : Unit) => x = r) (fun _ t => zok G 137 (zen G σ) t) (zA G)) args s 0 0 (zA G)) σ 50 [(0, .ref (G.1 + 105)), (1, .int a1), (2, .int a2), (4, .int w4_44), (5, .int w5_50), (6, .int w6_50)] [] := by
      intro n
      induction n with
      | zero =>
        intro w5_50 w6_50 hJ
        rw [L_X11_fits_50] at hJ
        cases hJ
      | succ n ih =>
        intro w5_50 w6_50 hJ
        rw [L_X11_fits_50] at hJ
        obtain ⟨r_50, hr_50, hJ⟩ := zlet_e hJ
        have ih50 : ∀ (w5_50 : Int32) (w6_50 : Int32), r_50 w5_50 w6_50 = some r → zU G 7 p l e (zrm 2 45) s m args below meth c (MQ below (va_Qi (fun x (_ : Unit) => x = r) (fun _ t => zok G 137 (zen G σ) t) (zA G)) args s 0 0 (zA G)) σ 50 [(0, .ref (G.1 + 105)), (1, .int a1), (2, .int a2), (4, .int w4_44), (5, .int w5_50), (6, .int w6_50)] [] := by
          rw [hr_50]
          exact ih
        refine zr_iload C 5 dX11_fits_50 rfl ?_
        refine zr_aload_n C 0 dX11_fits_52 rfl ?_
        refine zg_11_49 C 105 zk_105 zm_19_13 dX11_fits_53 ?_
        refine zr_icmp_ge C 111 dX11_fits_56 (by decide) (fun hc1 => ?_) (fun hc1 => ?_)
        · have hJ := zif hc1 hJ
          refine zr_iload C 4 dX11_fits_111 rfl ?_
          obtain ⟨hg2, hJ⟩ := zg_e hJ
          exact zr_zret C hret (zs_e hJ) (zbl_n hg2) rfl rfl dX11_fits_113
        · have hJ := zif' hc1 hJ
          refine zr_iload C 4 dX11_fits_59 rfl ?_
          refine zr_if_eq C 102 dX11_fits_61 (by decide) (fun hc3 => ?_) (fun hc3 => ?_)
          · have hJ := zif hc3 hJ
            refine zr_iconst C dX11_fits_102 (v := (0 : Int32)) (by decide) ?_
            refine zr_istore C [(5, .int (0 : Int32)), (0, .ref (G.1 + 105)), (1, .int a1), (2, .int a2), (4, .int w4_44), (6, .int w6_50)] dX11_fits_103 (by decide) rfl ?_
            obtain ⟨v4, hv4, hJ⟩ := zlet_e hJ
            refine zr_iinc C v4 5 [(6, .int v4), (5, .int (0 : Int32)), (0, .ref (G.1 + 105)), (1, .int a1), (2, .int a2), (4, .int w4_44)] dX11_fits_105 rfl (hv4.trans (zinc (by decide))) (by decide) rfl ?_
            refine zr_goto C 50 dX11_fits_108 (by decide) ?_
            refine zr_sub [2, 3, 4, 5, 1, 0] [(0, .ref (G.1 + 105)), (1, .int a1), (2, .int a2), (4, .int w4_44), (5, .int (0 : Int32)), (6, .int v4)] rfl ?_
            exact ih50 _ _ hJ
          · have hJ := zif' hc3 hJ
            refine zr_aload_n C 0 dX11_fits_64 rfl ?_
            refine zg_11_50 C 105 zk_105 zm_8_13 dX11_fits_65 ?_
            refine zr_iload C 5 dX11_fits_68 rfl ?_
            obtain ⟨hg5, hJ⟩ := zg_e hJ
            refine zu_iald C 131 zk_131 hg5 dX11_fits_70 ?_
            refine zr_iload_n C 1 dX11_fits_71 rfl ?_
            obtain ⟨k98, hk98, hJ⟩ := zlet_e hJ
            have hj98 : k98 = some r → zU G 7 p l e (zrm 2 45) s m args below meth c (MQ below (va_Qi (fun x (_ : Unit) => x = r) (fun _ t => zok G 137 (zen G σ) t) (zA G)) args s 0 0 (zA G)) σ 98 [(0, .ref (G.1 + 105)), (1, .int a1), (2, .int a2), (4, .int w4_44), (6, .int w6_50)] [] := by
              intro hJ
              rw [hk98] at hJ
              unfold D_X11_fits_98 at hJ
              refine zr_iconst C dX11_fits_98 (v := (1 : Int32)) (by decide) ?_
              refine zr_goto C 103 dX11_fits_99 (by decide) ?_
              refine zr_istore C [(5, .int (1 : Int32)), (0, .ref (G.1 + 105)), (1, .int a1), (2, .int a2), (4, .int w4_44), (6, .int w6_50)] dX11_fits_103 (by decide) rfl ?_
              obtain ⟨v6, hv6, hJ⟩ := zlet_e hJ
              refine zr_iinc C v6 5 [(6, .int v6), (5, .int (1 : Int32)), (0, .ref (G.1 + 105)), (1, .int a1), (2, .int a2), (4, .int w4_44)] dX11_fits_105 rfl (hv6.trans (zinc (by decide))) (by decide) rfl ?_
              refine zr_goto C 50 dX11_fits_108 (by decide) ?_
              refine zr_sub [2, 3, 4, 5, 1, 0] [(0, .ref (G.1 + 105)), (1, .int a1), (2, .int a2), (4, .int w4_44), (5, .int (1 : Int32)), (6, .int v6)] rfl ?_
              exact ih50 _ _ hJ
            refine zr_icmp_ne C 98 dX11_fits_72 (by decide) (fun hc7 => ?_) (fun hc7 => ?_)
            · have hJ := zif' hc7 hJ
              refine zr_sub [0, 1, 2, 3, 5] [(0, .ref (G.1 + 105)), (1, .int a1), (2, .int a2), (4, .int w4_44), (6, .int w6_50)] rfl ?_
              exact hj98 hJ
            · have hJ := zif hc7 hJ
              refine zr_aload_n C 0 dX11_fits_75 rfl ?_
              refine zg_11_51 C 105 zk_105 zm_8_14 dX11_fits_76 ?_
              refine zr_iload C 5 dX11_fits_79 rfl ?_
              obtain ⟨hg8, hJ⟩ := zg_e hJ
              refine zu_iald C 132 zk_132 hg8 dX11_fits_81 ?_
              refine zr_iload_n C 2 dX11_fits_82 rfl ?_
              refine zr_icmp_ne C 98 dX11_fits_83 (by decide) (fun hc9 => ?_) (fun hc9 => ?_)
              · have hJ := zif' hc9 hJ
                refine zr_sub [0, 1, 2, 3, 5] [(0, .ref (G.1 + 105)), (1, .int a1), (2, .int a2), (4, .int w4_44), (6, .int w6_50)] rfl ?_
                exact hj98 hJ
              · have hJ := zif hc9 hJ
                refine zr_aload_n C 0 dX11_fits_86 rfl ?_
                refine zg_11_52 C 105 zk_105 zm_8_15 dX11_fits_87 ?_
                refine zr_iload C 5 dX11_fits_90 rfl ?_
                obtain ⟨hg10, hJ⟩ := zg_e hJ
                refine zu_iald C 133 zk_133 hg10 dX11_fits_92 ?_
                refine zr_iload C 3 dX11_fits_93 rfl ?_
                refine zr_icmp_ne C 102 dX11_fits_95 (by decide) (fun hc11 => ?_) (fun hc11 => ?_)
                · have hJ := zif' hc11 hJ
                  refine zr_iconst C dX11_fits_102 (v := (0 : Int32)) (by decide) ?_
                  refine zr_istore C [(5, .int (0 : Int32)), (0, .ref (G.1 + 105)), (1, .int a1), (2, .int a2), (4, .int w4_44), (6, .int w6_50)] dX11_fits_103 (by decide) rfl ?_
                  obtain ⟨v12, hv12, hJ⟩ := zlet_e hJ
                  refine zr_iinc C v12 5 [(6, .int v12), (5, .int (0 : Int32)), (0, .ref (G.1 + 105)), (1, .int a1), (2, .int a2), (4, .int w4_44)] dX11_fits_105 rfl (hv12.trans (zinc (by decide))) (by decide) rfl ?_
                  refine zr_goto C 50 dX11_fits_108 (by decide) ?_
                  refine zr_sub [2, 3, 4, 5, 1, 0] [(0, .ref (G.1 + 105)), (1, .int a1), (2, .int a2), (4, .int w4_44), (5, .int (0 : Int32)), (6, .int v12)] rfl ?_
                  exact ih50 _ _ hJ
                · have hJ := zif hc11 hJ
                  refine zr_sub [0, 1, 2, 3, 5] [(0, .ref (G.1 + 105)), (1, .int a1), (2, .int a2), (4, .int w4_44), (6, .int w6_50)] rfl ?_
                  exact hj98 hJ
    refine zr_sub [2, 3, 4, 5, 1, 0] [(0, .ref (G.1 + 105)), (1, .int a1), (2, .int a2), (4, .int w4_44), (5, .int (1 : Int32)), (6, .int (0 : Int32))] rfl ?_
    exact hl50 _ _ _ hJ
  have hl6 : ∀ (n : Nat) (w4_6 : Int32) (w5_6 : Int32), L_X11_fits_6 a3 σ k44 n w4_6 w5_6 = some r → zU G 7 p l e (zrm 2 45) s m args below meth c (MQ below (va_Qi (fun x (_ : Unit) => x = r) (fun _ t => zok G 137 (zen G σ) t) (zA G)) args s 0 0 (zA G)) σ 6 [(0, .ref (G.1 + 105)), (1, .int a1), (2, .int a2), (3, .int a3), (4, .int w4_6), (5, .int w5_6)] [] := by
    intro n
    induction n with
    | zero =>
      intro w4_6 w5_6 hJ
      rw [L_X11_fits_6] at hJ
      cases hJ
    | succ n ih =>
      intro w4_6 w5_6 hJ
      rw [L_X11_fits_6] at hJ
      obtain ⟨r_6, hr_6, hJ⟩ := zlet_e hJ
      have ih6 : ∀ (w4_6 : Int32) (w5_6 : Int32), r_6 w4_6 w5_6 = some r → zU G 7 p l e (zrm 2 45) s m args below meth c (MQ below (va_Qi (fun x (_ : Unit) => x = r) (fun _ t => zok G 137 (zen G σ) t) (zA G)) args s 0 0 (zA G)) σ 6 [(0, .ref (G.1 + 105)), (1, .int a1), (2, .int a2), (3, .int a3), (4, .int w4_6), (5, .int w5_6)] [] := by
        rw [hr_6]
        exact ih
      refine zr_iload C 5 dX11_fits_6 rfl ?_
      refine zr_bipush C dX11_fits_8 (v := (8 : Int32)) (by decide) ?_
      refine zr_icmp_ge C 44 dX11_fits_10 (by decide) (fun hc13 => ?_) (fun hc13 => ?_)
      · have hJ := zif hc13 hJ
        refine zr_sub [0, 1, 2, 4] [(0, .ref (G.1 + 105)), (1, .int a1), (2, .int a2), (4, .int w4_6)] rfl ?_
        exact hj44 _ hJ
      · have hJ := zif' hc13 hJ
        refine zr_iload C 4 dX11_fits_13 rfl ?_
        refine zr_iload_n C 3 dX11_fits_15 rfl ?_
        refine zr_iload C 5 dX11_fits_16 rfl ?_
        refine zr_ishr C dX11_fits_18 ?_
        refine zr_iconst C dX11_fits_19 (v := (1 : Int32)) (by decide) ?_
        refine zr_iand C dX11_fits_20 ?_
        refine zr_iconst C dX11_fits_21 (v := (1 : Int32)) (by decide) ?_
        refine zr_icmp_ne C 34 dX11_fits_22 (by decide) (fun hc14 => ?_) (fun hc14 => ?_)
        · have hJ := zif' hc14 hJ
          refine zr_iconst C dX11_fits_34 (v := (0 : Int32)) (by decide) ?_
          refine zr_iadd C dX11_fits_35 ?_
          obtain ⟨v15, hv15, hJ⟩ := zlet_e hJ
          refine zr_topi hv15 ?_
          refine zr_istore C [(4, .int v15), (0, .ref (G.1 + 105)), (1, .int a1), (2, .int a2), (3, .int a3), (5, .int w5_6)] dX11_fits_36 (by decide) rfl ?_
          obtain ⟨v16, hv16, hJ⟩ := zlet_e hJ
          refine zr_iinc C v16 5 [(5, .int v16), (4, .int v15), (0, .ref (G.1 + 105)), (1, .int a1), (2, .int a2), (3, .int a3)] dX11_fits_38 rfl (hv16.trans (zinc (by decide))) (by decide) rfl ?_
          refine zr_goto C 6 dX11_fits_41 (by decide) ?_
          refine zr_sub [2, 3, 4, 5, 1, 0] [(0, .ref (G.1 + 105)), (1, .int a1), (2, .int a2), (3, .int a3), (4, .int v15), (5, .int v16)] rfl ?_
          exact ih6 _ _ hJ
        · have hJ := zif hc14 hJ
          refine zr_aload_n C 0 dX11_fits_25 rfl ?_
          refine zr_iload C 5 dX11_fits_26 rfl ?_
          obtain ⟨r17, hr17, hJ⟩ := zb_e hJ
          refine zr_callVI C 105 (zk_lt zk_105 (by decide)) (zen_obj zk_105) (rfl : zcl[11]? = some (RX11, TX11, 56)) (M_X11_total G l hr17) zin_X11_total zm_22_23 rfl rfl (Nat.le_of_ble_eq_true rfl) ⟨Nat.le_of_ble_eq_true rfl, Nat.le_of_ble_eq_true rfl⟩ ⟨Nat.le_of_ble_eq_true rfl, Nat.le_of_ble_eq_true rfl⟩ dX11_fits_28 ?_
          refine zr_goto C 35 dX11_fits_31 (by decide) ?_
          refine zr_iadd C dX11_fits_35 ?_
          obtain ⟨v18, hv18, hJ⟩ := zlet_e hJ
          refine zr_topi hv18 ?_
          refine zr_istore C [(4, .int v18), (0, .ref (G.1 + 105)), (1, .int a1), (2, .int a2), (3, .int a3), (5, .int w5_6)] dX11_fits_36 (by decide) rfl ?_
          obtain ⟨v19, hv19, hJ⟩ := zlet_e hJ
          refine zr_iinc C v19 5 [(5, .int v19), (4, .int v18), (0, .ref (G.1 + 105)), (1, .int a1), (2, .int a2), (3, .int a3)] dX11_fits_38 rfl (hv19.trans (zinc (by decide))) (by decide) rfl ?_
          refine zr_goto C 6 dX11_fits_41 (by decide) ?_
          refine zr_sub [2, 3, 4, 5, 1, 0] [(0, .ref (G.1 + 105)), (1, .int a1), (2, .int a2), (3, .int a3), (4, .int v18), (5, .int v19)] rfl ?_
          exact ih6 _ _ hJ
  refine zr_sub [2, 3, 4, 5, 1, 0] [(0, .ref (G.1 + 105)), (1, .int a1), (2, .int a2), (3, .int a3), (4, .int (0 : Int32)), (5, .int (0 : Int32))] rfl ?_
  exact hl6 _ _ _ hJ
theorem dX11_forget_0 : decode cX11_forget 0 = .ok (.aload_n 0, 1) := by decide +kernel
theorem dX11_forget_1 : decode cX11_forget 1 = .ok (.getfield 222, 3) := by decide +kernel
theorem dX11_forget_4 : decode cX11_forget 4 = .ok (.istore_n 1, 1) := by decide +kernel
theorem dX11_forget_5 : decode cX11_forget 5 = .ok (.aload_n 0, 1) := by decide +kernel
theorem dX11_forget_6 : decode cX11_forget 6 = .ok (.iconst 0, 1) := by decide +kernel
theorem dX11_forget_7 : decode cX11_forget 7 = .ok (.putfield 222, 3) := by decide +kernel
theorem dX11_forget_10 : decode cX11_forget 10 = .ok (.iload_n 1, 1) := by decide +kernel
theorem dX11_forget_11 : decode cX11_forget 11 = .ok (.ireturn, 1) := by decide +kernel
set_option maxRecDepth 100000 in
set_option maxHeartbeats 4000000 in
theorem M_X11_forget (G : zG) (l : Launch) {σ : zS} {r : Int32} {σ' : zS} (hJ : J_X11_forget σ = some (r, σ')) : zMI G l yX11_forget cX11_forget 2 (some .int) (zrm 0 0) [.ref (G.1 + 105)] 137 (zen G σ) r 137 (zen G σ') := by
  unfold J_X11_forget at hJ
  refine zentI (by decide +kernel) (Nat.le_of_ble_eq_true rfl) ?_
  intro p e s m args below meth c C hret
  refine zr_sub [0] [(0, .ref (G.1 + 105))] rfl ?_
  refine zr_aload_n C 0 dX11_forget_0 rfl ?_
  refine zg_11_49 C 105 zk_105 zm_19_13 dX11_forget_1 ?_
  obtain ⟨v1, hv1, hJ⟩ := zlet_e hJ
  refine zr_topi hv1 ?_
  refine zr_istore_n C [(1, .int v1), (0, .ref (G.1 + 105))] dX11_forget_4 (by decide) rfl ?_
  refine zr_aload_n C 1 dX11_forget_5 rfl ?_
  refine zr_iconst C dX11_forget_6 (v := (0 : Int32)) (by decide) ?_
  obtain ⟨σ2, hσ2, hJ⟩ := zlet_e hJ
  refine zp_11_49 C 105 zk_105 zm_19_13 hσ2 dX11_forget_7 ?_
  refine zr_iload_n C 0 dX11_forget_10 rfl ?_
  exact zr_iret C hret (Prod.mk.inj (zs_e hJ)).1 rfl (congrArg (zen G) (Prod.mk.inj (zs_e hJ)).2) dX11_forget_11
theorem dX11_goes_0 : decode cX11_goes 0 = .ok (.iload_n 1, 1) := by decide +kernel
theorem dX11_goes_1 : decode cX11_goes 1 = .ok (.invokestatic 286, 3) := by decide +kernel
theorem dX11_goes_4 : decode cX11_goes 4 = .ok (.ifCond .eq 18, 3) := by decide +kernel
theorem dX11_goes_7 : decode cX11_goes 7 = .ok (.iload_n 2, 1) := by decide +kernel
theorem dX11_goes_8 : decode cX11_goes 8 = .ok (.invokestatic 260, 3) := by decide +kernel
theorem dX11_goes_11 : decode cX11_goes 11 = .ok (.ifCond .eq 11, 3) := by decide +kernel
theorem dX11_goes_14 : decode cX11_goes 14 = .ok (.iload_n 1, 1) := by decide +kernel
theorem dX11_goes_15 : decode cX11_goes 15 = .ok (.iload_n 2, 1) := by decide +kernel
theorem dX11_goes_16 : decode cX11_goes 16 = .ok (.ishr, 1) := by decide +kernel
theorem dX11_goes_17 : decode cX11_goes 17 = .ok (.iconst 1, 1) := by decide +kernel
theorem dX11_goes_18 : decode cX11_goes 18 = .ok (.iand, 1) := by decide +kernel
theorem dX11_goes_19 : decode cX11_goes 19 = .ok (.ifCond .ne 5, 3) := by decide +kernel
theorem dX11_goes_22 : decode cX11_goes 22 = .ok (.iconst (-1), 1) := by decide +kernel
theorem dX11_goes_23 : decode cX11_goes 23 = .ok (.ireturn, 1) := by decide +kernel
theorem dX11_goes_24 : decode cX11_goes 24 = .ok (.aload_n 0, 1) := by decide +kernel
theorem dX11_goes_25 : decode cX11_goes 25 = .ok (.iload_n 1, 1) := by decide +kernel
theorem dX11_goes_26 : decode cX11_goes 26 = .ok (.invokevirtual 289, 3) := by decide +kernel
theorem dX11_goes_29 : decode cX11_goes 29 = .ok (.istore_n 3, 1) := by decide +kernel
theorem dX11_goes_30 : decode cX11_goes 30 = .ok (.iload_n 3, 1) := by decide +kernel
theorem dX11_goes_31 : decode cX11_goes 31 = .ok (.bipush (-4), 2) := by decide +kernel
theorem dX11_goes_33 : decode cX11_goes 33 = .ok (.if_icmp .ne 8, 3) := by decide +kernel
theorem dX11_goes_36 : decode cX11_goes 36 = .ok (.bipush (-4), 2) := by decide +kernel
theorem dX11_goes_38 : decode cX11_goes 38 = .ok (.goto 17, 3) := by decide +kernel
theorem dX11_goes_41 : decode cX11_goes 41 = .ok (.iload_n 3, 1) := by decide +kernel
theorem dX11_goes_42 : decode cX11_goes 42 = .ok (.iconst 2, 1) := by decide +kernel
theorem dX11_goes_43 : decode cX11_goes 43 = .ok (.iload_n 1, 1) := by decide +kernel
theorem dX11_goes_44 : decode cX11_goes 44 = .ok (.iload_n 2, 1) := by decide +kernel
theorem dX11_goes_45 : decode cX11_goes 45 = .ok (.iconst 1, 1) := by decide +kernel
theorem dX11_goes_46 : decode cX11_goes 46 = .ok (.iadd, 1) := by decide +kernel
theorem dX11_goes_47 : decode cX11_goes 47 = .ok (.ishr, 1) := by decide +kernel
theorem dX11_goes_48 : decode cX11_goes 48 = .ok (.invokestatic 273, 3) := by decide +kernel
theorem dX11_goes_51 : decode cX11_goes 51 = .ok (.imul, 1) := by decide +kernel
theorem dX11_goes_52 : decode cX11_goes 52 = .ok (.ishr, 1) := by decide +kernel
theorem dX11_goes_53 : decode cX11_goes 53 = .ok (.iconst 3, 1) := by decide +kernel
theorem dX11_goes_54 : decode cX11_goes 54 = .ok (.iand, 1) := by decide +kernel
theorem dX11_goes_55 : decode cX11_goes 55 = .ok (.ireturn, 1) := by decide +kernel
set_option maxRecDepth 100000 in
set_option maxHeartbeats 4000000 in
theorem M_X11_goes (G : zG) (l : Launch) {a1 : Int32} {a2 : Int32} {σ : zS} {r : Int32} (hJ : J_X11_goes a1 a2 σ = some r) : zMI G l yX11_goes cX11_goes 4 (some .int) (zrm 2 50) [.ref (G.1 + 105), .int a1, .int a2] 137 (zen G σ) r 137 (zen G σ) := by
  unfold J_X11_goes at hJ
  refine zentI (by decide +kernel) (Nat.le_of_ble_eq_true rfl) ?_
  intro p e s m args below meth c C hret
  refine zr_sub [0, 1, 2] [(0, .ref (G.1 + 105)), (1, .int a1), (2, .int a2)] rfl ?_
  refine zr_iload_n C 1 dX11_goes_0 rfl ?_
  obtain ⟨r1, hr1, hJ⟩ := zb_e hJ
  refine zr_callSI C (M_X11_areEvents G l hr1) zin_X11_areEvents zm_31_17 rfl rfl (Nat.le_of_ble_eq_true rfl) ⟨Nat.le_of_ble_eq_true rfl, Nat.le_of_ble_eq_true rfl⟩ ⟨Nat.le_of_ble_eq_true rfl, Nat.le_of_ble_eq_true rfl⟩ dX11_goes_1 ?_
  refine zr_if_eq C 22 dX11_goes_4 (by decide) (fun hc2 => ?_) (fun hc2 => ?_)
  · have hJ := zif hc2 hJ
    refine zr_iconst C dX11_goes_22 (v := (-1 : Int32)) (by decide) ?_
    exact zr_iret C hret (zs_e hJ) rfl rfl dX11_goes_23
  · have hJ := zif' hc2 hJ
    refine zr_iload_n C 2 dX11_goes_7 rfl ?_
    obtain ⟨r3, hr3, hJ⟩ := zb_e hJ
    refine zr_callSI C (M_X11_isEvent G l hr3) zin_X11_isEvent zm_24_0 rfl rfl (Nat.le_of_ble_eq_true rfl) ⟨Nat.le_of_ble_eq_true rfl, Nat.le_of_ble_eq_true rfl⟩ ⟨Nat.le_of_ble_eq_true rfl, Nat.le_of_ble_eq_true rfl⟩ dX11_goes_8 ?_
    refine zr_if_eq C 22 dX11_goes_11 (by decide) (fun hc4 => ?_) (fun hc4 => ?_)
    · have hJ := zif hc4 hJ
      refine zr_iconst C dX11_goes_22 (v := (-1 : Int32)) (by decide) ?_
      exact zr_iret C hret (zs_e hJ) rfl rfl dX11_goes_23
    · have hJ := zif' hc4 hJ
      refine zr_iload_n C 1 dX11_goes_14 rfl ?_
      refine zr_iload_n C 2 dX11_goes_15 rfl ?_
      refine zr_ishr C dX11_goes_16 ?_
      refine zr_iconst C dX11_goes_17 (v := (1 : Int32)) (by decide) ?_
      refine zr_iand C dX11_goes_18 ?_
      refine zr_if_ne C 24 dX11_goes_19 (by decide) (fun hc5 => ?_) (fun hc5 => ?_)
      · have hJ := zif' hc5 hJ
        refine zr_aload_n C 0 dX11_goes_24 rfl ?_
        refine zr_iload_n C 1 dX11_goes_25 rfl ?_
        obtain ⟨r6, hr6, hJ⟩ := zb_e hJ
        refine zr_callVI C 105 (zk_lt zk_105 (by decide)) (zen_obj zk_105) (rfl : zcl[11]? = some (RX11, TX11, 56)) (M_X11_wayOf G l hr6) zin_X11_wayOf zm_31_20 rfl rfl (Nat.le_of_ble_eq_true rfl) ⟨Nat.le_of_ble_eq_true rfl, Nat.le_of_ble_eq_true rfl⟩ ⟨Nat.le_of_ble_eq_true rfl, Nat.le_of_ble_eq_true rfl⟩ dX11_goes_26 ?_
        refine zr_istore_n C [(3, .int r6), (0, .ref (G.1 + 105)), (1, .int a1), (2, .int a2)] dX11_goes_29 (by decide) rfl ?_
        refine zr_iload_n C 0 dX11_goes_30 rfl ?_
        refine zr_bipush C dX11_goes_31 (v := (-4 : Int32)) (by decide) ?_
        refine zr_icmp_ne C 41 dX11_goes_33 (by decide) (fun hc7 => ?_) (fun hc7 => ?_)
        · have hJ := zif' hc7 hJ
          refine zr_iload_n C 0 dX11_goes_41 rfl ?_
          refine zr_iconst C dX11_goes_42 (v := (2 : Int32)) (by decide) ?_
          refine zr_iload_n C 2 dX11_goes_43 rfl ?_
          refine zr_iload_n C 3 dX11_goes_44 rfl ?_
          refine zr_iconst C dX11_goes_45 (v := (1 : Int32)) (by decide) ?_
          refine zr_iadd C dX11_goes_46 ?_
          refine zr_ishr C dX11_goes_47 ?_
          obtain ⟨r8, hr8, hJ⟩ := zb_e hJ
          refine zr_callSI C (M_X11_countOf G l hr8) zin_X11_countOf zm_27_8 rfl rfl (Nat.le_of_ble_eq_true rfl) ⟨Nat.le_of_ble_eq_true rfl, Nat.le_of_ble_eq_true rfl⟩ ⟨Nat.le_of_ble_eq_true rfl, Nat.le_of_ble_eq_true rfl⟩ dX11_goes_48 ?_
          refine zr_imul C dX11_goes_51 ?_
          refine zr_ishr C dX11_goes_52 ?_
          refine zr_iconst C dX11_goes_53 (v := (3 : Int32)) (by decide) ?_
          refine zr_iand C dX11_goes_54 ?_
          exact zr_iret C hret (zs_e hJ) rfl rfl dX11_goes_55
        · have hJ := zif hc7 hJ
          refine zr_bipush C dX11_goes_36 (v := (-4 : Int32)) (by decide) ?_
          refine zr_goto C 55 dX11_goes_38 (by decide) ?_
          exact zr_iret C hret (zs_e hJ) rfl rfl dX11_goes_55
      · have hJ := zif hc5 hJ
        refine zr_iconst C dX11_goes_22 (v := (-1 : Int32)) (by decide) ?_
        exact zr_iret C hret (zs_e hJ) rfl rfl dX11_goes_23
theorem dX11_hasRun_0 : decode cX11_hasRun 0 = .ok (.iconst 0, 1) := by decide +kernel
theorem dX11_hasRun_1 : decode cX11_hasRun 1 = .ok (.istore_n 3, 1) := by decide +kernel
theorem dX11_hasRun_2 : decode cX11_hasRun 2 = .ok (.iconst 0, 1) := by decide +kernel
theorem dX11_hasRun_3 : decode cX11_hasRun 3 = .ok (.istore 4, 2) := by decide +kernel
theorem dX11_hasRun_5 : decode cX11_hasRun 5 = .ok (.iload 4, 2) := by decide +kernel
theorem dX11_hasRun_7 : decode cX11_hasRun 7 = .ok (.aload_n 0, 1) := by decide +kernel
theorem dX11_hasRun_8 : decode cX11_hasRun 8 = .ok (.getfield 222, 3) := by decide +kernel
theorem dX11_hasRun_11 : decode cX11_hasRun 11 = .ok (.if_icmp .ge 41, 3) := by decide +kernel
theorem dX11_hasRun_14 : decode cX11_hasRun 14 = .ok (.iload_n 3, 1) := by decide +kernel
theorem dX11_hasRun_15 : decode cX11_hasRun 15 = .ok (.ifCond .ne 25, 3) := by decide +kernel
theorem dX11_hasRun_18 : decode cX11_hasRun 18 = .ok (.aload_n 0, 1) := by decide +kernel
theorem dX11_hasRun_19 : decode cX11_hasRun 19 = .ok (.getfield 90, 3) := by decide +kernel
theorem dX11_hasRun_22 : decode cX11_hasRun 22 = .ok (.iload 4, 2) := by decide +kernel
theorem dX11_hasRun_24 : decode cX11_hasRun 24 = .ok (.iaload, 1) := by decide +kernel
theorem dX11_hasRun_25 : decode cX11_hasRun 25 = .ok (.iload_n 1, 1) := by decide +kernel
theorem dX11_hasRun_26 : decode cX11_hasRun 26 = .ok (.if_icmp .ne 18, 3) := by decide +kernel
theorem dX11_hasRun_29 : decode cX11_hasRun 29 = .ok (.aload_n 0, 1) := by decide +kernel
theorem dX11_hasRun_30 : decode cX11_hasRun 30 = .ok (.getfield 93, 3) := by decide +kernel
theorem dX11_hasRun_33 : decode cX11_hasRun 33 = .ok (.iload 4, 2) := by decide +kernel
theorem dX11_hasRun_35 : decode cX11_hasRun 35 = .ok (.iaload, 1) := by decide +kernel
theorem dX11_hasRun_36 : decode cX11_hasRun 36 = .ok (.iload_n 2, 1) := by decide +kernel
theorem dX11_hasRun_37 : decode cX11_hasRun 37 = .ok (.if_icmp .ne 7, 3) := by decide +kernel
theorem dX11_hasRun_40 : decode cX11_hasRun 40 = .ok (.iconst 1, 1) := by decide +kernel
theorem dX11_hasRun_41 : decode cX11_hasRun 41 = .ok (.goto 4, 3) := by decide +kernel
theorem dX11_hasRun_44 : decode cX11_hasRun 44 = .ok (.iconst 0, 1) := by decide +kernel
theorem dX11_hasRun_45 : decode cX11_hasRun 45 = .ok (.istore_n 3, 1) := by decide +kernel
theorem dX11_hasRun_46 : decode cX11_hasRun 46 = .ok (.iinc 4 1, 3) := by decide +kernel
theorem dX11_hasRun_49 : decode cX11_hasRun 49 = .ok (.goto (-44), 3) := by decide +kernel
theorem dX11_hasRun_52 : decode cX11_hasRun 52 = .ok (.iload_n 3, 1) := by decide +kernel
theorem dX11_hasRun_53 : decode cX11_hasRun 53 = .ok (.ireturn, 1) := by decide +kernel
set_option maxRecDepth 100000 in
set_option maxHeartbeats 4000000 in
theorem M_X11_hasRun (G : zG) (l : Launch) {a1 : Int32} {a2 : Int32} {σ : zS} {r : Int32} (hJ : J_X11_hasRun a1 a2 σ = some r) : zMI G l yX11_hasRun cX11_hasRun 5 (some .boolean) (zrm 0 0) [.ref (G.1 + 105), .int a1, .int a2] 137 (zen G σ) r 137 (zen G σ) := by
  unfold J_X11_hasRun at hJ
  refine zentI (by decide +kernel) (Nat.le_of_ble_eq_true rfl) ?_
  intro p e s m args below meth c C hret
  refine zr_sub [0, 1, 2] [(0, .ref (G.1 + 105)), (1, .int a1), (2, .int a2)] rfl ?_
  refine zr_iconst C dX11_hasRun_0 (v := (0 : Int32)) (by decide) ?_
  refine zr_istore_n C [(3, .int (0 : Int32)), (0, .ref (G.1 + 105)), (1, .int a1), (2, .int a2)] dX11_hasRun_1 (by decide) rfl ?_
  refine zr_iconst C dX11_hasRun_2 (v := (0 : Int32)) (by decide) ?_
  refine zr_istore C [(4, .int (0 : Int32)), (3, .int (0 : Int32)), (0, .ref (G.1 + 105)), (1, .int a1), (2, .int a2)] dX11_hasRun_3 (by decide) rfl ?_
  have hl5 : ∀ (n : Nat) (w3_5 : Int32) (w4_5 : Int32), L_X11_hasRun_5 a1 a2 σ n w3_5 w4_5 = some r → zU G 5 p l e (zrm 0 0) s m args below meth c (MQ below (va_Qi (fun x (_ : Unit) => x = r) (fun _ t => zok G 137 (zen G σ) t) (zA G)) args s 0 0 (zA G)) σ 5 [(0, .ref (G.1 + 105)), (1, .int a1), (2, .int a2), (3, .int w3_5), (4, .int w4_5)] [] := by
    intro n
    induction n with
    | zero =>
      intro w3_5 w4_5 hJ
      rw [L_X11_hasRun_5] at hJ
      cases hJ
    | succ n ih =>
      intro w3_5 w4_5 hJ
      rw [L_X11_hasRun_5] at hJ
      obtain ⟨r_5, hr_5, hJ⟩ := zlet_e hJ
      have ih5 : ∀ (w3_5 : Int32) (w4_5 : Int32), r_5 w3_5 w4_5 = some r → zU G 5 p l e (zrm 0 0) s m args below meth c (MQ below (va_Qi (fun x (_ : Unit) => x = r) (fun _ t => zok G 137 (zen G σ) t) (zA G)) args s 0 0 (zA G)) σ 5 [(0, .ref (G.1 + 105)), (1, .int a1), (2, .int a2), (3, .int w3_5), (4, .int w4_5)] [] := by
        rw [hr_5]
        exact ih
      refine zr_iload C 4 dX11_hasRun_5 rfl ?_
      refine zr_aload_n C 0 dX11_hasRun_7 rfl ?_
      refine zg_11_49 C 105 zk_105 zm_19_13 dX11_hasRun_8 ?_
      refine zr_icmp_ge C 52 dX11_hasRun_11 (by decide) (fun hc1 => ?_) (fun hc1 => ?_)
      · have hJ := zif hc1 hJ
        refine zr_iload_n C 3 dX11_hasRun_52 rfl ?_
        obtain ⟨hg2, hJ⟩ := zg_e hJ
        exact zr_zret C hret (zs_e hJ) (zbl_n hg2) rfl rfl dX11_hasRun_53
      · have hJ := zif' hc1 hJ
        refine zr_iload_n C 3 dX11_hasRun_14 rfl ?_
        obtain ⟨k40, hk40, hJ⟩ := zlet_e hJ
        have hj40 : k40 = some r → zU G 5 p l e (zrm 0 0) s m args below meth c (MQ below (va_Qi (fun x (_ : Unit) => x = r) (fun _ t => zok G 137 (zen G σ) t) (zA G)) args s 0 0 (zA G)) σ 40 [(0, .ref (G.1 + 105)), (1, .int a1), (2, .int a2), (4, .int w4_5)] [] := by
          intro hJ
          rw [hk40] at hJ
          unfold D_X11_hasRun_40 at hJ
          refine zr_iconst C dX11_hasRun_40 (v := (1 : Int32)) (by decide) ?_
          refine zr_goto C 45 dX11_hasRun_41 (by decide) ?_
          refine zr_istore_n C [(3, .int (1 : Int32)), (0, .ref (G.1 + 105)), (1, .int a1), (2, .int a2), (4, .int w4_5)] dX11_hasRun_45 (by decide) rfl ?_
          obtain ⟨v3, hv3, hJ⟩ := zlet_e hJ
          refine zr_iinc C v3 4 [(4, .int v3), (3, .int (1 : Int32)), (0, .ref (G.1 + 105)), (1, .int a1), (2, .int a2)] dX11_hasRun_46 rfl (hv3.trans (zinc (by decide))) (by decide) rfl ?_
          refine zr_goto C 5 dX11_hasRun_49 (by decide) ?_
          refine zr_sub [2, 3, 4, 1, 0] [(0, .ref (G.1 + 105)), (1, .int a1), (2, .int a2), (3, .int (1 : Int32)), (4, .int v3)] rfl ?_
          exact ih5 _ _ hJ
        refine zr_if_ne C 40 dX11_hasRun_15 (by decide) (fun hc4 => ?_) (fun hc4 => ?_)
        · have hJ := zif' hc4 hJ
          refine zr_sub [0, 1, 2, 4] [(0, .ref (G.1 + 105)), (1, .int a1), (2, .int a2), (4, .int w4_5)] rfl ?_
          exact hj40 hJ
        · have hJ := zif hc4 hJ
          refine zr_aload_n C 0 dX11_hasRun_18 rfl ?_
          refine zg_11_50 C 105 zk_105 zm_8_13 dX11_hasRun_19 ?_
          refine zr_iload C 4 dX11_hasRun_22 rfl ?_
          obtain ⟨hg5, hJ⟩ := zg_e hJ
          refine zu_iald C 131 zk_131 hg5 dX11_hasRun_24 ?_
          refine zr_iload_n C 1 dX11_hasRun_25 rfl ?_
          refine zr_icmp_ne C 44 dX11_hasRun_26 (by decide) (fun hc6 => ?_) (fun hc6 => ?_)
          · have hJ := zif' hc6 hJ
            refine zr_iconst C dX11_hasRun_44 (v := (0 : Int32)) (by decide) ?_
            refine zr_istore_n C [(3, .int (0 : Int32)), (0, .ref (G.1 + 105)), (1, .int a1), (2, .int a2), (4, .int w4_5)] dX11_hasRun_45 (by decide) rfl ?_
            obtain ⟨v7, hv7, hJ⟩ := zlet_e hJ
            refine zr_iinc C v7 4 [(4, .int v7), (3, .int (0 : Int32)), (0, .ref (G.1 + 105)), (1, .int a1), (2, .int a2)] dX11_hasRun_46 rfl (hv7.trans (zinc (by decide))) (by decide) rfl ?_
            refine zr_goto C 5 dX11_hasRun_49 (by decide) ?_
            refine zr_sub [2, 3, 4, 1, 0] [(0, .ref (G.1 + 105)), (1, .int a1), (2, .int a2), (3, .int (0 : Int32)), (4, .int v7)] rfl ?_
            exact ih5 _ _ hJ
          · have hJ := zif hc6 hJ
            refine zr_aload_n C 0 dX11_hasRun_29 rfl ?_
            refine zg_11_51 C 105 zk_105 zm_8_14 dX11_hasRun_30 ?_
            refine zr_iload C 4 dX11_hasRun_33 rfl ?_
            obtain ⟨hg8, hJ⟩ := zg_e hJ
            refine zu_iald C 132 zk_132 hg8 dX11_hasRun_35 ?_
            refine zr_iload_n C 2 dX11_hasRun_36 rfl ?_
            refine zr_icmp_ne C 44 dX11_hasRun_37 (by decide) (fun hc9 => ?_) (fun hc9 => ?_)
            · have hJ := zif' hc9 hJ
              refine zr_iconst C dX11_hasRun_44 (v := (0 : Int32)) (by decide) ?_
              refine zr_istore_n C [(3, .int (0 : Int32)), (0, .ref (G.1 + 105)), (1, .int a1), (2, .int a2), (4, .int w4_5)] dX11_hasRun_45 (by decide) rfl ?_
              obtain ⟨v10, hv10, hJ⟩ := zlet_e hJ
              refine zr_iinc C v10 4 [(4, .int v10), (3, .int (0 : Int32)), (0, .ref (G.1 + 105)), (1, .int a1), (2, .int a2)] dX11_hasRun_46 rfl (hv10.trans (zinc (by decide))) (by decide) rfl ?_
              refine zr_goto C 5 dX11_hasRun_49 (by decide) ?_
              refine zr_sub [2, 3, 4, 1, 0] [(0, .ref (G.1 + 105)), (1, .int a1), (2, .int a2), (3, .int (0 : Int32)), (4, .int v10)] rfl ?_
              exact ih5 _ _ hJ
            · have hJ := zif hc9 hJ
              refine zr_sub [0, 1, 2, 4] [(0, .ref (G.1 + 105)), (1, .int a1), (2, .int a2), (4, .int w4_5)] rfl ?_
              exact hj40 hJ
  refine zr_sub [2, 3, 4, 1, 0] [(0, .ref (G.1 + 105)), (1, .int a1), (2, .int a2), (3, .int (0 : Int32)), (4, .int (0 : Int32))] rfl ?_
  exact hl5 _ _ _ hJ
theorem dX11_hot_0 : decode cX11_hot 0 = .ok (.iload_n 1, 1) := by decide +kernel
theorem dX11_hot_1 : decode cX11_hot 1 = .ok (.invokestatic 260, 3) := by decide +kernel
theorem dX11_hot_4 : decode cX11_hot 4 = .ok (.ifCond .eq 25, 3) := by decide +kernel
theorem dX11_hot_7 : decode cX11_hot 7 = .ok (.iload_n 2, 1) := by decide +kernel
theorem dX11_hot_8 : decode cX11_hot 8 = .ok (.i2l, 1) := by decide +kernel
theorem dX11_hot_9 : decode cX11_hot 9 = .ok (.lconst 1, 1) := by decide +kernel
theorem dX11_hot_10 : decode cX11_hot 10 = .ok (.ldc2_w 271, 3) := by decide +kernel
theorem dX11_hot_13 : decode cX11_hot 13 = .ok (.invokestatic 124, 3) := by decide +kernel
theorem dX11_hot_16 : decode cX11_hot 16 = .ok (.ifCond .eq 13, 3) := by decide +kernel
theorem dX11_hot_19 : decode cX11_hot 19 = .ok (.iload_n 3, 1) := by decide +kernel
theorem dX11_hot_20 : decode cX11_hot 20 = .ok (.i2l, 1) := by decide +kernel
theorem dX11_hot_21 : decode cX11_hot 21 = .ok (.lconst 0, 1) := by decide +kernel
theorem dX11_hot_22 : decode cX11_hot 22 = .ok (.lconst 1, 1) := by decide +kernel
theorem dX11_hot_23 : decode cX11_hot 23 = .ok (.invokestatic 124, 3) := by decide +kernel
theorem dX11_hot_26 : decode cX11_hot 26 = .ok (.ifCond .ne 5, 3) := by decide +kernel
theorem dX11_hot_29 : decode cX11_hot 29 = .ok (.iconst (-1), 1) := by decide +kernel
theorem dX11_hot_30 : decode cX11_hot 30 = .ok (.ireturn, 1) := by decide +kernel
theorem dX11_hot_31 : decode cX11_hot 31 = .ok (.aload_n 0, 1) := by decide +kernel
theorem dX11_hot_32 : decode cX11_hot 32 = .ok (.iload_n 1, 1) := by decide +kernel
theorem dX11_hot_33 : decode cX11_hot 33 = .ok (.invokevirtual 257, 3) := by decide +kernel
theorem dX11_hot_36 : decode cX11_hot 36 = .ok (.istore 4, 2) := by decide +kernel
theorem dX11_hot_38 : decode cX11_hot 38 = .ok (.bipush (-4), 2) := by decide +kernel
theorem dX11_hot_40 : decode cX11_hot 40 = .ok (.istore 5, 2) := by decide +kernel
theorem dX11_hot_42 : decode cX11_hot 42 = .ok (.iconst 1, 1) := by decide +kernel
theorem dX11_hot_43 : decode cX11_hot 43 = .ok (.istore 6, 2) := by decide +kernel
theorem dX11_hot_45 : decode cX11_hot 45 = .ok (.iload 6, 2) := by decide +kernel
theorem dX11_hot_47 : decode cX11_hot 47 = .ok (.iconst 1, 1) := by decide +kernel
theorem dX11_hot_48 : decode cX11_hot 48 = .ok (.aload_n 0, 1) := by decide +kernel
theorem dX11_hot_49 : decode cX11_hot 49 = .ok (.getfield 203, 3) := by decide +kernel
theorem dX11_hot_52 : decode cX11_hot 52 = .ok (.ishl, 1) := by decide +kernel
theorem dX11_hot_53 : decode cX11_hot 53 = .ok (.if_icmp .ge 116, 3) := by decide +kernel
theorem dX11_hot_56 : decode cX11_hot 56 = .ok (.iload 4, 2) := by decide +kernel
theorem dX11_hot_58 : decode cX11_hot 58 = .ok (.ifCond .le 111, 3) := by decide +kernel
theorem dX11_hot_61 : decode cX11_hot 61 = .ok (.iload 5, 2) := by decide +kernel
theorem dX11_hot_63 : decode cX11_hot 63 = .ok (.bipush (-4), 2) := by decide +kernel
theorem dX11_hot_65 : decode cX11_hot 65 = .ok (.if_icmp .eq 16, 3) := by decide +kernel
theorem dX11_hot_68 : decode cX11_hot 68 = .ok (.iload 6, 2) := by decide +kernel
theorem dX11_hot_70 : decode cX11_hot 70 = .ok (.invokestatic 273, 3) := by decide +kernel
theorem dX11_hot_73 : decode cX11_hot 73 = .ok (.iload 5, 2) := by decide +kernel
theorem dX11_hot_75 : decode cX11_hot 75 = .ok (.invokestatic 273, 3) := by decide +kernel
theorem dX11_hot_78 : decode cX11_hot 78 = .ok (.if_icmp .ge 85, 3) := by decide +kernel
theorem dX11_hot_81 : decode cX11_hot 81 = .ok (.iconst 0, 1) := by decide +kernel
theorem dX11_hot_82 : decode cX11_hot 82 = .ok (.istore 7, 2) := by decide +kernel
theorem dX11_hot_84 : decode cX11_hot 84 = .ok (.iconst 0, 1) := by decide +kernel
theorem dX11_hot_85 : decode cX11_hot 85 = .ok (.istore 8, 2) := by decide +kernel
theorem dX11_hot_87 : decode cX11_hot 87 = .ok (.iload 8, 2) := by decide +kernel
theorem dX11_hot_89 : decode cX11_hot 89 = .ok (.aload_n 0, 1) := by decide +kernel
theorem dX11_hot_90 : decode cX11_hot 90 = .ok (.getfield 203, 3) := by decide +kernel
theorem dX11_hot_93 : decode cX11_hot 93 = .ok (.if_icmp .ge 44, 3) := by decide +kernel
theorem dX11_hot_96 : decode cX11_hot 96 = .ok (.iload 7, 2) := by decide +kernel
theorem dX11_hot_98 : decode cX11_hot 98 = .ok (.iload 6, 2) := by decide +kernel
theorem dX11_hot_100 : decode cX11_hot 100 = .ok (.iload 8, 2) := by decide +kernel
theorem dX11_hot_102 : decode cX11_hot 102 = .ok (.ishr, 1) := by decide +kernel
theorem dX11_hot_103 : decode cX11_hot 103 = .ok (.iconst 1, 1) := by decide +kernel
theorem dX11_hot_104 : decode cX11_hot 104 = .ok (.iand, 1) := by decide +kernel
theorem dX11_hot_105 : decode cX11_hot 105 = .ok (.iconst 1, 1) := by decide +kernel
theorem dX11_hot_106 : decode cX11_hot 106 = .ok (.if_icmp .ne 21, 3) := by decide +kernel
theorem dX11_hot_109 : decode cX11_hot 109 = .ok (.aload_n 0, 1) := by decide +kernel
theorem dX11_hot_110 : decode cX11_hot 110 = .ok (.getfield 28, 3) := by decide +kernel
theorem dX11_hot_113 : decode cX11_hot 113 = .ok (.iload 8, 2) := by decide +kernel
theorem dX11_hot_115 : decode cX11_hot 115 = .ok (.iaload, 1) := by decide +kernel
theorem dX11_hot_116 : decode cX11_hot 116 = .ok (.aload_n 0, 1) := by decide +kernel
theorem dX11_hot_117 : decode cX11_hot 117 = .ok (.iload 8, 2) := by decide +kernel
theorem dX11_hot_119 : decode cX11_hot 119 = .ok (.iload_n 1, 1) := by decide +kernel
theorem dX11_hot_120 : decode cX11_hot 120 = .ok (.invokevirtual 251, 3) := by decide +kernel
theorem dX11_hot_123 : decode cX11_hot 123 = .ok (.imul, 1) := by decide +kernel
theorem dX11_hot_124 : decode cX11_hot 124 = .ok (.goto 4, 3) := by decide +kernel
theorem dX11_hot_127 : decode cX11_hot 127 = .ok (.iconst 0, 1) := by decide +kernel
theorem dX11_hot_128 : decode cX11_hot 128 = .ok (.iadd, 1) := by decide +kernel
theorem dX11_hot_129 : decode cX11_hot 129 = .ok (.istore 7, 2) := by decide +kernel
theorem dX11_hot_131 : decode cX11_hot 131 = .ok (.iinc 8 1, 3) := by decide +kernel
theorem dX11_hot_134 : decode cX11_hot 134 = .ok (.goto (-47), 3) := by decide +kernel
theorem dX11_hot_137 : decode cX11_hot 137 = .ok (.ldc2_w 271, 3) := by decide +kernel
theorem dX11_hot_140 : decode cX11_hot 140 = .ok (.iload 7, 2) := by decide +kernel
theorem dX11_hot_142 : decode cX11_hot 142 = .ok (.i2l, 1) := by decide +kernel
theorem dX11_hot_143 : decode cX11_hot 143 = .ok (.lmul, 1) := by decide +kernel
theorem dX11_hot_144 : decode cX11_hot 144 = .ok (.iload_n 2, 1) := by decide +kernel
theorem dX11_hot_145 : decode cX11_hot 145 = .ok (.i2l, 1) := by decide +kernel
theorem dX11_hot_146 : decode cX11_hot 146 = .ok (.iload 4, 2) := by decide +kernel
theorem dX11_hot_148 : decode cX11_hot 148 = .ok (.i2l, 1) := by decide +kernel
theorem dX11_hot_149 : decode cX11_hot 149 = .ok (.lmul, 1) := by decide +kernel
theorem dX11_hot_150 : decode cX11_hot 150 = .ok (.lcmp, 1) := by decide +kernel
theorem dX11_hot_151 : decode cX11_hot 151 = .ok (.ifCond .lt 8, 3) := by decide +kernel
theorem dX11_hot_154 : decode cX11_hot 154 = .ok (.iload 6, 2) := by decide +kernel
theorem dX11_hot_156 : decode cX11_hot 156 = .ok (.goto 5, 3) := by decide +kernel
theorem dX11_hot_159 : decode cX11_hot 159 = .ok (.iload 5, 2) := by decide +kernel
theorem dX11_hot_161 : decode cX11_hot 161 = .ok (.istore 5, 2) := by decide +kernel
theorem dX11_hot_163 : decode cX11_hot 163 = .ok (.iinc 6 1, 3) := by decide +kernel
theorem dX11_hot_166 : decode cX11_hot 166 = .ok (.goto (-121), 3) := by decide +kernel
theorem dX11_hot_169 : decode cX11_hot 169 = .ok (.iload 5, 2) := by decide +kernel
theorem dX11_hot_171 : decode cX11_hot 171 = .ok (.bipush (-4), 2) := by decide +kernel
theorem dX11_hot_173 : decode cX11_hot 173 = .ok (.if_icmp .ne 8, 3) := by decide +kernel
theorem dX11_hot_176 : decode cX11_hot 176 = .ok (.bipush (-4), 2) := by decide +kernel
theorem dX11_hot_178 : decode cX11_hot 178 = .ok (.goto 17, 3) := by decide +kernel
theorem dX11_hot_181 : decode cX11_hot 181 = .ok (.iload_n 3, 1) := by decide +kernel
theorem dX11_hot_182 : decode cX11_hot 182 = .ok (.ifCond .ne 11, 3) := by decide +kernel
theorem dX11_hot_185 : decode cX11_hot 185 = .ok (.iload 5, 2) := by decide +kernel
theorem dX11_hot_187 : decode cX11_hot 187 = .ok (.invokestatic 273, 3) := by decide +kernel
theorem dX11_hot_190 : decode cX11_hot 190 = .ok (.goto 5, 3) := by decide +kernel
theorem dX11_hot_193 : decode cX11_hot 193 = .ok (.iload 5, 2) := by decide +kernel
theorem dX11_hot_195 : decode cX11_hot 195 = .ok (.ireturn, 1) := by decide +kernel
set_option maxRecDepth 100000 in
set_option maxHeartbeats 4000000 in
theorem M_X11_hot (G : zG) (l : Launch) {a1 : Int32} {a2 : Int32} {a3 : Int32} {σ : zS} {r : Int32} (hJ : J_X11_hot a1 a2 a3 σ = some r) : zMI G l yX11_hot cX11_hot 9 (some .int) (zrm 2 45) [.ref (G.1 + 105), .int a1, .int a2, .int a3] 137 (zen G σ) r 137 (zen G σ) := by
  unfold J_X11_hot at hJ
  refine zentI (by decide +kernel) (Nat.le_of_ble_eq_true rfl) ?_
  intro p e s m args below meth c C hret
  refine zr_sub [0, 1, 2, 3] [(0, .ref (G.1 + 105)), (1, .int a1), (2, .int a2), (3, .int a3)] rfl ?_
  refine zr_iload_n C 1 dX11_hot_0 rfl ?_
  obtain ⟨r1, hr1, hJ⟩ := zb_e hJ
  refine zr_callSI C (M_X11_isEvent G l hr1) zin_X11_isEvent zm_24_0 rfl rfl (Nat.le_of_ble_eq_true rfl) ⟨Nat.le_of_ble_eq_true rfl, Nat.le_of_ble_eq_true rfl⟩ ⟨Nat.le_of_ble_eq_true rfl, Nat.le_of_ble_eq_true rfl⟩ dX11_hot_1 ?_
  refine zr_if_eq C 29 dX11_hot_4 (by decide) (fun hc2 => ?_) (fun hc2 => ?_)
  · have hJ := zif hc2 hJ
    refine zr_iconst C dX11_hot_29 (v := (-1 : Int32)) (by decide) ?_
    exact zr_iret C hret (zs_e hJ) rfl rfl dX11_hot_30
  · have hJ := zif' hc2 hJ
    refine zr_iload_n C 2 dX11_hot_7 rfl ?_
    refine zr_i2l C dX11_hot_8 ?_
    refine zr_lconst C dX11_hot_9 (v := (1 : Int64)) (by decide) ?_
    refine zr_ldc2 C dX11_hot_10 zm_27_7 ?_
    obtain ⟨r3, hr3, hJ⟩ := zb_e hJ
    refine zr_callSI C (M_X11_in G l hr3) zin_X11_in zm_9_22 rfl rfl (Nat.le_of_ble_eq_true rfl) ⟨Nat.le_of_ble_eq_true rfl, Nat.le_of_ble_eq_true rfl⟩ ⟨Nat.le_of_ble_eq_true rfl, Nat.le_of_ble_eq_true rfl⟩ dX11_hot_13 ?_
    refine zr_if_eq C 29 dX11_hot_16 (by decide) (fun hc4 => ?_) (fun hc4 => ?_)
    · have hJ := zif hc4 hJ
      refine zr_iconst C dX11_hot_29 (v := (-1 : Int32)) (by decide) ?_
      exact zr_iret C hret (zs_e hJ) rfl rfl dX11_hot_30
    · have hJ := zif' hc4 hJ
      refine zr_iload_n C 3 dX11_hot_19 rfl ?_
      refine zr_i2l C dX11_hot_20 ?_
      refine zr_lconst C dX11_hot_21 (v := (0 : Int64)) (by decide) ?_
      refine zr_lconst C dX11_hot_22 (v := (1 : Int64)) (by decide) ?_
      obtain ⟨r5, hr5, hJ⟩ := zb_e hJ
      refine zr_callSI C (M_X11_in G l hr5) zin_X11_in zm_9_22 rfl rfl (Nat.le_of_ble_eq_true rfl) ⟨Nat.le_of_ble_eq_true rfl, Nat.le_of_ble_eq_true rfl⟩ ⟨Nat.le_of_ble_eq_true rfl, Nat.le_of_ble_eq_true rfl⟩ dX11_hot_23 ?_
      refine zr_if_ne C 31 dX11_hot_26 (by decide) (fun hc6 => ?_) (fun hc6 => ?_)
      · have hJ := zif' hc6 hJ
        refine zr_aload_n C 0 dX11_hot_31 rfl ?_
        refine zr_iload_n C 1 dX11_hot_32 rfl ?_
        obtain ⟨r7, hr7, hJ⟩ := zb_e hJ
        refine zr_callVI C 105 (zk_lt zk_105 (by decide)) (zen_obj zk_105) (rfl : zcl[11]? = some (RX11, TX11, 56)) (M_X11_total G l hr7) zin_X11_total zm_22_23 rfl rfl (Nat.le_of_ble_eq_true rfl) ⟨Nat.le_of_ble_eq_true rfl, Nat.le_of_ble_eq_true rfl⟩ ⟨Nat.le_of_ble_eq_true rfl, Nat.le_of_ble_eq_true rfl⟩ dX11_hot_33 ?_
        refine zr_istore C [(4, .int r7), (0, .ref (G.1 + 105)), (1, .int a1), (2, .int a2), (3, .int a3)] dX11_hot_36 (by decide) rfl ?_
        refine zr_bipush C dX11_hot_38 (v := (-4 : Int32)) (by decide) ?_
        refine zr_istore C [(5, .int (-4 : Int32)), (4, .int r7), (0, .ref (G.1 + 105)), (1, .int a1), (2, .int a2), (3, .int a3)] dX11_hot_40 (by decide) rfl ?_
        refine zr_iconst C dX11_hot_42 (v := (1 : Int32)) (by decide) ?_
        refine zr_istore C [(6, .int (1 : Int32)), (5, .int (-4 : Int32)), (4, .int r7), (0, .ref (G.1 + 105)), (1, .int a1), (2, .int a2), (3, .int a3)] dX11_hot_43 (by decide) rfl ?_
        obtain ⟨k169, hk169, hJ⟩ := zlet_e hJ
        have hj169 : ∀ (w5_169 : Int32), k169 w5_169 = some r → zU G 9 p l e (zrm 2 45) s m args below meth c (MQ below (va_Qi (fun x (_ : Unit) => x = r) (fun _ t => zok G 137 (zen G σ) t) (zA G)) args s 0 0 (zA G)) σ 169 [(3, .int a3), (5, .int w5_169)] [] := by
          intro w5_169 hJ
          rw [hk169] at hJ
          unfold D_X11_hot_169 at hJ
          refine zr_iload C 1 dX11_hot_169 rfl ?_
          refine zr_bipush C dX11_hot_171 (v := (-4 : Int32)) (by decide) ?_
          refine zr_icmp_ne C 181 dX11_hot_173 (by decide) (fun hc8 => ?_) (fun hc8 => ?_)
          · have hJ := zif' hc8 hJ
            refine zr_iload_n C 0 dX11_hot_181 rfl ?_
            refine zr_if_ne C 193 dX11_hot_182 (by decide) (fun hc9 => ?_) (fun hc9 => ?_)
            · have hJ := zif' hc9 hJ
              refine zr_iload C 1 dX11_hot_193 rfl ?_
              exact zr_iret C hret (zs_e hJ) rfl rfl dX11_hot_195
            · have hJ := zif hc9 hJ
              refine zr_iload C 1 dX11_hot_185 rfl ?_
              obtain ⟨r10, hr10, hJ⟩ := zb_e hJ
              refine zr_callSI C (M_X11_countOf G l hr10) zin_X11_countOf zm_27_8 rfl rfl (Nat.le_of_ble_eq_true rfl) ⟨Nat.le_of_ble_eq_true rfl, Nat.le_of_ble_eq_true rfl⟩ ⟨Nat.le_of_ble_eq_true rfl, Nat.le_of_ble_eq_true rfl⟩ dX11_hot_187 ?_
              refine zr_goto C 195 dX11_hot_190 (by decide) ?_
              exact zr_iret C hret (zs_e hJ) rfl rfl dX11_hot_195
          · have hJ := zif hc8 hJ
            refine zr_bipush C dX11_hot_176 (v := (-4 : Int32)) (by decide) ?_
            refine zr_goto C 195 dX11_hot_178 (by decide) ?_
            exact zr_iret C hret (zs_e hJ) rfl rfl dX11_hot_195
        have hl45 : ∀ (n : Nat) (w5_45 : Int32) (w6_45 : Int32), L_X11_hot_45 a1 a2 σ r7 k169 n w5_45 w6_45 = some r → zU G 9 p l e (zrm 2 45) s m args below meth c (MQ below (va_Qi (fun x (_ : Unit) => x = r) (fun _ t => zok G 137 (zen G σ) t) (zA G)) args s 0 0 (zA G)) σ 45 [(0, .ref (G.1 + 105)), (1, .int a1), (2, .int a2), (3, .int a3), (4, .int r7), (5, .int w5_45), (6, .int w6_45)] [] := by
          intro n
          induction n with
          | zero =>
            intro w5_45 w6_45 hJ
            rw [L_X11_hot_45] at hJ
            cases hJ
          | succ n ih =>
            intro w5_45 w6_45 hJ
            rw [L_X11_hot_45] at hJ
            obtain ⟨r_45, hr_45, hJ⟩ := zlet_e hJ
            have ih45 : ∀ (w5_45 : Int32) (w6_45 : Int32), r_45 w5_45 w6_45 = some r → zU G 9 p l e (zrm 2 45) s m args below meth c (MQ below (va_Qi (fun x (_ : Unit) => x = r) (fun _ t => zok G 137 (zen G σ) t) (zA G)) args s 0 0 (zA G)) σ 45 [(0, .ref (G.1 + 105)), (1, .int a1), (2, .int a2), (3, .int a3), (4, .int r7), (5, .int w5_45), (6, .int w6_45)] [] := by
              rw [hr_45]
              exact ih
            refine zr_iload C 6 dX11_hot_45 rfl ?_
            refine zr_iconst C dX11_hot_47 (v := (1 : Int32)) (by decide) ?_
            refine zr_aload_n C 0 dX11_hot_48 rfl ?_
            refine zg_11_0 C 105 zk_105 zm_16_22 dX11_hot_49 ?_
            refine zr_ishl C dX11_hot_52 ?_
            refine zr_icmp_ge C 169 dX11_hot_53 (by decide) (fun hc11 => ?_) (fun hc11 => ?_)
            · have hJ := zif hc11 hJ
              refine zr_sub [3, 5] [(3, .int a3), (5, .int w5_45)] rfl ?_
              exact hj169 _ hJ
            · have hJ := zif' hc11 hJ
              refine zr_iload C 4 dX11_hot_56 rfl ?_
              refine zr_if_le C 169 dX11_hot_58 (by decide) (fun hc12 => ?_) (fun hc12 => ?_)
              · have hJ := zif hc12 hJ
                refine zr_sub [3, 5] [(3, .int a3), (5, .int w5_45)] rfl ?_
                exact hj169 _ hJ
              · have hJ := zif' hc12 hJ
                refine zr_iload C 5 dX11_hot_61 rfl ?_
                refine zr_bipush C dX11_hot_63 (v := (-4 : Int32)) (by decide) ?_
                obtain ⟨k81, hk81, hJ⟩ := zlet_e hJ
                have hj81 : k81 = some r → zU G 9 p l e (zrm 2 45) s m args below meth c (MQ below (va_Qi (fun x (_ : Unit) => x = r) (fun _ t => zok G 137 (zen G σ) t) (zA G)) args s 0 0 (zA G)) σ 81 [(0, .ref (G.1 + 105)), (1, .int a1), (2, .int a2), (3, .int a3), (4, .int r7), (5, .int w5_45), (6, .int w6_45)] [] := by
                  intro hJ
                  rw [hk81] at hJ
                  unfold D_X11_hot_81 at hJ
                  refine zr_iconst C dX11_hot_81 (v := (0 : Int32)) (by decide) ?_
                  refine zr_istore C [(7, .int (0 : Int32)), (0, .ref (G.1 + 105)), (1, .int a1), (2, .int a2), (3, .int a3), (4, .int r7), (5, .int w5_45), (6, .int w6_45)] dX11_hot_82 (by decide) rfl ?_
                  refine zr_iconst C dX11_hot_84 (v := (0 : Int32)) (by decide) ?_
                  refine zr_istore C [(8, .int (0 : Int32)), (7, .int (0 : Int32)), (0, .ref (G.1 + 105)), (1, .int a1), (2, .int a2), (3, .int a3), (4, .int r7), (5, .int w5_45), (6, .int w6_45)] dX11_hot_85 (by decide) rfl ?_
                  obtain ⟨k137, hk137, hJ⟩ := zlet_e hJ
                  have hj137 : ∀ (w7_137 : Int32), k137 w7_137 = some r → zU G 9 p l e (zrm 2 45) s m args below meth c (MQ below (va_Qi (fun x (_ : Unit) => x = r) (fun _ t => zok G 137 (zen G σ) t) (zA G)) args s 0 0 (zA G)) σ 137 [(0, .ref (G.1 + 105)), (1, .int a1), (2, .int a2), (3, .int a3), (4, .int r7), (5, .int w5_45), (6, .int w6_45), (7, .int w7_137)] [] := by
                    intro w7_137 hJ
                    rw [hk137] at hJ
                    unfold D_X11_hot_137 at hJ
                    refine zr_ldc2 C dX11_hot_137 zm_27_7 ?_
                    refine zr_iload C 7 dX11_hot_140 rfl ?_
                    refine zr_i2l C dX11_hot_142 ?_
                    refine zr_lmul C dX11_hot_143 ?_
                    refine zr_iload_n C 2 dX11_hot_144 rfl ?_
                    refine zr_i2l C dX11_hot_145 ?_
                    refine zr_iload C 4 dX11_hot_146 rfl ?_
                    refine zr_i2l C dX11_hot_148 ?_
                    refine zr_lmul C dX11_hot_149 ?_
                    refine zr_lcmp C dX11_hot_150 ?_
                    obtain ⟨v13, hv13, hJ⟩ := zlet_e hJ
                    have hf15 : zU G 9 p l e (zrm 2 45) s m args below meth c (MQ below (va_Qi (fun x (_ : Unit) => x = r) (fun _ t => zok G 137 (zen G σ) t) (zA G)) args s 0 0 (zA G)) σ 161 [(0, .ref (G.1 + 105)), (1, .int a1), (2, .int a2), (3, .int a3), (4, .int r7), (6, .int w6_45)] [.int v13] := by
                      refine zr_istore C [(5, .int v13), (0, .ref (G.1 + 105)), (1, .int a1), (2, .int a2), (3, .int a3), (4, .int r7), (6, .int w6_45)] dX11_hot_161 (by decide) rfl ?_
                      obtain ⟨v14, hv14, hJ⟩ := zlet_e hJ
                      refine zr_iinc C v14 6 [(6, .int v14), (5, .int v13), (0, .ref (G.1 + 105)), (1, .int a1), (2, .int a2), (3, .int a3), (4, .int r7)] dX11_hot_163 rfl (hv14.trans (zinc (by decide))) (by decide) rfl ?_
                      refine zr_goto C 45 dX11_hot_166 (by decide) ?_
                      refine zr_sub [2, 3, 4, 5, 6, 1, 0] [(0, .ref (G.1 + 105)), (1, .int a1), (2, .int a2), (3, .int a3), (4, .int r7), (5, .int v13), (6, .int v14)] rfl ?_
                      exact ih45 _ _ hJ
                    refine zr_if_lt C 159 dX11_hot_151 (by decide) (fun hc16 => ?_) (fun hc16 => ?_)
                    · have hv13 := hv13.trans (if_pos hc16)
                      refine zr_iload C 5 dX11_hot_159 rfl ?_
                      refine zr_sub [0, 1, 2, 3, 4, 6] [(0, .ref (G.1 + 105)), (1, .int a1), (2, .int a2), (3, .int a3), (4, .int r7), (6, .int w6_45)] rfl ?_
                      rw [hv13] at hf15
                      exact hf15
                    · have hv13 := hv13.trans (if_neg hc16)
                      refine zr_iload C 6 dX11_hot_154 rfl ?_
                      refine zr_goto C 161 dX11_hot_156 (by decide) ?_
                      refine zr_sub [0, 1, 2, 3, 4, 6] [(0, .ref (G.1 + 105)), (1, .int a1), (2, .int a2), (3, .int a3), (4, .int r7), (6, .int w6_45)] rfl ?_
                      rw [hv13] at hf15
                      exact hf15
                  have hl87 : ∀ (n : Nat) (w7_87 : Int32) (w8_87 : Int32), L_X11_hot_87 a1 σ w6_45 k137 n w7_87 w8_87 = some r → zU G 9 p l e (zrm 2 45) s m args below meth c (MQ below (va_Qi (fun x (_ : Unit) => x = r) (fun _ t => zok G 137 (zen G σ) t) (zA G)) args s 0 0 (zA G)) σ 87 [(0, .ref (G.1 + 105)), (1, .int a1), (2, .int a2), (3, .int a3), (4, .int r7), (5, .int w5_45), (6, .int w6_45), (7, .int w7_87), (8, .int w8_87)] [] := by
                    intro n
                    induction n with
                    | zero =>
                      intro w7_87 w8_87 hJ
                      rw [L_X11_hot_87] at hJ
                      cases hJ
                    | succ n ih =>
                      intro w7_87 w8_87 hJ
                      rw [L_X11_hot_87] at hJ
                      obtain ⟨r_87, hr_87, hJ⟩ := zlet_e hJ
                      have ih87 : ∀ (w7_87 : Int32) (w8_87 : Int32), r_87 w7_87 w8_87 = some r → zU G 9 p l e (zrm 2 45) s m args below meth c (MQ below (va_Qi (fun x (_ : Unit) => x = r) (fun _ t => zok G 137 (zen G σ) t) (zA G)) args s 0 0 (zA G)) σ 87 [(0, .ref (G.1 + 105)), (1, .int a1), (2, .int a2), (3, .int a3), (4, .int r7), (5, .int w5_45), (6, .int w6_45), (7, .int w7_87), (8, .int w8_87)] [] := by
                        rw [hr_87]
                        exact ih
                      refine zr_iload C 8 dX11_hot_87 rfl ?_
                      refine zr_aload_n C 0 dX11_hot_89 rfl ?_
                      refine zg_11_0 C 105 zk_105 zm_16_22 dX11_hot_90 ?_
                      refine zr_icmp_ge C 137 dX11_hot_93 (by decide) (fun hc17 => ?_) (fun hc17 => ?_)
                      · have hJ := zif hc17 hJ
                        refine zr_sub [0, 1, 2, 3, 4, 5, 6, 7] [(0, .ref (G.1 + 105)), (1, .int a1), (2, .int a2), (3, .int a3), (4, .int r7), (5, .int w5_45), (6, .int w6_45), (7, .int w7_87)] rfl ?_
                        exact hj137 _ hJ
                      · have hJ := zif' hc17 hJ
                        refine zr_iload C 7 dX11_hot_96 rfl ?_
                        refine zr_iload C 6 dX11_hot_98 rfl ?_
                        refine zr_iload C 8 dX11_hot_100 rfl ?_
                        refine zr_ishr C dX11_hot_102 ?_
                        refine zr_iconst C dX11_hot_103 (v := (1 : Int32)) (by decide) ?_
                        refine zr_iand C dX11_hot_104 ?_
                        refine zr_iconst C dX11_hot_105 (v := (1 : Int32)) (by decide) ?_
                        refine zr_icmp_ne C 127 dX11_hot_106 (by decide) (fun hc18 => ?_) (fun hc18 => ?_)
                        · have hJ := zif' hc18 hJ
                          refine zr_iconst C dX11_hot_127 (v := (0 : Int32)) (by decide) ?_
                          refine zr_iadd C dX11_hot_128 ?_
                          obtain ⟨v19, hv19, hJ⟩ := zlet_e hJ
                          refine zr_topi hv19 ?_
                          refine zr_istore C [(7, .int v19), (0, .ref (G.1 + 105)), (1, .int a1), (2, .int a2), (3, .int a3), (4, .int r7), (5, .int w5_45), (6, .int w6_45), (8, .int w8_87)] dX11_hot_129 (by decide) rfl ?_
                          obtain ⟨v20, hv20, hJ⟩ := zlet_e hJ
                          refine zr_iinc C v20 8 [(8, .int v20), (7, .int v19), (0, .ref (G.1 + 105)), (1, .int a1), (2, .int a2), (3, .int a3), (4, .int r7), (5, .int w5_45), (6, .int w6_45)] dX11_hot_131 rfl (hv20.trans (zinc (by decide))) (by decide) rfl ?_
                          refine zr_goto C 87 dX11_hot_134 (by decide) ?_
                          refine zr_sub [2, 3, 4, 5, 6, 7, 8, 1, 0] [(0, .ref (G.1 + 105)), (1, .int a1), (2, .int a2), (3, .int a3), (4, .int r7), (5, .int w5_45), (6, .int w6_45), (7, .int v19), (8, .int v20)] rfl ?_
                          exact ih87 _ _ hJ
                        · have hJ := zif hc18 hJ
                          refine zr_aload_n C 0 dX11_hot_109 rfl ?_
                          refine zg_11_9 C 105 zk_105 zm_7_17 dX11_hot_110 ?_
                          refine zr_iload C 8 dX11_hot_113 rfl ?_
                          obtain ⟨hg21, hJ⟩ := zg_e hJ
                          refine zu_iald C 112 zk_112 hg21 dX11_hot_115 ?_
                          refine zr_aload_n C 0 dX11_hot_116 rfl ?_
                          refine zr_iload C 8 dX11_hot_117 rfl ?_
                          refine zr_iload_n C 1 dX11_hot_119 rfl ?_
                          obtain ⟨r22, hr22, hJ⟩ := zb_e hJ
                          refine zr_callVI C 105 (zk_lt zk_105 (by decide)) (zen_obj zk_105) (rfl : zcl[11]? = some (RX11, TX11, 56)) (M_X11_made G l hr22) zin_X11_made zm_21_9 rfl rfl (Nat.le_of_ble_eq_true rfl) ⟨Nat.le_of_ble_eq_true rfl, Nat.le_of_ble_eq_true rfl⟩ ⟨Nat.le_of_ble_eq_true rfl, Nat.le_of_ble_eq_true rfl⟩ dX11_hot_120 ?_
                          refine zr_imul C dX11_hot_123 ?_
                          refine zr_goto C 128 dX11_hot_124 (by decide) ?_
                          refine zr_iadd C dX11_hot_128 ?_
                          obtain ⟨v23, hv23, hJ⟩ := zlet_e hJ
                          refine zr_topi hv23 ?_
                          refine zr_istore C [(7, .int v23), (0, .ref (G.1 + 105)), (1, .int a1), (2, .int a2), (3, .int a3), (4, .int r7), (5, .int w5_45), (6, .int w6_45), (8, .int w8_87)] dX11_hot_129 (by decide) rfl ?_
                          obtain ⟨v24, hv24, hJ⟩ := zlet_e hJ
                          refine zr_iinc C v24 8 [(8, .int v24), (7, .int v23), (0, .ref (G.1 + 105)), (1, .int a1), (2, .int a2), (3, .int a3), (4, .int r7), (5, .int w5_45), (6, .int w6_45)] dX11_hot_131 rfl (hv24.trans (zinc (by decide))) (by decide) rfl ?_
                          refine zr_goto C 87 dX11_hot_134 (by decide) ?_
                          refine zr_sub [2, 3, 4, 5, 6, 7, 8, 1, 0] [(0, .ref (G.1 + 105)), (1, .int a1), (2, .int a2), (3, .int a3), (4, .int r7), (5, .int w5_45), (6, .int w6_45), (7, .int v23), (8, .int v24)] rfl ?_
                          exact ih87 _ _ hJ
                  refine zr_sub [2, 3, 4, 5, 6, 7, 8, 1, 0] [(0, .ref (G.1 + 105)), (1, .int a1), (2, .int a2), (3, .int a3), (4, .int r7), (5, .int w5_45), (6, .int w6_45), (7, .int (0 : Int32)), (8, .int (0 : Int32))] rfl ?_
                  exact hl87 _ _ _ hJ
                refine zr_icmp_eq C 81 dX11_hot_65 (by decide) (fun hc25 => ?_) (fun hc25 => ?_)
                · have hJ := zif hc25 hJ
                  exact hj81 hJ
                · have hJ := zif' hc25 hJ
                  refine zr_iload C 6 dX11_hot_68 rfl ?_
                  obtain ⟨r26, hr26, hJ⟩ := zb_e hJ
                  refine zr_callSI C (M_X11_countOf G l hr26) zin_X11_countOf zm_27_8 rfl rfl (Nat.le_of_ble_eq_true rfl) ⟨Nat.le_of_ble_eq_true rfl, Nat.le_of_ble_eq_true rfl⟩ ⟨Nat.le_of_ble_eq_true rfl, Nat.le_of_ble_eq_true rfl⟩ dX11_hot_70 ?_
                  refine zr_iload C 5 dX11_hot_73 rfl ?_
                  obtain ⟨r27, hr27, hJ⟩ := zb_e hJ
                  refine zr_callSI C (M_X11_countOf G l hr27) zin_X11_countOf zm_27_8 rfl rfl (Nat.le_of_ble_eq_true rfl) ⟨Nat.le_of_ble_eq_true rfl, Nat.le_of_ble_eq_true rfl⟩ ⟨Nat.le_of_ble_eq_true rfl, Nat.le_of_ble_eq_true rfl⟩ dX11_hot_75 ?_
                  refine zr_icmp_ge C 163 dX11_hot_78 (by decide) (fun hc28 => ?_) (fun hc28 => ?_)
                  · have hJ := zif hc28 hJ
                    obtain ⟨v29, hv29, hJ⟩ := zlet_e hJ
                    refine zr_iinc C v29 6 [(6, .int v29), (0, .ref (G.1 + 105)), (1, .int a1), (2, .int a2), (3, .int a3), (4, .int r7), (5, .int w5_45)] dX11_hot_163 rfl (hv29.trans (zinc (by decide))) (by decide) rfl ?_
                    refine zr_goto C 45 dX11_hot_166 (by decide) ?_
                    refine zr_sub [1, 2, 3, 4, 5, 6, 0] [(0, .ref (G.1 + 105)), (1, .int a1), (2, .int a2), (3, .int a3), (4, .int r7), (5, .int w5_45), (6, .int v29)] rfl ?_
                    exact ih45 _ _ hJ
                  · have hJ := zif' hc28 hJ
                    exact hj81 hJ
        refine zr_sub [3, 4, 5, 6, 2, 1, 0] [(0, .ref (G.1 + 105)), (1, .int a1), (2, .int a2), (3, .int a3), (4, .int r7), (5, .int (-4 : Int32)), (6, .int (1 : Int32))] rfl ?_
        exact hl45 _ _ _ hJ
      · have hJ := zif hc6 hJ
        refine zr_iconst C dX11_hot_29 (v := (-1 : Int32)) (by decide) ?_
        exact zr_iret C hret (zs_e hJ) rfl rfl dX11_hot_30
theorem dX11_look_0 : decode cX11_look 0 = .ok (.iload_n 1, 1) := by decide +kernel
theorem dX11_look_1 : decode cX11_look 1 = .ok (.aload_n 0, 1) := by decide +kernel
theorem dX11_look_2 : decode cX11_look 2 = .ok (.getfield 119, 3) := by decide +kernel
theorem dX11_look_5 : decode cX11_look 5 = .ok (.if_icmp .ge 12, 3) := by decide +kernel
theorem dX11_look_8 : decode cX11_look 8 = .ok (.aload_n 0, 1) := by decide +kernel
theorem dX11_look_9 : decode cX11_look 9 = .ok (.getfield 55, 3) := by decide +kernel
theorem dX11_look_12 : decode cX11_look 12 = .ok (.iload_n 1, 1) := by decide +kernel
theorem dX11_look_13 : decode cX11_look 13 = .ok (.iaload, 1) := by decide +kernel
theorem dX11_look_14 : decode cX11_look 14 = .ok (.goto 4, 3) := by decide +kernel
theorem dX11_look_17 : decode cX11_look 17 = .ok (.iconst (-1), 1) := by decide +kernel
theorem dX11_look_18 : decode cX11_look 18 = .ok (.ireturn, 1) := by decide +kernel
set_option maxRecDepth 100000 in
set_option maxHeartbeats 4000000 in
theorem M_X11_look (G : zG) (l : Launch) {a1 : Int32} {σ : zS} {r : Int32} (hJ : J_X11_look a1 σ = some r) : zMI G l yX11_look cX11_look 2 (some .int) (zrm 0 0) [.ref (G.1 + 105), .int a1] 137 (zen G σ) r 137 (zen G σ) := by
  unfold J_X11_look at hJ
  refine zentI (by decide +kernel) (Nat.le_of_ble_eq_true rfl) ?_
  intro p e s m args below meth c C hret
  refine zr_sub [0, 1] [(0, .ref (G.1 + 105)), (1, .int a1)] rfl ?_
  refine zr_iload_n C 1 dX11_look_0 rfl ?_
  refine zr_aload_n C 0 dX11_look_1 rfl ?_
  refine zg_11_25 C 105 zk_105 zm_9_12 dX11_look_2 ?_
  refine zr_icmp_ge C 17 dX11_look_5 (by decide) (fun hc1 => ?_) (fun hc1 => ?_)
  · have hJ := zif hc1 hJ
    refine zr_iconst C dX11_look_17 (v := (-1 : Int32)) (by decide) ?_
    exact zr_iret C hret (zs_e hJ) rfl rfl dX11_look_18
  · have hJ := zif' hc1 hJ
    refine zr_aload_n C 0 dX11_look_8 rfl ?_
    refine zg_11_24 C 105 zk_105 zm_8_2 dX11_look_9 ?_
    refine zr_iload_n C 1 dX11_look_12 rfl ?_
    obtain ⟨hg2, hJ⟩ := zg_e hJ
    refine zu_iald C 121 zk_121 hg2 dX11_look_13 ?_
    refine zr_goto C 18 dX11_look_14 (by decide) ?_
    exact zr_iret C hret (zs_e hJ) rfl rfl dX11_look_18
theorem dX11_is_0 : decode cX11_is 0 = .ok (.aload_n 0, 1) := by decide +kernel
theorem dX11_is_1 : decode cX11_is 1 = .ok (.getfield 137, 3) := by decide +kernel
theorem dX11_is_4 : decode cX11_is 4 = .ok (.aload_n 0, 1) := by decide +kernel
theorem dX11_is_5 : decode cX11_is 5 = .ok (.getfield 131, 3) := by decide +kernel
theorem dX11_is_8 : decode cX11_is 8 = .ok (.isub, 1) := by decide +kernel
theorem dX11_is_9 : decode cX11_is 9 = .ok (.iload_n 1, 1) := by decide +kernel
theorem dX11_is_10 : decode cX11_is 10 = .ok (.if_icmp .ne 68, 3) := by decide +kernel
theorem dX11_is_13 : decode cX11_is 13 = .ok (.aload_n 0, 1) := by decide +kernel
theorem dX11_is_14 : decode cX11_is 14 = .ok (.aload_n 0, 1) := by decide +kernel
theorem dX11_is_15 : decode cX11_is 15 = .ok (.getfield 131, 3) := by decide +kernel
theorem dX11_is_18 : decode cX11_is 18 = .ok (.invokevirtual 140, 3) := by decide +kernel
theorem dX11_is_21 : decode cX11_is 21 = .ok (.iload_n 2, 1) := by decide +kernel
theorem dX11_is_22 : decode cX11_is 22 = .ok (.if_icmp .ne 56, 3) := by decide +kernel
theorem dX11_is_25 : decode cX11_is 25 = .ok (.aload_n 0, 1) := by decide +kernel
theorem dX11_is_26 : decode cX11_is 26 = .ok (.aload_n 0, 1) := by decide +kernel
theorem dX11_is_27 : decode cX11_is 27 = .ok (.getfield 131, 3) := by decide +kernel
theorem dX11_is_30 : decode cX11_is 30 = .ok (.iconst 1, 1) := by decide +kernel
theorem dX11_is_31 : decode cX11_is 31 = .ok (.iadd, 1) := by decide +kernel
theorem dX11_is_32 : decode cX11_is 32 = .ok (.invokevirtual 140, 3) := by decide +kernel
theorem dX11_is_35 : decode cX11_is 35 = .ok (.iload_n 3, 1) := by decide +kernel
theorem dX11_is_36 : decode cX11_is 36 = .ok (.if_icmp .ne 42, 3) := by decide +kernel
theorem dX11_is_39 : decode cX11_is 39 = .ok (.aload_n 0, 1) := by decide +kernel
theorem dX11_is_40 : decode cX11_is 40 = .ok (.aload_n 0, 1) := by decide +kernel
theorem dX11_is_41 : decode cX11_is 41 = .ok (.getfield 131, 3) := by decide +kernel
theorem dX11_is_44 : decode cX11_is 44 = .ok (.iconst 2, 1) := by decide +kernel
theorem dX11_is_45 : decode cX11_is 45 = .ok (.iadd, 1) := by decide +kernel
theorem dX11_is_46 : decode cX11_is 46 = .ok (.invokevirtual 140, 3) := by decide +kernel
theorem dX11_is_49 : decode cX11_is 49 = .ok (.iload 4, 2) := by decide +kernel
theorem dX11_is_51 : decode cX11_is 51 = .ok (.if_icmp .ne 27, 3) := by decide +kernel
theorem dX11_is_54 : decode cX11_is 54 = .ok (.iload_n 1, 1) := by decide +kernel
theorem dX11_is_55 : decode cX11_is 55 = .ok (.iconst 4, 1) := by decide +kernel
theorem dX11_is_56 : decode cX11_is 56 = .ok (.if_icmp .lt 18, 3) := by decide +kernel
theorem dX11_is_59 : decode cX11_is 59 = .ok (.aload_n 0, 1) := by decide +kernel
theorem dX11_is_60 : decode cX11_is 60 = .ok (.aload_n 0, 1) := by decide +kernel
theorem dX11_is_61 : decode cX11_is 61 = .ok (.getfield 131, 3) := by decide +kernel
theorem dX11_is_64 : decode cX11_is 64 = .ok (.iconst 3, 1) := by decide +kernel
theorem dX11_is_65 : decode cX11_is 65 = .ok (.iadd, 1) := by decide +kernel
theorem dX11_is_66 : decode cX11_is 66 = .ok (.invokevirtual 140, 3) := by decide +kernel
theorem dX11_is_69 : decode cX11_is 69 = .ok (.iload 5, 2) := by decide +kernel
theorem dX11_is_71 : decode cX11_is 71 = .ok (.if_icmp .ne 7, 3) := by decide +kernel
theorem dX11_is_74 : decode cX11_is 74 = .ok (.iconst 1, 1) := by decide +kernel
theorem dX11_is_75 : decode cX11_is 75 = .ok (.goto 4, 3) := by decide +kernel
theorem dX11_is_78 : decode cX11_is 78 = .ok (.iconst 0, 1) := by decide +kernel
theorem dX11_is_79 : decode cX11_is 79 = .ok (.ireturn, 1) := by decide +kernel
set_option maxRecDepth 100000 in
set_option maxHeartbeats 4000000 in
theorem M_X11_is (G : zG) (l : Launch) {a1 : Int32} {a2 : Int32} {a3 : Int32} {a4 : Int32} {a5 : Int32} {σ : zS} {r : Int32} (hJ : J_X11_is a1 a2 a3 a4 a5 σ = some r) : zMI G l yX11_is cX11_is 6 (some .boolean) (zrm 1 21) [.ref (G.1 + 105), .int a1, .int a2, .int a3, .int a4, .int a5] 137 (zen G σ) r 137 (zen G σ) := by
  unfold J_X11_is at hJ
  refine zentI (by decide +kernel) (Nat.le_of_ble_eq_true rfl) ?_
  intro p e s m args below meth c C hret
  refine zr_sub [0, 1, 2, 3, 4, 5] [(0, .ref (G.1 + 105)), (1, .int a1), (2, .int a2), (3, .int a3), (4, .int a4), (5, .int a5)] rfl ?_
  refine zr_aload_n C 0 dX11_is_0 rfl ?_
  refine zg_11_26 C 105 zk_105 zm_16_14 dX11_is_1 ?_
  refine zr_aload_n C 0 dX11_is_4 rfl ?_
  refine zg_11_27 C 105 zk_105 zm_17_3 dX11_is_5 ?_
  refine zr_isub C dX11_is_8 ?_
  refine zr_iload_n C 1 dX11_is_9 rfl ?_
  refine zr_icmp_ne C 78 dX11_is_10 (by decide) (fun hc1 => ?_) (fun hc1 => ?_)
  · have hJ := zif' hc1 hJ
    refine zr_iconst C dX11_is_78 (v := (0 : Int32)) (by decide) ?_
    exact zr_zret C hret (zs_e hJ) rfl rfl rfl dX11_is_79
  · have hJ := zif hc1 hJ
    refine zr_aload_n C 0 dX11_is_13 rfl ?_
    refine zr_aload_n C 0 dX11_is_14 rfl ?_
    refine zg_11_27 C 105 zk_105 zm_17_3 dX11_is_15 ?_
    obtain ⟨r2, hr2, hJ⟩ := zb_e hJ
    refine zr_callVI C 105 (zk_lt zk_105 (by decide)) (zen_obj zk_105) (rfl : zcl[11]? = some (RX11, TX11, 56)) (M_X11_look G l hr2) zin_X11_look zm_17_9 rfl rfl (Nat.le_of_ble_eq_true rfl) ⟨Nat.le_of_ble_eq_true rfl, Nat.le_of_ble_eq_true rfl⟩ ⟨Nat.le_of_ble_eq_true rfl, Nat.le_of_ble_eq_true rfl⟩ dX11_is_18 ?_
    refine zr_iload_n C 2 dX11_is_21 rfl ?_
    refine zr_icmp_ne C 78 dX11_is_22 (by decide) (fun hc3 => ?_) (fun hc3 => ?_)
    · have hJ := zif' hc3 hJ
      refine zr_iconst C dX11_is_78 (v := (0 : Int32)) (by decide) ?_
      exact zr_zret C hret (zs_e hJ) rfl rfl rfl dX11_is_79
    · have hJ := zif hc3 hJ
      refine zr_aload_n C 0 dX11_is_25 rfl ?_
      refine zr_aload_n C 0 dX11_is_26 rfl ?_
      refine zg_11_27 C 105 zk_105 zm_17_3 dX11_is_27 ?_
      refine zr_iconst C dX11_is_30 (v := (1 : Int32)) (by decide) ?_
      refine zr_iadd C dX11_is_31 ?_
      obtain ⟨r4, hr4, hJ⟩ := zb_e hJ
      refine zr_callVI C 105 (zk_lt zk_105 (by decide)) (zen_obj zk_105) (rfl : zcl[11]? = some (RX11, TX11, 56)) (M_X11_look G l hr4) zin_X11_look zm_17_9 rfl rfl (Nat.le_of_ble_eq_true rfl) ⟨Nat.le_of_ble_eq_true rfl, Nat.le_of_ble_eq_true rfl⟩ ⟨Nat.le_of_ble_eq_true rfl, Nat.le_of_ble_eq_true rfl⟩ dX11_is_32 ?_
      refine zr_iload_n C 3 dX11_is_35 rfl ?_
      refine zr_icmp_ne C 78 dX11_is_36 (by decide) (fun hc5 => ?_) (fun hc5 => ?_)
      · have hJ := zif' hc5 hJ
        refine zr_iconst C dX11_is_78 (v := (0 : Int32)) (by decide) ?_
        exact zr_zret C hret (zs_e hJ) rfl rfl rfl dX11_is_79
      · have hJ := zif hc5 hJ
        refine zr_aload_n C 0 dX11_is_39 rfl ?_
        refine zr_aload_n C 0 dX11_is_40 rfl ?_
        refine zg_11_27 C 105 zk_105 zm_17_3 dX11_is_41 ?_
        refine zr_iconst C dX11_is_44 (v := (2 : Int32)) (by decide) ?_
        refine zr_iadd C dX11_is_45 ?_
        obtain ⟨r6, hr6, hJ⟩ := zb_e hJ
        refine zr_callVI C 105 (zk_lt zk_105 (by decide)) (zen_obj zk_105) (rfl : zcl[11]? = some (RX11, TX11, 56)) (M_X11_look G l hr6) zin_X11_look zm_17_9 rfl rfl (Nat.le_of_ble_eq_true rfl) ⟨Nat.le_of_ble_eq_true rfl, Nat.le_of_ble_eq_true rfl⟩ ⟨Nat.le_of_ble_eq_true rfl, Nat.le_of_ble_eq_true rfl⟩ dX11_is_46 ?_
        refine zr_iload C 4 dX11_is_49 rfl ?_
        refine zr_icmp_ne C 78 dX11_is_51 (by decide) (fun hc7 => ?_) (fun hc7 => ?_)
        · have hJ := zif' hc7 hJ
          refine zr_iconst C dX11_is_78 (v := (0 : Int32)) (by decide) ?_
          exact zr_zret C hret (zs_e hJ) rfl rfl rfl dX11_is_79
        · have hJ := zif hc7 hJ
          refine zr_iload_n C 1 dX11_is_54 rfl ?_
          refine zr_iconst C dX11_is_55 (v := (4 : Int32)) (by decide) ?_
          refine zr_icmp_lt C 74 dX11_is_56 (by decide) (fun hc8 => ?_) (fun hc8 => ?_)
          · have hJ := zif hc8 hJ
            refine zr_iconst C dX11_is_74 (v := (1 : Int32)) (by decide) ?_
            refine zr_goto C 79 dX11_is_75 (by decide) ?_
            exact zr_zret C hret (zs_e hJ) rfl rfl rfl dX11_is_79
          · have hJ := zif' hc8 hJ
            refine zr_aload_n C 0 dX11_is_59 rfl ?_
            refine zr_aload_n C 0 dX11_is_60 rfl ?_
            refine zg_11_27 C 105 zk_105 zm_17_3 dX11_is_61 ?_
            refine zr_iconst C dX11_is_64 (v := (3 : Int32)) (by decide) ?_
            refine zr_iadd C dX11_is_65 ?_
            obtain ⟨r9, hr9, hJ⟩ := zb_e hJ
            refine zr_callVI C 105 (zk_lt zk_105 (by decide)) (zen_obj zk_105) (rfl : zcl[11]? = some (RX11, TX11, 56)) (M_X11_look G l hr9) zin_X11_look zm_17_9 rfl rfl (Nat.le_of_ble_eq_true rfl) ⟨Nat.le_of_ble_eq_true rfl, Nat.le_of_ble_eq_true rfl⟩ ⟨Nat.le_of_ble_eq_true rfl, Nat.le_of_ble_eq_true rfl⟩ dX11_is_66 ?_
            refine zr_iload C 5 dX11_is_69 rfl ?_
            refine zr_icmp_ne C 78 dX11_is_71 (by decide) (fun hc10 => ?_) (fun hc10 => ?_)
            · have hJ := zif' hc10 hJ
              refine zr_iconst C dX11_is_78 (v := (0 : Int32)) (by decide) ?_
              exact zr_zret C hret (zs_e hJ) rfl rfl rfl dX11_is_79
            · have hJ := zif hc10 hJ
              refine zr_iconst C dX11_is_74 (v := (1 : Int32)) (by decide) ?_
              refine zr_goto C 79 dX11_is_75 (by decide) ?_
              exact zr_zret C hret (zs_e hJ) rfl rfl rfl dX11_is_79
theorem dX11_isLine_0 : decode cX11_isLine 0 = .ok (.iload_n 1, 1) := by decide +kernel
theorem dX11_isLine_1 : decode cX11_isLine 1 = .ok (.i2l, 1) := by decide +kernel
theorem dX11_isLine_2 : decode cX11_isLine 2 = .ok (.lconst 0, 1) := by decide +kernel
theorem dX11_isLine_3 : decode cX11_isLine 3 = .ok (.aload_n 0, 1) := by decide +kernel
theorem dX11_isLine_4 : decode cX11_isLine 4 = .ok (.getfield 203, 3) := by decide +kernel
theorem dX11_isLine_7 : decode cX11_isLine 7 = .ok (.iconst 1, 1) := by decide +kernel
theorem dX11_isLine_8 : decode cX11_isLine 8 = .ok (.isub, 1) := by decide +kernel
theorem dX11_isLine_9 : decode cX11_isLine 9 = .ok (.i2l, 1) := by decide +kernel
theorem dX11_isLine_10 : decode cX11_isLine 10 = .ok (.invokestatic 124, 3) := by decide +kernel
theorem dX11_isLine_13 : decode cX11_isLine 13 = .ok (.ireturn, 1) := by decide +kernel
set_option maxRecDepth 100000 in
set_option maxHeartbeats 4000000 in
theorem M_X11_isLine (G : zG) (l : Launch) {a1 : Int32} {σ : zS} {r : Int32} (hJ : J_X11_isLine a1 σ = some r) : zMI G l yX11_isLine cX11_isLine 2 (some .boolean) (zrm 1 25) [.ref (G.1 + 105), .int a1] 137 (zen G σ) r 137 (zen G σ) := by
  unfold J_X11_isLine at hJ
  refine zentI (by decide +kernel) (Nat.le_of_ble_eq_true rfl) ?_
  intro p e s m args below meth c C hret
  refine zr_sub [0, 1] [(0, .ref (G.1 + 105)), (1, .int a1)] rfl ?_
  refine zr_iload_n C 1 dX11_isLine_0 rfl ?_
  refine zr_i2l C dX11_isLine_1 ?_
  refine zr_lconst C dX11_isLine_2 (v := (0 : Int64)) (by decide) ?_
  refine zr_aload_n C 0 dX11_isLine_3 rfl ?_
  refine zg_11_0 C 105 zk_105 zm_16_22 dX11_isLine_4 ?_
  refine zr_iconst C dX11_isLine_7 (v := (1 : Int32)) (by decide) ?_
  refine zr_isub C dX11_isLine_8 ?_
  refine zr_i2l C dX11_isLine_9 ?_
  obtain ⟨r1, hr1, hJ⟩ := zb_e hJ
  refine zr_callSI C (M_X11_in G l hr1) zin_X11_in zm_9_22 rfl rfl (Nat.le_of_ble_eq_true rfl) ⟨Nat.le_of_ble_eq_true rfl, Nat.le_of_ble_eq_true rfl⟩ ⟨Nat.le_of_ble_eq_true rfl, Nat.le_of_ble_eq_true rfl⟩ dX11_isLine_10 ?_
  obtain ⟨hg2, hJ⟩ := zg_e hJ
  exact zr_zret C hret (zs_e hJ) (zbl_n hg2) rfl rfl dX11_isLine_13
theorem dX11_isSheet_0 : decode cX11_isSheet 0 = .ok (.iload_n 0, 1) := by decide +kernel
theorem dX11_isSheet_1 : decode cX11_isSheet 1 = .ok (.i2l, 1) := by decide +kernel
theorem dX11_isSheet_2 : decode cX11_isSheet 2 = .ok (.lconst 0, 1) := by decide +kernel
theorem dX11_isSheet_3 : decode cX11_isSheet 3 = .ok (.ldc2_w 319, 3) := by decide +kernel
theorem dX11_isSheet_6 : decode cX11_isSheet 6 = .ok (.invokestatic 124, 3) := by decide +kernel
theorem dX11_isSheet_9 : decode cX11_isSheet 9 = .ok (.ifCond .eq 19, 3) := by decide +kernel
theorem dX11_isSheet_12 : decode cX11_isSheet 12 = .ok (.iload_n 1, 1) := by decide +kernel
theorem dX11_isSheet_13 : decode cX11_isSheet 13 = .ok (.i2l, 1) := by decide +kernel
theorem dX11_isSheet_14 : decode cX11_isSheet 14 = .ok (.lconst 0, 1) := by decide +kernel
theorem dX11_isSheet_15 : decode cX11_isSheet 15 = .ok (.ldc2_w 282, 3) := by decide +kernel
theorem dX11_isSheet_18 : decode cX11_isSheet 18 = .ok (.invokestatic 124, 3) := by decide +kernel
theorem dX11_isSheet_21 : decode cX11_isSheet 21 = .ok (.ifCond .eq 7, 3) := by decide +kernel
theorem dX11_isSheet_24 : decode cX11_isSheet 24 = .ok (.iconst 1, 1) := by decide +kernel
theorem dX11_isSheet_25 : decode cX11_isSheet 25 = .ok (.goto 4, 3) := by decide +kernel
theorem dX11_isSheet_28 : decode cX11_isSheet 28 = .ok (.iconst 0, 1) := by decide +kernel
theorem dX11_isSheet_29 : decode cX11_isSheet 29 = .ok (.ireturn, 1) := by decide +kernel
set_option maxRecDepth 100000 in
set_option maxHeartbeats 4000000 in
theorem M_X11_isSheet (G : zG) (l : Launch) {a0 : Int32} {a1 : Int32} {σ : zS} {r : Int32} (hJ : J_X11_isSheet a0 a1 σ = some r) : zMI G l yX11_isSheet cX11_isSheet 2 (some .boolean) (zrm 1 25) [.int a0, .int a1] 137 (zen G σ) r 137 (zen G σ) := by
  unfold J_X11_isSheet at hJ
  refine zentI (by decide +kernel) (Nat.le_of_ble_eq_true rfl) ?_
  intro p e s m args below meth c C hret
  refine zr_sub [0, 1] [(0, .int a0), (1, .int a1)] rfl ?_
  refine zr_iload_n C 0 dX11_isSheet_0 rfl ?_
  refine zr_i2l C dX11_isSheet_1 ?_
  refine zr_lconst C dX11_isSheet_2 (v := (0 : Int64)) (by decide) ?_
  refine zr_ldc2 C dX11_isSheet_3 zm_36_14 ?_
  obtain ⟨r1, hr1, hJ⟩ := zb_e hJ
  refine zr_callSI C (M_X11_in G l hr1) zin_X11_in zm_9_22 rfl rfl (Nat.le_of_ble_eq_true rfl) ⟨Nat.le_of_ble_eq_true rfl, Nat.le_of_ble_eq_true rfl⟩ ⟨Nat.le_of_ble_eq_true rfl, Nat.le_of_ble_eq_true rfl⟩ dX11_isSheet_6 ?_
  refine zr_if_eq C 28 dX11_isSheet_9 (by decide) (fun hc2 => ?_) (fun hc2 => ?_)
  · have hJ := zif hc2 hJ
    refine zr_iconst C dX11_isSheet_28 (v := (0 : Int32)) (by decide) ?_
    exact zr_zret C hret (zs_e hJ) rfl rfl rfl dX11_isSheet_29
  · have hJ := zif' hc2 hJ
    refine zr_iload_n C 1 dX11_isSheet_12 rfl ?_
    refine zr_i2l C dX11_isSheet_13 ?_
    refine zr_lconst C dX11_isSheet_14 (v := (0 : Int64)) (by decide) ?_
    refine zr_ldc2 C dX11_isSheet_15 zm_30_16 ?_
    obtain ⟨r3, hr3, hJ⟩ := zb_e hJ
    refine zr_callSI C (M_X11_in G l hr3) zin_X11_in zm_9_22 rfl rfl (Nat.le_of_ble_eq_true rfl) ⟨Nat.le_of_ble_eq_true rfl, Nat.le_of_ble_eq_true rfl⟩ ⟨Nat.le_of_ble_eq_true rfl, Nat.le_of_ble_eq_true rfl⟩ dX11_isSheet_18 ?_
    refine zr_if_eq C 28 dX11_isSheet_21 (by decide) (fun hc4 => ?_) (fun hc4 => ?_)
    · have hJ := zif hc4 hJ
      refine zr_iconst C dX11_isSheet_28 (v := (0 : Int32)) (by decide) ?_
      exact zr_zret C hret (zs_e hJ) rfl rfl rfl dX11_isSheet_29
    · have hJ := zif' hc4 hJ
      refine zr_iconst C dX11_isSheet_24 (v := (1 : Int32)) (by decide) ?_
      refine zr_goto C 29 dX11_isSheet_25 (by decide) ?_
      exact zr_zret C hret (zs_e hJ) rfl rfl rfl dX11_isSheet_29
theorem dX11_isWithin_0 : decode cX11_isWithin 0 = .ok (.iconst 0, 1) := by decide +kernel
theorem dX11_isWithin_1 : decode cX11_isWithin 1 = .ok (.istore_n 3, 1) := by decide +kernel
theorem dX11_isWithin_2 : decode cX11_isWithin 2 = .ok (.iload_n 1, 1) := by decide +kernel
theorem dX11_isWithin_3 : decode cX11_isWithin 3 = .ok (.istore 4, 2) := by decide +kernel
theorem dX11_isWithin_5 : decode cX11_isWithin 5 = .ok (.iload 4, 2) := by decide +kernel
theorem dX11_isWithin_7 : decode cX11_isWithin 7 = .ok (.bipush (-4), 2) := by decide +kernel
theorem dX11_isWithin_9 : decode cX11_isWithin 9 = .ok (.if_icmp .eq 31, 3) := by decide +kernel
theorem dX11_isWithin_12 : decode cX11_isWithin 12 = .ok (.iload_n 3, 1) := by decide +kernel
theorem dX11_isWithin_13 : decode cX11_isWithin 13 = .ok (.ifCond .ne 9, 3) := by decide +kernel
theorem dX11_isWithin_16 : decode cX11_isWithin 16 = .ok (.iload 4, 2) := by decide +kernel
theorem dX11_isWithin_18 : decode cX11_isWithin 18 = .ok (.iload_n 2, 1) := by decide +kernel
theorem dX11_isWithin_19 : decode cX11_isWithin 19 = .ok (.if_icmp .ne 7, 3) := by decide +kernel
theorem dX11_isWithin_22 : decode cX11_isWithin 22 = .ok (.iconst 1, 1) := by decide +kernel
theorem dX11_isWithin_23 : decode cX11_isWithin 23 = .ok (.goto 4, 3) := by decide +kernel
theorem dX11_isWithin_26 : decode cX11_isWithin 26 = .ok (.iconst 0, 1) := by decide +kernel
theorem dX11_isWithin_27 : decode cX11_isWithin 27 = .ok (.istore_n 3, 1) := by decide +kernel
theorem dX11_isWithin_28 : decode cX11_isWithin 28 = .ok (.aload_n 0, 1) := by decide +kernel
theorem dX11_isWithin_29 : decode cX11_isWithin 29 = .ok (.getfield 22, 3) := by decide +kernel
theorem dX11_isWithin_32 : decode cX11_isWithin 32 = .ok (.iload 4, 2) := by decide +kernel
theorem dX11_isWithin_34 : decode cX11_isWithin 34 = .ok (.iaload, 1) := by decide +kernel
theorem dX11_isWithin_35 : decode cX11_isWithin 35 = .ok (.istore 4, 2) := by decide +kernel
theorem dX11_isWithin_37 : decode cX11_isWithin 37 = .ok (.goto (-32), 3) := by decide +kernel
theorem dX11_isWithin_40 : decode cX11_isWithin 40 = .ok (.iload_n 3, 1) := by decide +kernel
theorem dX11_isWithin_41 : decode cX11_isWithin 41 = .ok (.ireturn, 1) := by decide +kernel
set_option maxRecDepth 100000 in
set_option maxHeartbeats 4000000 in
theorem M_X11_isWithin (G : zG) (l : Launch) {a1 : Int32} {a2 : Int32} {σ : zS} {r : Int32} (hJ : J_X11_isWithin a1 a2 σ = some r) : zMI G l yX11_isWithin cX11_isWithin 5 (some .boolean) (zrm 0 0) [.ref (G.1 + 105), .int a1, .int a2] 137 (zen G σ) r 137 (zen G σ) := by
  unfold J_X11_isWithin at hJ
  refine zentI (by decide +kernel) (Nat.le_of_ble_eq_true rfl) ?_
  intro p e s m args below meth c C hret
  refine zr_sub [0, 1, 2] [(0, .ref (G.1 + 105)), (1, .int a1), (2, .int a2)] rfl ?_
  refine zr_iconst C dX11_isWithin_0 (v := (0 : Int32)) (by decide) ?_
  refine zr_istore_n C [(3, .int (0 : Int32)), (0, .ref (G.1 + 105)), (1, .int a1), (2, .int a2)] dX11_isWithin_1 (by decide) rfl ?_
  refine zr_iload_n C 2 dX11_isWithin_2 rfl ?_
  refine zr_istore C [(4, .int a1), (3, .int (0 : Int32)), (0, .ref (G.1 + 105)), (1, .int a1), (2, .int a2)] dX11_isWithin_3 (by decide) rfl ?_
  have hl5 : ∀ (n : Nat) (w3_5 : Int32) (w4_5 : Int32), L_X11_isWithin_5 a2 σ n w3_5 w4_5 = some r → zU G 5 p l e (zrm 0 0) s m args below meth c (MQ below (va_Qi (fun x (_ : Unit) => x = r) (fun _ t => zok G 137 (zen G σ) t) (zA G)) args s 0 0 (zA G)) σ 5 [(0, .ref (G.1 + 105)), (2, .int a2), (3, .int w3_5), (4, .int w4_5)] [] := by
    intro n
    induction n with
    | zero =>
      intro w3_5 w4_5 hJ
      rw [L_X11_isWithin_5] at hJ
      cases hJ
    | succ n ih =>
      intro w3_5 w4_5 hJ
      rw [L_X11_isWithin_5] at hJ
      obtain ⟨r_5, hr_5, hJ⟩ := zlet_e hJ
      have ih5 : ∀ (w3_5 : Int32) (w4_5 : Int32), r_5 w3_5 w4_5 = some r → zU G 5 p l e (zrm 0 0) s m args below meth c (MQ below (va_Qi (fun x (_ : Unit) => x = r) (fun _ t => zok G 137 (zen G σ) t) (zA G)) args s 0 0 (zA G)) σ 5 [(0, .ref (G.1 + 105)), (2, .int a2), (3, .int w3_5), (4, .int w4_5)] [] := by
        rw [hr_5]
        exact ih
      refine zr_iload C 3 dX11_isWithin_5 rfl ?_
      refine zr_bipush C dX11_isWithin_7 (v := (-4 : Int32)) (by decide) ?_
      refine zr_icmp_eq C 40 dX11_isWithin_9 (by decide) (fun hc1 => ?_) (fun hc1 => ?_)
      · have hJ := zif hc1 hJ
        refine zr_iload_n C 2 dX11_isWithin_40 rfl ?_
        obtain ⟨hg2, hJ⟩ := zg_e hJ
        exact zr_zret C hret (zs_e hJ) (zbl_n hg2) rfl rfl dX11_isWithin_41
      · have hJ := zif' hc1 hJ
        refine zr_iload_n C 2 dX11_isWithin_12 rfl ?_
        obtain ⟨v3, hv3, hJ⟩ := zlet_e hJ
        have hf6 : zU G 5 p l e (zrm 0 0) s m args below meth c (MQ below (va_Qi (fun x (_ : Unit) => x = r) (fun _ t => zok G 137 (zen G σ) t) (zA G)) args s 0 0 (zA G)) σ 27 [(0, .ref (G.1 + 105)), (2, .int a2), (4, .int w4_5)] [.int v3] := by
          refine zr_istore_n C [(3, .int v3), (0, .ref (G.1 + 105)), (2, .int a2), (4, .int w4_5)] dX11_isWithin_27 (by decide) rfl ?_
          refine zr_aload_n C 1 dX11_isWithin_28 rfl ?_
          refine zg_11_6 C 105 zk_105 zm_7_15 dX11_isWithin_29 ?_
          refine zr_iload C 3 dX11_isWithin_32 rfl ?_
          obtain ⟨hg4, hJ⟩ := zg_e hJ
          refine zu_iald C 110 zk_110 hg4 dX11_isWithin_34 ?_
          obtain ⟨v5, hv5, hJ⟩ := zlet_e hJ
          refine zr_topi hv5 ?_
          refine zr_istore C [(4, .int v5), (3, .int v3), (0, .ref (G.1 + 105)), (2, .int a2)] dX11_isWithin_35 (by decide) rfl ?_
          refine zr_goto C 5 dX11_isWithin_37 (by decide) ?_
          refine zr_sub [2, 3, 1, 0] [(0, .ref (G.1 + 105)), (2, .int a2), (3, .int v3), (4, .int v5)] rfl ?_
          exact ih5 _ _ hJ
        refine zr_if_ne C 22 dX11_isWithin_13 (by decide) (fun hc7 => ?_) (fun hc7 => ?_)
        · have hv3 := hv3.trans (if_neg hc7)
          refine zr_iconst C dX11_isWithin_22 (v := (1 : Int32)) (by decide) ?_
          refine zr_goto C 27 dX11_isWithin_23 (by decide) ?_
          refine zr_sub [0, 1, 3] [(0, .ref (G.1 + 105)), (2, .int a2), (4, .int w4_5)] rfl ?_
          rw [hv3] at hf6
          exact hf6
        · have hv3 := hv3.trans (if_pos hc7)
          refine zr_iload C 3 dX11_isWithin_16 rfl ?_
          refine zr_iload_n C 1 dX11_isWithin_18 rfl ?_
          refine zr_icmp_ne C 26 dX11_isWithin_19 (by decide) (fun hc8 => ?_) (fun hc8 => ?_)
          · have hv3 := hv3.trans (if_neg hc8)
            refine zr_iconst C dX11_isWithin_26 (v := (0 : Int32)) (by decide) ?_
            refine zr_sub [0, 1, 3] [(0, .ref (G.1 + 105)), (2, .int a2), (4, .int w4_5)] rfl ?_
            rw [hv3] at hf6
            exact hf6
          · have hv3 := hv3.trans (if_pos hc8)
            refine zr_iconst C dX11_isWithin_22 (v := (1 : Int32)) (by decide) ?_
            refine zr_goto C 27 dX11_isWithin_23 (by decide) ?_
            refine zr_sub [0, 1, 3] [(0, .ref (G.1 + 105)), (2, .int a2), (4, .int w4_5)] rfl ?_
            rw [hv3] at hf6
            exact hf6
  refine zr_sub [2, 4, 1, 0] [(0, .ref (G.1 + 105)), (2, .int a2), (3, .int (0 : Int32)), (4, .int a1)] rfl ?_
  exact hl5 _ _ _ hJ
theorem dX11_keep_0 : decode cX11_keep 0 = .ok (.aload_n 0, 1) := by decide +kernel
theorem dX11_keep_1 : decode cX11_keep 1 = .ok (.aload_n 0, 1) := by decide +kernel
theorem dX11_keep_2 : decode cX11_keep 2 = .ok (.getfield 203, 3) := by decide +kernel
theorem dX11_keep_5 : decode cX11_keep 5 = .ok (.putfield 276, 3) := by decide +kernel
theorem dX11_keep_8 : decode cX11_keep 8 = .ok (.iconst 0, 1) := by decide +kernel
theorem dX11_keep_9 : decode cX11_keep 9 = .ok (.istore_n 1, 1) := by decide +kernel
theorem dX11_keep_10 : decode cX11_keep 10 = .ok (.iload_n 1, 1) := by decide +kernel
theorem dX11_keep_11 : decode cX11_keep 11 = .ok (.bipush 16, 2) := by decide +kernel
theorem dX11_keep_13 : decode cX11_keep 13 = .ok (.if_icmp .ge 59, 3) := by decide +kernel
theorem dX11_keep_16 : decode cX11_keep 16 = .ok (.iconst 0, 1) := by decide +kernel
theorem dX11_keep_17 : decode cX11_keep 17 = .ok (.istore_n 2, 1) := by decide +kernel
theorem dX11_keep_18 : decode cX11_keep 18 = .ok (.iload_n 2, 1) := by decide +kernel
theorem dX11_keep_19 : decode cX11_keep 19 = .ok (.bipush 8, 2) := by decide +kernel
theorem dX11_keep_21 : decode cX11_keep 21 = .ok (.if_icmp .ge 45, 3) := by decide +kernel
theorem dX11_keep_24 : decode cX11_keep 24 = .ok (.aload_n 0, 1) := by decide +kernel
theorem dX11_keep_25 : decode cX11_keep 25 = .ok (.getfield 64, 3) := by decide +kernel
theorem dX11_keep_28 : decode cX11_keep 28 = .ok (.bipush 8, 2) := by decide +kernel
theorem dX11_keep_30 : decode cX11_keep 30 = .ok (.iload_n 1, 1) := by decide +kernel
theorem dX11_keep_31 : decode cX11_keep 31 = .ok (.imul, 1) := by decide +kernel
theorem dX11_keep_32 : decode cX11_keep 32 = .ok (.iload_n 2, 1) := by decide +kernel
theorem dX11_keep_33 : decode cX11_keep 33 = .ok (.iadd, 1) := by decide +kernel
theorem dX11_keep_34 : decode cX11_keep 34 = .ok (.iload_n 1, 1) := by decide +kernel
theorem dX11_keep_35 : decode cX11_keep 35 = .ok (.aload_n 0, 1) := by decide +kernel
theorem dX11_keep_36 : decode cX11_keep 36 = .ok (.getfield 203, 3) := by decide +kernel
theorem dX11_keep_39 : decode cX11_keep 39 = .ok (.if_icmp .ge 19, 3) := by decide +kernel
theorem dX11_keep_42 : decode cX11_keep 42 = .ok (.aload_n 0, 1) := by decide +kernel
theorem dX11_keep_43 : decode cX11_keep 43 = .ok (.getfield 28, 3) := by decide +kernel
theorem dX11_keep_46 : decode cX11_keep 46 = .ok (.iload_n 1, 1) := by decide +kernel
theorem dX11_keep_47 : decode cX11_keep 47 = .ok (.iaload, 1) := by decide +kernel
theorem dX11_keep_48 : decode cX11_keep 48 = .ok (.aload_n 0, 1) := by decide +kernel
theorem dX11_keep_49 : decode cX11_keep 49 = .ok (.iload_n 1, 1) := by decide +kernel
theorem dX11_keep_50 : decode cX11_keep 50 = .ok (.iload_n 2, 1) := by decide +kernel
theorem dX11_keep_51 : decode cX11_keep 51 = .ok (.invokevirtual 251, 3) := by decide +kernel
theorem dX11_keep_54 : decode cX11_keep 54 = .ok (.imul, 1) := by decide +kernel
theorem dX11_keep_55 : decode cX11_keep 55 = .ok (.goto 4, 3) := by decide +kernel
theorem dX11_keep_58 : decode cX11_keep 58 = .ok (.iconst 0, 1) := by decide +kernel
theorem dX11_keep_59 : decode cX11_keep 59 = .ok (.iastore, 1) := by decide +kernel
theorem dX11_keep_60 : decode cX11_keep 60 = .ok (.iinc 2 1, 3) := by decide +kernel
theorem dX11_keep_63 : decode cX11_keep 63 = .ok (.goto (-45), 3) := by decide +kernel
theorem dX11_keep_66 : decode cX11_keep 66 = .ok (.iinc 1 1, 3) := by decide +kernel
theorem dX11_keep_69 : decode cX11_keep 69 = .ok (.goto (-59), 3) := by decide +kernel
theorem dX11_keep_72 : decode cX11_keep 72 = .ok (.aload_n 0, 1) := by decide +kernel
theorem dX11_keep_73 : decode cX11_keep 73 = .ok (.getfield 276, 3) := by decide +kernel
theorem dX11_keep_76 : decode cX11_keep 76 = .ok (.ireturn, 1) := by decide +kernel
set_option maxRecDepth 100000 in
set_option maxHeartbeats 4000000 in
theorem M_X11_keep (G : zG) (l : Launch) {σ : zS} {r : Int32} {σ' : zS} (hJ : J_X11_keep σ = some (r, σ')) : zMI G l yX11_keep cX11_keep 3 (some .int) (zrm 1 22) [.ref (G.1 + 105)] 137 (zen G σ) r 137 (zen G σ') := by
  unfold J_X11_keep at hJ
  refine zentI (by decide +kernel) (Nat.le_of_ble_eq_true rfl) ?_
  intro p e s m args below meth c C hret
  refine zr_sub [0] [(0, .ref (G.1 + 105))] rfl ?_
  refine zr_aload_n C 0 dX11_keep_0 rfl ?_
  refine zr_aload_n C 0 dX11_keep_1 rfl ?_
  refine zg_11_0 C 105 zk_105 zm_16_22 dX11_keep_2 ?_
  obtain ⟨σ1, hσ1, hJ⟩ := zlet_e hJ
  refine zp_11_34 C 105 zk_105 zm_28_0 hσ1 dX11_keep_5 ?_
  refine zr_iconst C dX11_keep_8 (v := (0 : Int32)) (by decide) ?_
  refine zr_istore_n C [(1, .int (0 : Int32)), (0, .ref (G.1 + 105))] dX11_keep_9 (by decide) rfl ?_
  have hl10 : ∀ (n : Nat) (w1_10 : Int32) (σ_10 : zS), L_X11_keep_10 n w1_10 σ_10 = some (r, σ') → zU G 3 p l e (zrm 1 22) s m args below meth c (MQ below (va_Qi (fun x (_ : Unit) => x = r) (fun _ t => zok G 137 (zen G σ') t) (zA G)) args s 0 0 (zA G)) σ_10 10 [(0, .ref (G.1 + 105)), (1, .int w1_10)] [] := by
    intro n
    induction n with
    | zero =>
      intro w1_10 σ_10 hJ
      rw [L_X11_keep_10] at hJ
      cases hJ
    | succ n ih =>
      intro w1_10 σ_10 hJ
      rw [L_X11_keep_10] at hJ
      obtain ⟨r_10, hr_10, hJ⟩ := zlet_e hJ
      have ih10 : ∀ (w1_10 : Int32) (σ_10 : zS), r_10 w1_10 σ_10 = some (r, σ') → zU G 3 p l e (zrm 1 22) s m args below meth c (MQ below (va_Qi (fun x (_ : Unit) => x = r) (fun _ t => zok G 137 (zen G σ') t) (zA G)) args s 0 0 (zA G)) σ_10 10 [(0, .ref (G.1 + 105)), (1, .int w1_10)] [] := by
        rw [hr_10]
        exact ih
      refine zr_iload_n C 1 dX11_keep_10 rfl ?_
      refine zr_bipush C dX11_keep_11 (v := (16 : Int32)) (by decide) ?_
      refine zr_icmp_ge C 72 dX11_keep_13 (by decide) (fun hc2 => ?_) (fun hc2 => ?_)
      · have hJ := zif hc2 hJ
        refine zr_aload_n C 0 dX11_keep_72 rfl ?_
        refine zg_11_34 C 105 zk_105 zm_28_0 dX11_keep_73 ?_
        exact zr_iret C hret (Prod.mk.inj (zs_e hJ)).1 rfl (congrArg (zen G) (Prod.mk.inj (zs_e hJ)).2) dX11_keep_76
      · have hJ := zif' hc2 hJ
        refine zr_iconst C dX11_keep_16 (v := (0 : Int32)) (by decide) ?_
        refine zr_istore_n C [(2, .int (0 : Int32)), (0, .ref (G.1 + 105)), (1, .int w1_10)] dX11_keep_17 (by decide) rfl ?_
        obtain ⟨k66, hk66, hJ⟩ := zlet_e hJ
        have hj66 : ∀ (σ_66 : zS), k66 σ_66 = some (r, σ') → zU G 3 p l e (zrm 1 22) s m args below meth c (MQ below (va_Qi (fun x (_ : Unit) => x = r) (fun _ t => zok G 137 (zen G σ') t) (zA G)) args s 0 0 (zA G)) σ_66 66 [(0, .ref (G.1 + 105)), (1, .int w1_10)] [] := by
          intro σ_66 hJ
          rw [hk66] at hJ
          unfold D_X11_keep_66 at hJ
          obtain ⟨v3, hv3, hJ⟩ := zlet_e hJ
          refine zr_iinc C v3 1 [(1, .int v3), (0, .ref (G.1 + 105))] dX11_keep_66 rfl (hv3.trans (zinc (by decide))) (by decide) rfl ?_
          refine zr_goto C 10 dX11_keep_69 (by decide) ?_
          refine zr_sub [1, 0] [(0, .ref (G.1 + 105)), (1, .int v3)] rfl ?_
          exact ih10 _ _ hJ
        have hl18 : ∀ (n : Nat) (w2_18 : Int32) (σ_18 : zS), L_X11_keep_18 w1_10 k66 n w2_18 σ_18 = some (r, σ') → zU G 3 p l e (zrm 1 22) s m args below meth c (MQ below (va_Qi (fun x (_ : Unit) => x = r) (fun _ t => zok G 137 (zen G σ') t) (zA G)) args s 0 0 (zA G)) σ_18 18 [(0, .ref (G.1 + 105)), (1, .int w1_10), (2, .int w2_18)] [] := by
          intro n
          induction n with
          | zero =>
            intro w2_18 σ_18 hJ
            rw [L_X11_keep_18] at hJ
            cases hJ
          | succ n ih =>
            intro w2_18 σ_18 hJ
            rw [L_X11_keep_18] at hJ
            obtain ⟨r_18, hr_18, hJ⟩ := zlet_e hJ
            have ih18 : ∀ (w2_18 : Int32) (σ_18 : zS), r_18 w2_18 σ_18 = some (r, σ') → zU G 3 p l e (zrm 1 22) s m args below meth c (MQ below (va_Qi (fun x (_ : Unit) => x = r) (fun _ t => zok G 137 (zen G σ') t) (zA G)) args s 0 0 (zA G)) σ_18 18 [(0, .ref (G.1 + 105)), (1, .int w1_10), (2, .int w2_18)] [] := by
              rw [hr_18]
              exact ih
            refine zr_iload_n C 2 dX11_keep_18 rfl ?_
            refine zr_bipush C dX11_keep_19 (v := (8 : Int32)) (by decide) ?_
            refine zr_icmp_ge C 66 dX11_keep_21 (by decide) (fun hc4 => ?_) (fun hc4 => ?_)
            · have hJ := zif hc4 hJ
              refine zr_sub [0, 1] [(0, .ref (G.1 + 105)), (1, .int w1_10)] rfl ?_
              exact hj66 _ hJ
            · have hJ := zif' hc4 hJ
              refine zr_aload_n C 0 dX11_keep_24 rfl ?_
              refine zg_11_35 C 105 zk_105 zm_8_5 dX11_keep_25 ?_
              refine zr_bipush C dX11_keep_28 (v := (8 : Int32)) (by decide) ?_
              refine zr_iload_n C 1 dX11_keep_30 rfl ?_
              refine zr_imul C dX11_keep_31 ?_
              refine zr_iload_n C 2 dX11_keep_32 rfl ?_
              refine zr_iadd C dX11_keep_33 ?_
              refine zr_iload_n C 1 dX11_keep_34 rfl ?_
              refine zr_aload_n C 0 dX11_keep_35 rfl ?_
              refine zg_11_0 C 105 zk_105 zm_16_22 dX11_keep_36 ?_
              refine zr_icmp_ge C 58 dX11_keep_39 (by decide) (fun hc5 => ?_) (fun hc5 => ?_)
              · have hJ := zif hc5 hJ
                refine zr_iconst C dX11_keep_58 (v := (0 : Int32)) (by decide) ?_
                obtain ⟨hg6, hJ⟩ := zg_e hJ
                obtain ⟨σ7, hσ7, hJ⟩ := zlet_e hJ
                refine zv_iast C 124 zk_124 hg6 hσ7 dX11_keep_59 ?_
                obtain ⟨v8, hv8, hJ⟩ := zlet_e hJ
                refine zr_iinc C v8 2 [(2, .int v8), (0, .ref (G.1 + 105)), (1, .int w1_10)] dX11_keep_60 rfl (hv8.trans (zinc (by decide))) (by decide) rfl ?_
                refine zr_goto C 18 dX11_keep_63 (by decide) ?_
                refine zr_sub [1, 2, 0] [(0, .ref (G.1 + 105)), (1, .int w1_10), (2, .int v8)] rfl ?_
                exact ih18 _ _ hJ
              · have hJ := zif' hc5 hJ
                refine zr_aload_n C 0 dX11_keep_42 rfl ?_
                refine zg_11_9 C 105 zk_105 zm_7_17 dX11_keep_43 ?_
                refine zr_iload_n C 1 dX11_keep_46 rfl ?_
                obtain ⟨hg9, hJ⟩ := zg_e hJ
                refine zu_iald C 112 zk_112 hg9 dX11_keep_47 ?_
                refine zr_aload_n C 0 dX11_keep_48 rfl ?_
                refine zr_iload_n C 1 dX11_keep_49 rfl ?_
                refine zr_iload_n C 2 dX11_keep_50 rfl ?_
                obtain ⟨r10, hr10, hJ⟩ := zb_e hJ
                refine zr_callVI C 105 (zk_lt zk_105 (by decide)) (zen_obj zk_105) (rfl : zcl[11]? = some (RX11, TX11, 56)) (M_X11_made G l hr10) zin_X11_made zm_21_9 rfl rfl (Nat.le_of_ble_eq_true rfl) ⟨Nat.le_of_ble_eq_true rfl, Nat.le_of_ble_eq_true rfl⟩ ⟨Nat.le_of_ble_eq_true rfl, Nat.le_of_ble_eq_true rfl⟩ dX11_keep_51 ?_
                refine zr_imul C dX11_keep_54 ?_
                refine zr_goto C 59 dX11_keep_55 (by decide) ?_
                obtain ⟨hg11, hJ⟩ := zg_e hJ
                obtain ⟨σ12, hσ12, hJ⟩ := zlet_e hJ
                refine zv_iast C 124 zk_124 hg11 hσ12 dX11_keep_59 ?_
                obtain ⟨v13, hv13, hJ⟩ := zlet_e hJ
                refine zr_iinc C v13 2 [(2, .int v13), (0, .ref (G.1 + 105)), (1, .int w1_10)] dX11_keep_60 rfl (hv13.trans (zinc (by decide))) (by decide) rfl ?_
                refine zr_goto C 18 dX11_keep_63 (by decide) ?_
                refine zr_sub [1, 2, 0] [(0, .ref (G.1 + 105)), (1, .int w1_10), (2, .int v13)] rfl ?_
                exact ih18 _ _ hJ
        refine zr_sub [1, 2, 0] [(0, .ref (G.1 + 105)), (1, .int w1_10), (2, .int (0 : Int32))] rfl ?_
        exact hl18 _ _ _ hJ
  refine zr_sub [1, 0] [(0, .ref (G.1 + 105)), (1, .int (0 : Int32))] rfl ?_
  exact hl10 _ _ _ hJ
theorem dX11_linesIn_0 : decode cX11_linesIn 0 = .ok (.iconst 0, 1) := by decide +kernel
theorem dX11_linesIn_1 : decode cX11_linesIn 1 = .ok (.istore_n 2, 1) := by decide +kernel
theorem dX11_linesIn_2 : decode cX11_linesIn 2 = .ok (.iconst 0, 1) := by decide +kernel
theorem dX11_linesIn_3 : decode cX11_linesIn 3 = .ok (.istore_n 3, 1) := by decide +kernel
theorem dX11_linesIn_4 : decode cX11_linesIn 4 = .ok (.iload_n 3, 1) := by decide +kernel
theorem dX11_linesIn_5 : decode cX11_linesIn 5 = .ok (.aload_n 0, 1) := by decide +kernel
theorem dX11_linesIn_6 : decode cX11_linesIn 6 = .ok (.getfield 203, 3) := by decide +kernel
theorem dX11_linesIn_9 : decode cX11_linesIn 9 = .ok (.if_icmp .ge 33, 3) := by decide +kernel
theorem dX11_linesIn_12 : decode cX11_linesIn 12 = .ok (.iload_n 2, 1) := by decide +kernel
theorem dX11_linesIn_13 : decode cX11_linesIn 13 = .ok (.aload_n 0, 1) := by decide +kernel
theorem dX11_linesIn_14 : decode cX11_linesIn 14 = .ok (.aload_n 0, 1) := by decide +kernel
theorem dX11_linesIn_15 : decode cX11_linesIn 15 = .ok (.getfield 16, 3) := by decide +kernel
theorem dX11_linesIn_18 : decode cX11_linesIn 18 = .ok (.iload_n 3, 1) := by decide +kernel
theorem dX11_linesIn_19 : decode cX11_linesIn 19 = .ok (.iaload, 1) := by decide +kernel
theorem dX11_linesIn_20 : decode cX11_linesIn 20 = .ok (.iload_n 1, 1) := by decide +kernel
theorem dX11_linesIn_21 : decode cX11_linesIn 21 = .ok (.invokevirtual 231, 3) := by decide +kernel
theorem dX11_linesIn_24 : decode cX11_linesIn 24 = .ok (.ifCond .eq 9, 3) := by decide +kernel
theorem dX11_linesIn_27 : decode cX11_linesIn 27 = .ok (.iconst 1, 1) := by decide +kernel
theorem dX11_linesIn_28 : decode cX11_linesIn 28 = .ok (.iload_n 3, 1) := by decide +kernel
theorem dX11_linesIn_29 : decode cX11_linesIn 29 = .ok (.ishl, 1) := by decide +kernel
theorem dX11_linesIn_30 : decode cX11_linesIn 30 = .ok (.goto 4, 3) := by decide +kernel
theorem dX11_linesIn_33 : decode cX11_linesIn 33 = .ok (.iconst 0, 1) := by decide +kernel
theorem dX11_linesIn_34 : decode cX11_linesIn 34 = .ok (.ior, 1) := by decide +kernel
theorem dX11_linesIn_35 : decode cX11_linesIn 35 = .ok (.istore_n 2, 1) := by decide +kernel
theorem dX11_linesIn_36 : decode cX11_linesIn 36 = .ok (.iinc 3 1, 3) := by decide +kernel
theorem dX11_linesIn_39 : decode cX11_linesIn 39 = .ok (.goto (-35), 3) := by decide +kernel
theorem dX11_linesIn_42 : decode cX11_linesIn 42 = .ok (.iload_n 2, 1) := by decide +kernel
theorem dX11_linesIn_43 : decode cX11_linesIn 43 = .ok (.ireturn, 1) := by decide +kernel
set_option maxRecDepth 100000 in
set_option maxHeartbeats 4000000 in
theorem M_X11_linesIn (G : zG) (l : Launch) {a1 : Int32} {σ : zS} {r : Int32} (hJ : J_X11_linesIn a1 σ = some r) : zMI G l yX11_linesIn cX11_linesIn 4 (some .int) (zrm 1 24) [.ref (G.1 + 105), .int a1] 137 (zen G σ) r 137 (zen G σ) := by
  unfold J_X11_linesIn at hJ
  refine zentI (by decide +kernel) (Nat.le_of_ble_eq_true rfl) ?_
  intro p e s m args below meth c C hret
  refine zr_sub [0, 1] [(0, .ref (G.1 + 105)), (1, .int a1)] rfl ?_
  refine zr_iconst C dX11_linesIn_0 (v := (0 : Int32)) (by decide) ?_
  refine zr_istore_n C [(2, .int (0 : Int32)), (0, .ref (G.1 + 105)), (1, .int a1)] dX11_linesIn_1 (by decide) rfl ?_
  refine zr_iconst C dX11_linesIn_2 (v := (0 : Int32)) (by decide) ?_
  refine zr_istore_n C [(3, .int (0 : Int32)), (2, .int (0 : Int32)), (0, .ref (G.1 + 105)), (1, .int a1)] dX11_linesIn_3 (by decide) rfl ?_
  have hl4 : ∀ (n : Nat) (w2_4 : Int32) (w3_4 : Int32), L_X11_linesIn_4 a1 σ n w2_4 w3_4 = some r → zU G 4 p l e (zrm 1 24) s m args below meth c (MQ below (va_Qi (fun x (_ : Unit) => x = r) (fun _ t => zok G 137 (zen G σ) t) (zA G)) args s 0 0 (zA G)) σ 4 [(0, .ref (G.1 + 105)), (1, .int a1), (2, .int w2_4), (3, .int w3_4)] [] := by
    intro n
    induction n with
    | zero =>
      intro w2_4 w3_4 hJ
      rw [L_X11_linesIn_4] at hJ
      cases hJ
    | succ n ih =>
      intro w2_4 w3_4 hJ
      rw [L_X11_linesIn_4] at hJ
      obtain ⟨r_4, hr_4, hJ⟩ := zlet_e hJ
      have ih4 : ∀ (w2_4 : Int32) (w3_4 : Int32), r_4 w2_4 w3_4 = some r → zU G 4 p l e (zrm 1 24) s m args below meth c (MQ below (va_Qi (fun x (_ : Unit) => x = r) (fun _ t => zok G 137 (zen G σ) t) (zA G)) args s 0 0 (zA G)) σ 4 [(0, .ref (G.1 + 105)), (1, .int a1), (2, .int w2_4), (3, .int w3_4)] [] := by
        rw [hr_4]
        exact ih
      refine zr_iload_n C 3 dX11_linesIn_4 rfl ?_
      refine zr_aload_n C 0 dX11_linesIn_5 rfl ?_
      refine zg_11_0 C 105 zk_105 zm_16_22 dX11_linesIn_6 ?_
      refine zr_icmp_ge C 42 dX11_linesIn_9 (by decide) (fun hc1 => ?_) (fun hc1 => ?_)
      · have hJ := zif hc1 hJ
        refine zr_iload_n C 2 dX11_linesIn_42 rfl ?_
        exact zr_iret C hret (zs_e hJ) rfl rfl dX11_linesIn_43
      · have hJ := zif' hc1 hJ
        refine zr_iload_n C 2 dX11_linesIn_12 rfl ?_
        refine zr_aload_n C 0 dX11_linesIn_13 rfl ?_
        refine zr_aload_n C 0 dX11_linesIn_14 rfl ?_
        refine zg_11_3 C 105 zk_105 zm_7_13 dX11_linesIn_15 ?_
        refine zr_iload_n C 3 dX11_linesIn_18 rfl ?_
        obtain ⟨hg2, hJ⟩ := zg_e hJ
        refine zu_iald C 108 zk_108 hg2 dX11_linesIn_19 ?_
        refine zr_iload_n C 1 dX11_linesIn_20 rfl ?_
        obtain ⟨r3, hr3, hJ⟩ := zb_e hJ
        refine zr_callVI C 105 (zk_lt zk_105 (by decide)) (zen_obj zk_105) (rfl : zcl[11]? = some (RX11, TX11, 56)) (M_X11_isWithin G l hr3) zin_X11_isWithin zm_19_23 rfl rfl (Nat.le_of_ble_eq_true rfl) ⟨Nat.le_of_ble_eq_true rfl, Nat.le_of_ble_eq_true rfl⟩ ⟨Nat.le_of_ble_eq_true rfl, Nat.le_of_ble_eq_true rfl⟩ dX11_linesIn_21 ?_
        obtain ⟨v4, hv4, hJ⟩ := zlet_e hJ
        have hf7 : zU G 4 p l e (zrm 1 24) s m args below meth c (MQ below (va_Qi (fun x (_ : Unit) => x = r) (fun _ t => zok G 137 (zen G σ) t) (zA G)) args s 0 0 (zA G)) σ 34 [(0, .ref (G.1 + 105)), (1, .int a1), (3, .int w3_4)] [.int v4, .int w2_4] := by
          refine zr_ior C dX11_linesIn_34 ?_
          obtain ⟨v5, hv5, hJ⟩ := zlet_e hJ
          refine zr_topi hv5 ?_
          refine zr_istore_n C [(2, .int v5), (0, .ref (G.1 + 105)), (1, .int a1), (3, .int w3_4)] dX11_linesIn_35 (by decide) rfl ?_
          obtain ⟨v6, hv6, hJ⟩ := zlet_e hJ
          refine zr_iinc C v6 3 [(3, .int v6), (2, .int v5), (0, .ref (G.1 + 105)), (1, .int a1)] dX11_linesIn_36 rfl (hv6.trans (zinc (by decide))) (by decide) rfl ?_
          refine zr_goto C 4 dX11_linesIn_39 (by decide) ?_
          refine zr_sub [2, 3, 1, 0] [(0, .ref (G.1 + 105)), (1, .int a1), (2, .int v5), (3, .int v6)] rfl ?_
          exact ih4 _ _ hJ
        refine zr_if_eq C 33 dX11_linesIn_24 (by decide) (fun hc8 => ?_) (fun hc8 => ?_)
        · have hv4 := hv4.trans (if_pos hc8)
          refine zr_iconst C dX11_linesIn_33 (v := (0 : Int32)) (by decide) ?_
          refine zr_sub [0, 1, 3] [(0, .ref (G.1 + 105)), (1, .int a1), (3, .int w3_4)] rfl ?_
          rw [hv4] at hf7
          exact hf7
        · have hv4 := hv4.trans (if_neg hc8)
          refine zr_iconst C dX11_linesIn_27 (v := (1 : Int32)) (by decide) ?_
          refine zr_iload_n C 3 dX11_linesIn_28 rfl ?_
          refine zr_ishl C dX11_linesIn_29 ?_
          refine zr_goto C 34 dX11_linesIn_30 (by decide) ?_
          refine zr_sub [0, 1, 3] [(0, .ref (G.1 + 105)), (1, .int a1), (3, .int w3_4)] rfl ?_
          rw [hv4] at hf7
          exact hf7
  refine zr_sub [2, 3, 1, 0] [(0, .ref (G.1 + 105)), (1, .int a1), (2, .int (0 : Int32)), (3, .int (0 : Int32))] rfl ?_
  exact hl4 _ _ _ hJ
theorem dX11_walk_0 : decode cX11_walk 0 = .ok (.aload_n 0, 1) := by decide +kernel
theorem dX11_walk_1 : decode cX11_walk 1 = .ok (.iconst 0, 1) := by decide +kernel
theorem dX11_walk_2 : decode cX11_walk 2 = .ok (.putfield 225, 3) := by decide +kernel
theorem dX11_walk_5 : decode cX11_walk 5 = .ok (.iconst 0, 1) := by decide +kernel
theorem dX11_walk_6 : decode cX11_walk 6 = .ok (.istore_n 1, 1) := by decide +kernel
theorem dX11_walk_7 : decode cX11_walk 7 = .ok (.iload_n 1, 1) := by decide +kernel
theorem dX11_walk_8 : decode cX11_walk 8 = .ok (.aload_n 0, 1) := by decide +kernel
theorem dX11_walk_9 : decode cX11_walk 9 = .ok (.getfield 209, 3) := by decide +kernel
theorem dX11_walk_12 : decode cX11_walk 12 = .ok (.if_icmp .ge 140, 3) := by decide +kernel
theorem dX11_walk_15 : decode cX11_walk 15 = .ok (.aload_n 0, 1) := by decide +kernel
theorem dX11_walk_16 : decode cX11_walk 16 = .ok (.getfield 49, 3) := by decide +kernel
theorem dX11_walk_19 : decode cX11_walk 19 = .ok (.iload_n 1, 1) := by decide +kernel
theorem dX11_walk_20 : decode cX11_walk 20 = .ok (.iaload, 1) := by decide +kernel
theorem dX11_walk_21 : decode cX11_walk 21 = .ok (.istore_n 2, 1) := by decide +kernel
theorem dX11_walk_22 : decode cX11_walk 22 = .ok (.iload_n 2, 1) := by decide +kernel
theorem dX11_walk_23 : decode cX11_walk 23 = .ok (.bipush 100, 2) := by decide +kernel
theorem dX11_walk_25 : decode cX11_walk 25 = .ok (.if_icmp .ge 26, 3) := by decide +kernel
theorem dX11_walk_28 : decode cX11_walk 28 = .ok (.aload_n 0, 1) := by decide +kernel
theorem dX11_walk_29 : decode cX11_walk 29 = .ok (.getfield 25, 3) := by decide +kernel
theorem dX11_walk_32 : decode cX11_walk 32 = .ok (.aload_n 0, 1) := by decide +kernel
theorem dX11_walk_33 : decode cX11_walk 33 = .ok (.getfield 225, 3) := by decide +kernel
theorem dX11_walk_36 : decode cX11_walk 36 = .ok (.iload_n 2, 1) := by decide +kernel
theorem dX11_walk_37 : decode cX11_walk 37 = .ok (.iastore, 1) := by decide +kernel
theorem dX11_walk_38 : decode cX11_walk 38 = .ok (.aload_n 0, 1) := by decide +kernel
theorem dX11_walk_39 : decode cX11_walk 39 = .ok (.dup, 1) := by decide +kernel
theorem dX11_walk_40 : decode cX11_walk 40 = .ok (.getfield 225, 3) := by decide +kernel
theorem dX11_walk_43 : decode cX11_walk 43 = .ok (.iconst 1, 1) := by decide +kernel
theorem dX11_walk_44 : decode cX11_walk 44 = .ok (.iadd, 1) := by decide +kernel
theorem dX11_walk_45 : decode cX11_walk 45 = .ok (.putfield 225, 3) := by decide +kernel
theorem dX11_walk_48 : decode cX11_walk 48 = .ok (.goto 98, 3) := by decide +kernel
theorem dX11_walk_51 : decode cX11_walk 51 = .ok (.iload_n 2, 1) := by decide +kernel
theorem dX11_walk_52 : decode cX11_walk 52 = .ok (.sipush 200, 3) := by decide +kernel
theorem dX11_walk_55 : decode cX11_walk 55 = .ok (.if_icmp .ge 49, 3) := by decide +kernel
theorem dX11_walk_58 : decode cX11_walk 58 = .ok (.aload_n 0, 1) := by decide +kernel
theorem dX11_walk_59 : decode cX11_walk 59 = .ok (.getfield 58, 3) := by decide +kernel
theorem dX11_walk_62 : decode cX11_walk 62 = .ok (.iload_n 2, 1) := by decide +kernel
theorem dX11_walk_63 : decode cX11_walk 63 = .ok (.bipush 100, 2) := by decide +kernel
theorem dX11_walk_65 : decode cX11_walk 65 = .ok (.isub, 1) := by decide +kernel
theorem dX11_walk_66 : decode cX11_walk 66 = .ok (.aload_n 0, 1) := by decide +kernel
theorem dX11_walk_67 : decode cX11_walk 67 = .ok (.iload_n 2, 1) := by decide +kernel
theorem dX11_walk_68 : decode cX11_walk 68 = .ok (.bipush 100, 2) := by decide +kernel
theorem dX11_walk_70 : decode cX11_walk 70 = .ok (.isub, 1) := by decide +kernel
theorem dX11_walk_71 : decode cX11_walk 71 = .ok (.invokevirtual 228, 3) := by decide +kernel
theorem dX11_walk_74 : decode cX11_walk 74 = .ok (.ifCond .ne 7, 3) := by decide +kernel
theorem dX11_walk_77 : decode cX11_walk 77 = .ok (.iconst 1, 1) := by decide +kernel
theorem dX11_walk_78 : decode cX11_walk 78 = .ok (.goto 12, 3) := by decide +kernel
theorem dX11_walk_81 : decode cX11_walk 81 = .ok (.aload_n 0, 1) := by decide +kernel
theorem dX11_walk_82 : decode cX11_walk 82 = .ok (.getfield 19, 3) := by decide +kernel
theorem dX11_walk_85 : decode cX11_walk 85 = .ok (.iload_n 2, 1) := by decide +kernel
theorem dX11_walk_86 : decode cX11_walk 86 = .ok (.bipush 100, 2) := by decide +kernel
theorem dX11_walk_88 : decode cX11_walk 88 = .ok (.isub, 1) := by decide +kernel
theorem dX11_walk_89 : decode cX11_walk 89 = .ok (.iaload, 1) := by decide +kernel
theorem dX11_walk_90 : decode cX11_walk 90 = .ok (.iastore, 1) := by decide +kernel
theorem dX11_walk_91 : decode cX11_walk 91 = .ok (.aload_n 0, 1) := by decide +kernel
theorem dX11_walk_92 : decode cX11_walk 92 = .ok (.getfield 61, 3) := by decide +kernel
theorem dX11_walk_95 : decode cX11_walk 95 = .ok (.iload_n 2, 1) := by decide +kernel
theorem dX11_walk_96 : decode cX11_walk 96 = .ok (.bipush 100, 2) := by decide +kernel
theorem dX11_walk_98 : decode cX11_walk 98 = .ok (.isub, 1) := by decide +kernel
theorem dX11_walk_99 : decode cX11_walk 99 = .ok (.iload_n 1, 1) := by decide +kernel
theorem dX11_walk_100 : decode cX11_walk 100 = .ok (.iastore, 1) := by decide +kernel
theorem dX11_walk_101 : decode cX11_walk 101 = .ok (.goto 45, 3) := by decide +kernel
theorem dX11_walk_104 : decode cX11_walk 104 = .ok (.aload_n 0, 1) := by decide +kernel
theorem dX11_walk_105 : decode cX11_walk 105 = .ok (.getfield 58, 3) := by decide +kernel
theorem dX11_walk_108 : decode cX11_walk 108 = .ok (.iload_n 2, 1) := by decide +kernel
theorem dX11_walk_109 : decode cX11_walk 109 = .ok (.sipush 200, 3) := by decide +kernel
theorem dX11_walk_112 : decode cX11_walk 112 = .ok (.isub, 1) := by decide +kernel
theorem dX11_walk_113 : decode cX11_walk 113 = .ok (.dup2, 1) := by decide +kernel
theorem dX11_walk_114 : decode cX11_walk 114 = .ok (.iaload, 1) := by decide +kernel
theorem dX11_walk_115 : decode cX11_walk 115 = .ok (.iconst 1, 1) := by decide +kernel
theorem dX11_walk_116 : decode cX11_walk 116 = .ok (.isub, 1) := by decide +kernel
theorem dX11_walk_117 : decode cX11_walk 117 = .ok (.iastore, 1) := by decide +kernel
theorem dX11_walk_118 : decode cX11_walk 118 = .ok (.aload_n 0, 1) := by decide +kernel
theorem dX11_walk_119 : decode cX11_walk 119 = .ok (.getfield 58, 3) := by decide +kernel
theorem dX11_walk_122 : decode cX11_walk 122 = .ok (.iload_n 2, 1) := by decide +kernel
theorem dX11_walk_123 : decode cX11_walk 123 = .ok (.sipush 200, 3) := by decide +kernel
theorem dX11_walk_126 : decode cX11_walk 126 = .ok (.isub, 1) := by decide +kernel
theorem dX11_walk_127 : decode cX11_walk 127 = .ok (.iaload, 1) := by decide +kernel
theorem dX11_walk_128 : decode cX11_walk 128 = .ok (.ifCond .le 16, 3) := by decide +kernel
theorem dX11_walk_131 : decode cX11_walk 131 = .ok (.aload_n 0, 1) := by decide +kernel
theorem dX11_walk_132 : decode cX11_walk 132 = .ok (.getfield 61, 3) := by decide +kernel
theorem dX11_walk_135 : decode cX11_walk 135 = .ok (.iload_n 2, 1) := by decide +kernel
theorem dX11_walk_136 : decode cX11_walk 136 = .ok (.sipush 200, 3) := by decide +kernel
theorem dX11_walk_139 : decode cX11_walk 139 = .ok (.isub, 1) := by decide +kernel
theorem dX11_walk_140 : decode cX11_walk 140 = .ok (.iaload, 1) := by decide +kernel
theorem dX11_walk_141 : decode cX11_walk 141 = .ok (.goto 4, 3) := by decide +kernel
theorem dX11_walk_144 : decode cX11_walk 144 = .ok (.iload_n 1, 1) := by decide +kernel
theorem dX11_walk_145 : decode cX11_walk 145 = .ok (.istore_n 1, 1) := by decide +kernel
theorem dX11_walk_146 : decode cX11_walk 146 = .ok (.iinc 1 1, 3) := by decide +kernel
theorem dX11_walk_149 : decode cX11_walk 149 = .ok (.goto (-142), 3) := by decide +kernel
theorem dX11_walk_152 : decode cX11_walk 152 = .ok (.return_, 1) := by decide +kernel
set_option maxRecDepth 100000 in
set_option maxHeartbeats 4000000 in
theorem M_X11_walk (G : zG) (l : Launch) {σ : zS} {σ' : zS} (hJ : J_X11_walk σ = some σ') : zMV G l yX11_walk cX11_walk 3 none (zrm 2 47) [.ref (G.1 + 105)] 137 (zen G σ) 137 (zen G σ') := by
  unfold J_X11_walk at hJ
  refine zentV (by decide +kernel) (Nat.le_of_ble_eq_true rfl) ?_
  intro p e s m args below meth c C hret
  refine zr_sub [0] [(0, .ref (G.1 + 105))] rfl ?_
  refine zr_aload_n C 0 dX11_walk_0 rfl ?_
  refine zr_iconst C dX11_walk_1 (v := (0 : Int32)) (by decide) ?_
  obtain ⟨σ1, hσ1, hJ⟩ := zlet_e hJ
  refine zp_11_7 C 105 zk_105 zm_19_18 hσ1 dX11_walk_2 ?_
  refine zr_iconst C dX11_walk_5 (v := (0 : Int32)) (by decide) ?_
  refine zr_istore_n C [(1, .int (0 : Int32)), (0, .ref (G.1 + 105))] dX11_walk_6 (by decide) rfl ?_
  have hl7 : ∀ (n : Nat) (w1_7 : Int32) (σ_7 : zS), L_X11_walk_7 n w1_7 σ_7 = some σ' → zU G 3 p l e (zrm 2 47) s m args below meth c (MQ below (va_Qv (fun (_ : Unit) => True) (fun _ t => zok G 137 (zen G σ') t) (zA G)) args s 0 0 (zA G)) σ_7 7 [(0, .ref (G.1 + 105)), (1, .int w1_7)] [] := by
    intro n
    induction n with
    | zero =>
      intro w1_7 σ_7 hJ
      rw [L_X11_walk_7] at hJ
      cases hJ
    | succ n ih =>
      intro w1_7 σ_7 hJ
      rw [L_X11_walk_7] at hJ
      obtain ⟨r_7, hr_7, hJ⟩ := zlet_e hJ
      have ih7 : ∀ (w1_7 : Int32) (σ_7 : zS), r_7 w1_7 σ_7 = some σ' → zU G 3 p l e (zrm 2 47) s m args below meth c (MQ below (va_Qv (fun (_ : Unit) => True) (fun _ t => zok G 137 (zen G σ') t) (zA G)) args s 0 0 (zA G)) σ_7 7 [(0, .ref (G.1 + 105)), (1, .int w1_7)] [] := by
        rw [hr_7]
        exact ih
      refine zr_iload_n C 1 dX11_walk_7 rfl ?_
      refine zr_aload_n C 0 dX11_walk_8 rfl ?_
      refine zg_11_22 C 105 zk_105 zm_19_11 dX11_walk_9 ?_
      refine zr_icmp_ge C 152 dX11_walk_12 (by decide) (fun hc2 => ?_) (fun hc2 => ?_)
      · have hJ := zif hc2 hJ
        exact zr_vret C hret rfl (congrArg (zen G) (zs_e hJ)) dX11_walk_152
      · have hJ := zif' hc2 hJ
        refine zr_aload_n C 0 dX11_walk_15 rfl ?_
        refine zg_11_20 C 105 zk_105 zm_8_0 dX11_walk_16 ?_
        refine zr_iload_n C 1 dX11_walk_19 rfl ?_
        obtain ⟨hg3, hJ⟩ := zg_e hJ
        refine zu_iald C 119 zk_119 hg3 dX11_walk_20 ?_
        obtain ⟨v4, hv4, hJ⟩ := zlet_e hJ
        refine zr_topi hv4 ?_
        refine zr_istore_n C [(2, .int v4), (0, .ref (G.1 + 105)), (1, .int w1_7)] dX11_walk_21 (by decide) rfl ?_
        refine zr_iload_n C 0 dX11_walk_22 rfl ?_
        refine zr_bipush C dX11_walk_23 (v := (100 : Int32)) (by decide) ?_
        refine zr_icmp_ge C 51 dX11_walk_25 (by decide) (fun hc5 => ?_) (fun hc5 => ?_)
        · have hJ := zif hc5 hJ
          refine zr_iload_n C 0 dX11_walk_51 rfl ?_
          refine zr_sipush C dX11_walk_52 (v := (200 : Int32)) (by decide) ?_
          refine zr_icmp_ge C 104 dX11_walk_55 (by decide) (fun hc6 => ?_) (fun hc6 => ?_)
          · have hJ := zif hc6 hJ
            refine zr_aload_n C 1 dX11_walk_104 rfl ?_
            refine zg_11_32 C 105 zk_105 zm_8_3 dX11_walk_105 ?_
            refine zr_iload_n C 0 dX11_walk_108 rfl ?_
            refine zr_sipush C dX11_walk_109 (v := (200 : Int32)) (by decide) ?_
            refine zr_isub C dX11_walk_112 ?_
            refine zr_dup2 C dX11_walk_113 rfl rfl ?_
            obtain ⟨hg7, hJ⟩ := zg_e hJ
            refine zu_iald C 122 zk_122 hg7 dX11_walk_114 ?_
            refine zr_iconst C dX11_walk_115 (v := (1 : Int32)) (by decide) ?_
            refine zr_isub C dX11_walk_116 ?_
            obtain ⟨hg8, hJ⟩ := zg_e hJ
            obtain ⟨σ9, hσ9, hJ⟩ := zlet_e hJ
            refine zv_iast C 122 zk_122 hg8 hσ9 dX11_walk_117 ?_
            refine zr_aload_n C 1 dX11_walk_118 rfl ?_
            refine zg_11_32 C 105 zk_105 zm_8_3 dX11_walk_119 ?_
            refine zr_iload_n C 0 dX11_walk_122 rfl ?_
            refine zr_sipush C dX11_walk_123 (v := (200 : Int32)) (by decide) ?_
            refine zr_isub C dX11_walk_126 ?_
            obtain ⟨hg10, hJ⟩ := zg_e hJ
            refine zu_iald C 122 zk_122 hg10 dX11_walk_127 ?_
            refine zr_if_le C 144 dX11_walk_128 (by decide) (fun hc11 => ?_) (fun hc11 => ?_)
            · have hJ := zif hc11 hJ
              refine zr_iload_n C 2 dX11_walk_144 rfl ?_
              refine zr_istore_n C [(1, .int w1_7), (2, .int v4), (0, .ref (G.1 + 105))] dX11_walk_145 (by decide) rfl ?_
              obtain ⟨v12, hv12, hJ⟩ := zlet_e hJ
              refine zr_iinc C v12 0 [(1, .int v12), (2, .int v4), (0, .ref (G.1 + 105))] dX11_walk_146 rfl (hv12.trans (zinc (by decide))) (by decide) rfl ?_
              refine zr_goto C 7 dX11_walk_149 (by decide) ?_
              refine zr_sub [2, 0] [(0, .ref (G.1 + 105)), (1, .int v12)] rfl ?_
              exact ih7 _ _ hJ
            · have hJ := zif' hc11 hJ
              refine zr_aload_n C 1 dX11_walk_131 rfl ?_
              refine zg_11_33 C 105 zk_105 zm_8_4 dX11_walk_132 ?_
              refine zr_iload_n C 0 dX11_walk_135 rfl ?_
              refine zr_sipush C dX11_walk_136 (v := (200 : Int32)) (by decide) ?_
              refine zr_isub C dX11_walk_139 ?_
              obtain ⟨hg13, hJ⟩ := zg_e hJ
              refine zu_iald C 123 zk_123 hg13 dX11_walk_140 ?_
              refine zr_goto C 145 dX11_walk_141 (by decide) ?_
              obtain ⟨v14, hv14, hJ⟩ := zlet_e hJ
              refine zr_topi hv14 ?_
              refine zr_istore_n C [(1, .int v14), (2, .int v4), (0, .ref (G.1 + 105))] dX11_walk_145 (by decide) rfl ?_
              obtain ⟨v15, hv15, hJ⟩ := zlet_e hJ
              refine zr_iinc C v15 0 [(1, .int v15), (2, .int v4), (0, .ref (G.1 + 105))] dX11_walk_146 rfl (hv15.trans (zinc (by decide))) (by decide) rfl ?_
              refine zr_goto C 7 dX11_walk_149 (by decide) ?_
              refine zr_sub [2, 0] [(0, .ref (G.1 + 105)), (1, .int v15)] rfl ?_
              exact ih7 _ _ hJ
          · have hJ := zif' hc6 hJ
            refine zr_aload_n C 1 dX11_walk_58 rfl ?_
            refine zg_11_32 C 105 zk_105 zm_8_3 dX11_walk_59 ?_
            refine zr_iload_n C 0 dX11_walk_62 rfl ?_
            refine zr_bipush C dX11_walk_63 (v := (100 : Int32)) (by decide) ?_
            refine zr_isub C dX11_walk_65 ?_
            refine zr_aload_n C 1 dX11_walk_66 rfl ?_
            refine zr_iload_n C 0 dX11_walk_67 rfl ?_
            refine zr_bipush C dX11_walk_68 (v := (100 : Int32)) (by decide) ?_
            refine zr_isub C dX11_walk_70 ?_
            obtain ⟨r16, hr16, hJ⟩ := zb_e hJ
            refine zr_callVI C 105 (zk_lt zk_105 (by decide)) (zen_obj zk_105) (rfl : zcl[11]? = some (RX11, TX11, 56)) (M_X11_linesIn G l hr16) zin_X11_linesIn zm_19_19 rfl rfl (Nat.le_of_ble_eq_true rfl) ⟨Nat.le_of_ble_eq_true rfl, Nat.le_of_ble_eq_true rfl⟩ ⟨Nat.le_of_ble_eq_true rfl, Nat.le_of_ble_eq_true rfl⟩ dX11_walk_71 ?_
            obtain ⟨v17, hv17, hJ⟩ := zlet_e hJ
            refine zr_steq [.int r16, .int v17, .ref (G.1 + 122)] (by rw [hv17]) ?_
            obtain ⟨k90, hk90, hJ⟩ := zlet_e hJ
            have hj90 : ∀ (x0_90 : Int32), k90 x0_90 = some σ' → zU G 3 p l e (zrm 2 47) s m args below meth c (MQ below (va_Qv (fun (_ : Unit) => True) (fun _ t => zok G 137 (zen G σ') t) (zA G)) args s 0 0 (zA G)) σ_7 90 [(0, .ref (G.1 + 105)), (1, .int w1_7), (2, .int v4)] [.int x0_90, .int v17, .ref (G.1 + 122)] := by
              intro x0_90 hJ
              rw [hk90] at hJ
              unfold D_X11_walk_90 at hJ
              obtain ⟨hg18, hJ⟩ := zg_e hJ
              obtain ⟨σ19, hσ19, hJ⟩ := zlet_e hJ
              refine zv_iast C 122 zk_122 hg18 hσ19 dX11_walk_90 ?_
              refine zr_aload_n C 0 dX11_walk_91 rfl ?_
              refine zg_11_33 C 105 zk_105 zm_8_4 dX11_walk_92 ?_
              refine zr_iload_n C 2 dX11_walk_95 rfl ?_
              refine zr_bipush C dX11_walk_96 (v := (100 : Int32)) (by decide) ?_
              refine zr_isub C dX11_walk_98 ?_
              refine zr_iload_n C 1 dX11_walk_99 rfl ?_
              obtain ⟨hg20, hJ⟩ := zg_e hJ
              obtain ⟨σ21, hσ21, hJ⟩ := zlet_e hJ
              refine zv_iast C 123 zk_123 hg20 hσ21 dX11_walk_100 ?_
              refine zr_goto C 146 dX11_walk_101 (by decide) ?_
              obtain ⟨v22, hv22, hJ⟩ := zlet_e hJ
              refine zr_iinc C v22 1 [(1, .int v22), (0, .ref (G.1 + 105)), (2, .int v4)] dX11_walk_146 rfl (hv22.trans (zinc (by decide))) (by decide) rfl ?_
              refine zr_goto C 7 dX11_walk_149 (by decide) ?_
              refine zr_sub [1, 0] [(0, .ref (G.1 + 105)), (1, .int v22)] rfl ?_
              exact ih7 _ _ hJ
            refine zr_if_ne C 81 dX11_walk_74 (by decide) (fun hc23 => ?_) (fun hc23 => ?_)
            · have hJ := zif' hc23 hJ
              refine zr_aload_n C 1 dX11_walk_81 rfl ?_
              refine zg_11_5 C 105 zk_105 zm_7_14 dX11_walk_82 ?_
              refine zr_iload_n C 0 dX11_walk_85 rfl ?_
              refine zr_bipush C dX11_walk_86 (v := (100 : Int32)) (by decide) ?_
              refine zr_isub C dX11_walk_88 ?_
              obtain ⟨hg24, hJ⟩ := zg_e hJ
              refine zu_iald C 109 zk_109 hg24 dX11_walk_89 ?_
              refine zr_sub [1, 2, 0] [(0, .ref (G.1 + 105)), (1, .int w1_7), (2, .int v4)] rfl ?_
              exact hj90 _ hJ
            · have hJ := zif hc23 hJ
              refine zr_iconst C dX11_walk_77 (v := (1 : Int32)) (by decide) ?_
              refine zr_goto C 90 dX11_walk_78 (by decide) ?_
              refine zr_sub [1, 2, 0] [(0, .ref (G.1 + 105)), (1, .int w1_7), (2, .int v4)] rfl ?_
              exact hj90 _ hJ
        · have hJ := zif' hc5 hJ
          refine zr_aload_n C 1 dX11_walk_28 rfl ?_
          refine zg_11_8 C 105 zk_105 zm_7_16 dX11_walk_29 ?_
          refine zr_aload_n C 1 dX11_walk_32 rfl ?_
          refine zg_11_7 C 105 zk_105 zm_19_18 dX11_walk_33 ?_
          refine zr_iload_n C 0 dX11_walk_36 rfl ?_
          obtain ⟨hg25, hJ⟩ := zg_e hJ
          obtain ⟨σ26, hσ26, hJ⟩ := zlet_e hJ
          refine zv_iast C 111 zk_111 hg25 hσ26 dX11_walk_37 ?_
          refine zr_aload_n C 1 dX11_walk_38 rfl ?_
          refine zr_dup C dX11_walk_39 rfl ?_
          refine zg_11_7 C 105 zk_105 zm_19_18 dX11_walk_40 ?_
          refine zr_iconst C dX11_walk_43 (v := (1 : Int32)) (by decide) ?_
          refine zr_iadd C dX11_walk_44 ?_
          obtain ⟨σ27, hσ27, hJ⟩ := zlet_e hJ
          refine zp_11_7 C 105 zk_105 zm_19_18 hσ27 dX11_walk_45 ?_
          refine zr_goto C 146 dX11_walk_48 (by decide) ?_
          obtain ⟨v28, hv28, hJ⟩ := zlet_e hJ
          refine zr_iinc C v28 2 [(1, .int v28), (2, .int v4), (0, .ref (G.1 + 105))] dX11_walk_146 rfl (hv28.trans (zinc (by decide))) (by decide) rfl ?_
          refine zr_goto C 7 dX11_walk_149 (by decide) ?_
          refine zr_sub [2, 0] [(0, .ref (G.1 + 105)), (1, .int v28)] rfl ?_
          exact ih7 _ _ hJ
  refine zr_sub [1, 0] [(0, .ref (G.1 + 105)), (1, .int (0 : Int32))] rfl ?_
  exact hl7 _ _ _ hJ
theorem dX11_keepProgram_0 : decode cX11_keepProgram 0 = .ok (.aload_n 0, 1) := by decide +kernel
theorem dX11_keepProgram_1 : decode cX11_keepProgram 1 = .ok (.aload_n 0, 1) := by decide +kernel
theorem dX11_keepProgram_2 : decode cX11_keepProgram 2 = .ok (.getfield 175, 3) := by decide +kernel
theorem dX11_keepProgram_5 : decode cX11_keepProgram 5 = .ok (.putfield 203, 3) := by decide +kernel
theorem dX11_keepProgram_8 : decode cX11_keepProgram 8 = .ok (.aload_n 0, 1) := by decide +kernel
theorem dX11_keepProgram_9 : decode cX11_keepProgram 9 = .ok (.aload_n 0, 1) := by decide +kernel
theorem dX11_keepProgram_10 : decode cX11_keepProgram 10 = .ok (.getfield 187, 3) := by decide +kernel
theorem dX11_keepProgram_13 : decode cX11_keepProgram 13 = .ok (.putfield 206, 3) := by decide +kernel
theorem dX11_keepProgram_16 : decode cX11_keepProgram 16 = .ok (.aload_n 0, 1) := by decide +kernel
theorem dX11_keepProgram_17 : decode cX11_keepProgram 17 = .ok (.aload_n 0, 1) := by decide +kernel
theorem dX11_keepProgram_18 : decode cX11_keepProgram 18 = .ok (.getfield 184, 3) := by decide +kernel
theorem dX11_keepProgram_21 : decode cX11_keepProgram 21 = .ok (.putfield 209, 3) := by decide +kernel
theorem dX11_keepProgram_24 : decode cX11_keepProgram 24 = .ok (.aload_n 0, 1) := by decide +kernel
theorem dX11_keepProgram_25 : decode cX11_keepProgram 25 = .ok (.iconst 0, 1) := by decide +kernel
theorem dX11_keepProgram_26 : decode cX11_keepProgram 26 = .ok (.putfield 212, 3) := by decide +kernel
theorem dX11_keepProgram_29 : decode cX11_keepProgram 29 = .ok (.iconst 0, 1) := by decide +kernel
theorem dX11_keepProgram_30 : decode cX11_keepProgram 30 = .ok (.istore_n 1, 1) := by decide +kernel
theorem dX11_keepProgram_31 : decode cX11_keepProgram 31 = .ok (.iload_n 1, 1) := by decide +kernel
theorem dX11_keepProgram_32 : decode cX11_keepProgram 32 = .ok (.aload_n 0, 1) := by decide +kernel
theorem dX11_keepProgram_33 : decode cX11_keepProgram 33 = .ok (.getfield 203, 3) := by decide +kernel
theorem dX11_keepProgram_36 : decode cX11_keepProgram 36 = .ok (.if_icmp .ge 67, 3) := by decide +kernel
theorem dX11_keepProgram_39 : decode cX11_keepProgram 39 = .ok (.aload_n 0, 1) := by decide +kernel
theorem dX11_keepProgram_40 : decode cX11_keepProgram 40 = .ok (.getfield 7, 3) := by decide +kernel
theorem dX11_keepProgram_43 : decode cX11_keepProgram 43 = .ok (.iload_n 1, 1) := by decide +kernel
theorem dX11_keepProgram_44 : decode cX11_keepProgram 44 = .ok (.aload_n 0, 1) := by decide +kernel
theorem dX11_keepProgram_45 : decode cX11_keepProgram 45 = .ok (.getfield 31, 3) := by decide +kernel
theorem dX11_keepProgram_48 : decode cX11_keepProgram 48 = .ok (.iload_n 1, 1) := by decide +kernel
theorem dX11_keepProgram_49 : decode cX11_keepProgram 49 = .ok (.iaload, 1) := by decide +kernel
theorem dX11_keepProgram_50 : decode cX11_keepProgram 50 = .ok (.iastore, 1) := by decide +kernel
theorem dX11_keepProgram_51 : decode cX11_keepProgram 51 = .ok (.aload_n 0, 1) := by decide +kernel
theorem dX11_keepProgram_52 : decode cX11_keepProgram 52 = .ok (.getfield 16, 3) := by decide +kernel
theorem dX11_keepProgram_55 : decode cX11_keepProgram 55 = .ok (.iload_n 1, 1) := by decide +kernel
theorem dX11_keepProgram_56 : decode cX11_keepProgram 56 = .ok (.aload_n 0, 1) := by decide +kernel
theorem dX11_keepProgram_57 : decode cX11_keepProgram 57 = .ok (.getfield 37, 3) := by decide +kernel
theorem dX11_keepProgram_60 : decode cX11_keepProgram 60 = .ok (.iload_n 1, 1) := by decide +kernel
theorem dX11_keepProgram_61 : decode cX11_keepProgram 61 = .ok (.iaload, 1) := by decide +kernel
theorem dX11_keepProgram_62 : decode cX11_keepProgram 62 = .ok (.iastore, 1) := by decide +kernel
theorem dX11_keepProgram_63 : decode cX11_keepProgram 63 = .ok (.aload_n 0, 1) := by decide +kernel
theorem dX11_keepProgram_64 : decode cX11_keepProgram 64 = .ok (.getfield 28, 3) := by decide +kernel
theorem dX11_keepProgram_67 : decode cX11_keepProgram 67 = .ok (.iload_n 1, 1) := by decide +kernel
theorem dX11_keepProgram_68 : decode cX11_keepProgram 68 = .ok (.aload_n 0, 1) := by decide +kernel
theorem dX11_keepProgram_69 : decode cX11_keepProgram 69 = .ok (.iload_n 1, 1) := by decide +kernel
theorem dX11_keepProgram_70 : decode cX11_keepProgram 70 = .ok (.invokevirtual 215, 3) := by decide +kernel
theorem dX11_keepProgram_73 : decode cX11_keepProgram 73 = .ok (.l2i, 1) := by decide +kernel
theorem dX11_keepProgram_74 : decode cX11_keepProgram 74 = .ok (.iastore, 1) := by decide +kernel
theorem dX11_keepProgram_75 : decode cX11_keepProgram 75 = .ok (.aload_n 0, 1) := by decide +kernel
theorem dX11_keepProgram_76 : decode cX11_keepProgram 76 = .ok (.dup, 1) := by decide +kernel
theorem dX11_keepProgram_77 : decode cX11_keepProgram 77 = .ok (.getfield 212, 3) := by decide +kernel
theorem dX11_keepProgram_80 : decode cX11_keepProgram 80 = .ok (.aload_n 0, 1) := by decide +kernel
theorem dX11_keepProgram_81 : decode cX11_keepProgram 81 = .ok (.getfield 7, 3) := by decide +kernel
theorem dX11_keepProgram_84 : decode cX11_keepProgram 84 = .ok (.iload_n 1, 1) := by decide +kernel
theorem dX11_keepProgram_85 : decode cX11_keepProgram 85 = .ok (.iaload, 1) := by decide +kernel
theorem dX11_keepProgram_86 : decode cX11_keepProgram 86 = .ok (.aload_n 0, 1) := by decide +kernel
theorem dX11_keepProgram_87 : decode cX11_keepProgram 87 = .ok (.getfield 28, 3) := by decide +kernel
theorem dX11_keepProgram_90 : decode cX11_keepProgram 90 = .ok (.iload_n 1, 1) := by decide +kernel
theorem dX11_keepProgram_91 : decode cX11_keepProgram 91 = .ok (.iaload, 1) := by decide +kernel
theorem dX11_keepProgram_92 : decode cX11_keepProgram 92 = .ok (.imul, 1) := by decide +kernel
theorem dX11_keepProgram_93 : decode cX11_keepProgram 93 = .ok (.iadd, 1) := by decide +kernel
theorem dX11_keepProgram_94 : decode cX11_keepProgram 94 = .ok (.putfield 212, 3) := by decide +kernel
theorem dX11_keepProgram_97 : decode cX11_keepProgram 97 = .ok (.iinc 1 1, 3) := by decide +kernel
theorem dX11_keepProgram_100 : decode cX11_keepProgram 100 = .ok (.goto (-69), 3) := by decide +kernel
theorem dX11_keepProgram_103 : decode cX11_keepProgram 103 = .ok (.iconst 0, 1) := by decide +kernel
theorem dX11_keepProgram_104 : decode cX11_keepProgram 104 = .ok (.istore_n 1, 1) := by decide +kernel
theorem dX11_keepProgram_105 : decode cX11_keepProgram 105 = .ok (.iload_n 1, 1) := by decide +kernel
theorem dX11_keepProgram_106 : decode cX11_keepProgram 106 = .ok (.sipush 128, 3) := by decide +kernel
theorem dX11_keepProgram_109 : decode cX11_keepProgram 109 = .ok (.if_icmp .ge 21, 3) := by decide +kernel
theorem dX11_keepProgram_112 : decode cX11_keepProgram 112 = .ok (.aload_n 0, 1) := by decide +kernel
theorem dX11_keepProgram_113 : decode cX11_keepProgram 113 = .ok (.getfield 13, 3) := by decide +kernel
theorem dX11_keepProgram_116 : decode cX11_keepProgram 116 = .ok (.iload_n 1, 1) := by decide +kernel
theorem dX11_keepProgram_117 : decode cX11_keepProgram 117 = .ok (.aload_n 0, 1) := by decide +kernel
theorem dX11_keepProgram_118 : decode cX11_keepProgram 118 = .ok (.getfield 34, 3) := by decide +kernel
theorem dX11_keepProgram_121 : decode cX11_keepProgram 121 = .ok (.iload_n 1, 1) := by decide +kernel
theorem dX11_keepProgram_122 : decode cX11_keepProgram 122 = .ok (.iaload, 1) := by decide +kernel
theorem dX11_keepProgram_123 : decode cX11_keepProgram 123 = .ok (.iastore, 1) := by decide +kernel
theorem dX11_keepProgram_124 : decode cX11_keepProgram 124 = .ok (.iinc 1 1, 3) := by decide +kernel
theorem dX11_keepProgram_127 : decode cX11_keepProgram 127 = .ok (.goto (-22), 3) := by decide +kernel
theorem dX11_keepProgram_130 : decode cX11_keepProgram 130 = .ok (.iconst 0, 1) := by decide +kernel
theorem dX11_keepProgram_131 : decode cX11_keepProgram 131 = .ok (.istore_n 1, 1) := by decide +kernel
theorem dX11_keepProgram_132 : decode cX11_keepProgram 132 = .ok (.iload_n 1, 1) := by decide +kernel
theorem dX11_keepProgram_133 : decode cX11_keepProgram 133 = .ok (.aload_n 0, 1) := by decide +kernel
theorem dX11_keepProgram_134 : decode cX11_keepProgram 134 = .ok (.getfield 206, 3) := by decide +kernel
theorem dX11_keepProgram_137 : decode cX11_keepProgram 137 = .ok (.if_icmp .ge 33, 3) := by decide +kernel
theorem dX11_keepProgram_140 : decode cX11_keepProgram 140 = .ok (.aload_n 0, 1) := by decide +kernel
theorem dX11_keepProgram_141 : decode cX11_keepProgram 141 = .ok (.getfield 19, 3) := by decide +kernel
theorem dX11_keepProgram_144 : decode cX11_keepProgram 144 = .ok (.iload_n 1, 1) := by decide +kernel
theorem dX11_keepProgram_145 : decode cX11_keepProgram 145 = .ok (.aload_n 0, 1) := by decide +kernel
theorem dX11_keepProgram_146 : decode cX11_keepProgram 146 = .ok (.getfield 40, 3) := by decide +kernel
theorem dX11_keepProgram_149 : decode cX11_keepProgram 149 = .ok (.iload_n 1, 1) := by decide +kernel
theorem dX11_keepProgram_150 : decode cX11_keepProgram 150 = .ok (.iaload, 1) := by decide +kernel
theorem dX11_keepProgram_151 : decode cX11_keepProgram 151 = .ok (.iastore, 1) := by decide +kernel
theorem dX11_keepProgram_152 : decode cX11_keepProgram 152 = .ok (.aload_n 0, 1) := by decide +kernel
theorem dX11_keepProgram_153 : decode cX11_keepProgram 153 = .ok (.getfield 22, 3) := by decide +kernel
theorem dX11_keepProgram_156 : decode cX11_keepProgram 156 = .ok (.iload_n 1, 1) := by decide +kernel
theorem dX11_keepProgram_157 : decode cX11_keepProgram 157 = .ok (.aload_n 0, 1) := by decide +kernel
theorem dX11_keepProgram_158 : decode cX11_keepProgram 158 = .ok (.getfield 43, 3) := by decide +kernel
theorem dX11_keepProgram_161 : decode cX11_keepProgram 161 = .ok (.iload_n 1, 1) := by decide +kernel
theorem dX11_keepProgram_162 : decode cX11_keepProgram 162 = .ok (.iaload, 1) := by decide +kernel
theorem dX11_keepProgram_163 : decode cX11_keepProgram 163 = .ok (.iastore, 1) := by decide +kernel
theorem dX11_keepProgram_164 : decode cX11_keepProgram 164 = .ok (.iinc 1 1, 3) := by decide +kernel
theorem dX11_keepProgram_167 : decode cX11_keepProgram 167 = .ok (.goto (-35), 3) := by decide +kernel
theorem dX11_keepProgram_170 : decode cX11_keepProgram 170 = .ok (.iconst 0, 1) := by decide +kernel
theorem dX11_keepProgram_171 : decode cX11_keepProgram 171 = .ok (.istore_n 1, 1) := by decide +kernel
theorem dX11_keepProgram_172 : decode cX11_keepProgram 172 = .ok (.iload_n 1, 1) := by decide +kernel
theorem dX11_keepProgram_173 : decode cX11_keepProgram 173 = .ok (.aload_n 0, 1) := by decide +kernel
theorem dX11_keepProgram_174 : decode cX11_keepProgram 174 = .ok (.getfield 209, 3) := by decide +kernel
theorem dX11_keepProgram_177 : decode cX11_keepProgram 177 = .ok (.if_icmp .ge 21, 3) := by decide +kernel
theorem dX11_keepProgram_180 : decode cX11_keepProgram 180 = .ok (.aload_n 0, 1) := by decide +kernel
theorem dX11_keepProgram_181 : decode cX11_keepProgram 181 = .ok (.getfield 49, 3) := by decide +kernel
theorem dX11_keepProgram_184 : decode cX11_keepProgram 184 = .ok (.iload_n 1, 1) := by decide +kernel
theorem dX11_keepProgram_185 : decode cX11_keepProgram 185 = .ok (.aload_n 0, 1) := by decide +kernel
theorem dX11_keepProgram_186 : decode cX11_keepProgram 186 = .ok (.getfield 52, 3) := by decide +kernel
theorem dX11_keepProgram_189 : decode cX11_keepProgram 189 = .ok (.iload_n 1, 1) := by decide +kernel
theorem dX11_keepProgram_190 : decode cX11_keepProgram 190 = .ok (.iaload, 1) := by decide +kernel
theorem dX11_keepProgram_191 : decode cX11_keepProgram 191 = .ok (.iastore, 1) := by decide +kernel
theorem dX11_keepProgram_192 : decode cX11_keepProgram 192 = .ok (.iinc 1 1, 3) := by decide +kernel
theorem dX11_keepProgram_195 : decode cX11_keepProgram 195 = .ok (.goto (-23), 3) := by decide +kernel
theorem dX11_keepProgram_198 : decode cX11_keepProgram 198 = .ok (.aload_n 0, 1) := by decide +kernel
theorem dX11_keepProgram_199 : decode cX11_keepProgram 199 = .ok (.invokevirtual 219, 3) := by decide +kernel
theorem dX11_keepProgram_202 : decode cX11_keepProgram 202 = .ok (.aload_n 0, 1) := by decide +kernel
theorem dX11_keepProgram_203 : decode cX11_keepProgram 203 = .ok (.iconst 0, 1) := by decide +kernel
theorem dX11_keepProgram_204 : decode cX11_keepProgram 204 = .ok (.putfield 222, 3) := by decide +kernel
theorem dX11_keepProgram_207 : decode cX11_keepProgram 207 = .ok (.return_, 1) := by decide +kernel
set_option maxRecDepth 100000 in
set_option maxHeartbeats 4000000 in
theorem M_X11_keepProgram (G : zG) (l : Launch) {σ : zS} {σ' : zS} (hJ : J_X11_keepProgram σ = some σ') : zMV G l yX11_keepProgram cX11_keepProgram 2 none (zrm 3 69) [.ref (G.1 + 105)] 137 (zen G σ) 137 (zen G σ') := by
  unfold J_X11_keepProgram at hJ
  refine zentV (by decide +kernel) (Nat.le_of_ble_eq_true rfl) ?_
  intro p e s m args below meth c C hret
  refine zr_sub [0] [(0, .ref (G.1 + 105))] rfl ?_
  refine zr_aload_n C 0 dX11_keepProgram_0 rfl ?_
  refine zr_aload_n C 0 dX11_keepProgram_1 rfl ?_
  refine zg_11_11 C 105 zk_105 zm_16_15 dX11_keepProgram_2 ?_
  obtain ⟨σ1, hσ1, hJ⟩ := zlet_e hJ
  refine zp_11_0 C 105 zk_105 zm_16_22 hσ1 dX11_keepProgram_5 ?_
  refine zr_aload_n C 0 dX11_keepProgram_8 rfl ?_
  refine zr_aload_n C 0 dX11_keepProgram_9 rfl ?_
  refine zg_11_15 C 105 zk_105 zm_16_16 dX11_keepProgram_10 ?_
  obtain ⟨σ2, hσ2, hJ⟩ := zlet_e hJ
  refine zp_11_4 C 105 zk_105 zm_19_10 hσ2 dX11_keepProgram_13 ?_
  refine zr_aload_n C 0 dX11_keepProgram_16 rfl ?_
  refine zr_aload_n C 0 dX11_keepProgram_17 rfl ?_
  refine zg_11_23 C 105 zk_105 zm_16_17 dX11_keepProgram_18 ?_
  obtain ⟨σ3, hσ3, hJ⟩ := zlet_e hJ
  refine zp_11_22 C 105 zk_105 zm_19_11 hσ3 dX11_keepProgram_21 ?_
  refine zr_aload_n C 0 dX11_keepProgram_24 rfl ?_
  refine zr_iconst C dX11_keepProgram_25 (v := (0 : Int32)) (by decide) ?_
  obtain ⟨σ4, hσ4, hJ⟩ := zlet_e hJ
  refine zp_11_10 C 105 zk_105 zm_19_12 hσ4 dX11_keepProgram_26 ?_
  refine zr_iconst C dX11_keepProgram_29 (v := (0 : Int32)) (by decide) ?_
  refine zr_istore_n C [(1, .int (0 : Int32)), (0, .ref (G.1 + 105))] dX11_keepProgram_30 (by decide) rfl ?_
  obtain ⟨k103, hk103, hJ⟩ := zlet_e hJ
  have hj103 : ∀ (σ_103 : zS), k103 σ_103 = some σ' → zU G 2 p l e (zrm 3 69) s m args below meth c (MQ below (va_Qv (fun (_ : Unit) => True) (fun _ t => zok G 137 (zen G σ') t) (zA G)) args s 0 0 (zA G)) σ_103 103 [(0, .ref (G.1 + 105))] [] := by
    intro σ_103 hJ
    rw [hk103] at hJ
    unfold D_X11_keepProgram_103 at hJ
    refine zr_iconst C dX11_keepProgram_103 (v := (0 : Int32)) (by decide) ?_
    refine zr_istore_n C [(1, .int (0 : Int32)), (0, .ref (G.1 + 105))] dX11_keepProgram_104 (by decide) rfl ?_
    obtain ⟨k130, hk130, hJ⟩ := zlet_e hJ
    have hj130 : ∀ (σ_130 : zS), k130 σ_130 = some σ' → zU G 2 p l e (zrm 3 69) s m args below meth c (MQ below (va_Qv (fun (_ : Unit) => True) (fun _ t => zok G 137 (zen G σ') t) (zA G)) args s 0 0 (zA G)) σ_130 130 [(0, .ref (G.1 + 105))] [] := by
      intro σ_130 hJ
      rw [hk130] at hJ
      unfold D_X11_keepProgram_130 at hJ
      refine zr_iconst C dX11_keepProgram_130 (v := (0 : Int32)) (by decide) ?_
      refine zr_istore_n C [(1, .int (0 : Int32)), (0, .ref (G.1 + 105))] dX11_keepProgram_131 (by decide) rfl ?_
      obtain ⟨k170, hk170, hJ⟩ := zlet_e hJ
      have hj170 : ∀ (σ_170 : zS), k170 σ_170 = some σ' → zU G 2 p l e (zrm 3 69) s m args below meth c (MQ below (va_Qv (fun (_ : Unit) => True) (fun _ t => zok G 137 (zen G σ') t) (zA G)) args s 0 0 (zA G)) σ_170 170 [(0, .ref (G.1 + 105))] [] := by
        intro σ_170 hJ
        rw [hk170] at hJ
        unfold D_X11_keepProgram_170 at hJ
        refine zr_iconst C dX11_keepProgram_170 (v := (0 : Int32)) (by decide) ?_
        refine zr_istore_n C [(1, .int (0 : Int32)), (0, .ref (G.1 + 105))] dX11_keepProgram_171 (by decide) rfl ?_
        obtain ⟨k198, hk198, hJ⟩ := zlet_e hJ
        have hj198 : ∀ (σ_198 : zS), k198 σ_198 = some σ' → zU G 2 p l e (zrm 3 69) s m args below meth c (MQ below (va_Qv (fun (_ : Unit) => True) (fun _ t => zok G 137 (zen G σ') t) (zA G)) args s 0 0 (zA G)) σ_198 198 [(0, .ref (G.1 + 105))] [] := by
          intro σ_198 hJ
          rw [hk198] at hJ
          unfold D_X11_keepProgram_198 at hJ
          refine zr_aload_n C 0 dX11_keepProgram_198 rfl ?_
          obtain ⟨σ6, hr5, hJ⟩ := zb_e hJ
          refine zr_callVV C 105 (zk_lt zk_105 (by decide)) (zen_obj zk_105) (rfl : zcl[11]? = some (RX11, TX11, 56)) (M_X11_walk G l hr5) zin_X11_walk zm_19_14 rfl rfl (Nat.le_of_ble_eq_true rfl) ⟨Nat.le_of_ble_eq_true rfl, Nat.le_of_ble_eq_true rfl⟩ ⟨Nat.le_of_ble_eq_true rfl, Nat.le_of_ble_eq_true rfl⟩ dX11_keepProgram_199 ?_
          refine zr_aload_n C 0 dX11_keepProgram_202 rfl ?_
          refine zr_iconst C dX11_keepProgram_203 (v := (0 : Int32)) (by decide) ?_
          obtain ⟨σ7, hσ7, hJ⟩ := zlet_e hJ
          refine zp_11_49 C 105 zk_105 zm_19_13 hσ7 dX11_keepProgram_204 ?_
          exact zr_vret C hret rfl (congrArg (zen G) (zs_e hJ)) dX11_keepProgram_207
        have hl172 : ∀ (n : Nat) (w1_172 : Int32) (σ_172 : zS), L_X11_keepProgram_172 k198 n w1_172 σ_172 = some σ' → zU G 2 p l e (zrm 3 69) s m args below meth c (MQ below (va_Qv (fun (_ : Unit) => True) (fun _ t => zok G 137 (zen G σ') t) (zA G)) args s 0 0 (zA G)) σ_172 172 [(0, .ref (G.1 + 105)), (1, .int w1_172)] [] := by
          intro n
          induction n with
          | zero =>
            intro w1_172 σ_172 hJ
            rw [L_X11_keepProgram_172] at hJ
            cases hJ
          | succ n ih =>
            intro w1_172 σ_172 hJ
            rw [L_X11_keepProgram_172] at hJ
            obtain ⟨r_172, hr_172, hJ⟩ := zlet_e hJ
            have ih172 : ∀ (w1_172 : Int32) (σ_172 : zS), r_172 w1_172 σ_172 = some σ' → zU G 2 p l e (zrm 3 69) s m args below meth c (MQ below (va_Qv (fun (_ : Unit) => True) (fun _ t => zok G 137 (zen G σ') t) (zA G)) args s 0 0 (zA G)) σ_172 172 [(0, .ref (G.1 + 105)), (1, .int w1_172)] [] := by
              rw [hr_172]
              exact ih
            refine zr_iload_n C 1 dX11_keepProgram_172 rfl ?_
            refine zr_aload_n C 0 dX11_keepProgram_173 rfl ?_
            refine zg_11_22 C 105 zk_105 zm_19_11 dX11_keepProgram_174 ?_
            refine zr_icmp_ge C 198 dX11_keepProgram_177 (by decide) (fun hc8 => ?_) (fun hc8 => ?_)
            · have hJ := zif hc8 hJ
              refine zr_sub [0] [(0, .ref (G.1 + 105))] rfl ?_
              exact hj198 _ hJ
            · have hJ := zif' hc8 hJ
              refine zr_aload_n C 0 dX11_keepProgram_180 rfl ?_
              refine zg_11_20 C 105 zk_105 zm_8_0 dX11_keepProgram_181 ?_
              refine zr_iload_n C 1 dX11_keepProgram_184 rfl ?_
              refine zr_aload_n C 0 dX11_keepProgram_185 rfl ?_
              refine zg_11_21 C 105 zk_105 zm_8_1 dX11_keepProgram_186 ?_
              refine zr_iload_n C 1 dX11_keepProgram_189 rfl ?_
              obtain ⟨hg9, hJ⟩ := zg_e hJ
              refine zu_iald C 120 zk_120 hg9 dX11_keepProgram_190 ?_
              obtain ⟨hg10, hJ⟩ := zg_e hJ
              obtain ⟨σ11, hσ11, hJ⟩ := zlet_e hJ
              refine zv_iast C 119 zk_119 hg10 hσ11 dX11_keepProgram_191 ?_
              obtain ⟨v12, hv12, hJ⟩ := zlet_e hJ
              refine zr_iinc C v12 1 [(1, .int v12), (0, .ref (G.1 + 105))] dX11_keepProgram_192 rfl (hv12.trans (zinc (by decide))) (by decide) rfl ?_
              refine zr_goto C 172 dX11_keepProgram_195 (by decide) ?_
              refine zr_sub [1, 0] [(0, .ref (G.1 + 105)), (1, .int v12)] rfl ?_
              exact ih172 _ _ hJ
        refine zr_sub [1, 0] [(0, .ref (G.1 + 105)), (1, .int (0 : Int32))] rfl ?_
        exact hl172 _ _ _ hJ
      have hl132 : ∀ (n : Nat) (w1_132 : Int32) (σ_132 : zS), L_X11_keepProgram_132 k170 n w1_132 σ_132 = some σ' → zU G 2 p l e (zrm 3 69) s m args below meth c (MQ below (va_Qv (fun (_ : Unit) => True) (fun _ t => zok G 137 (zen G σ') t) (zA G)) args s 0 0 (zA G)) σ_132 132 [(0, .ref (G.1 + 105)), (1, .int w1_132)] [] := by
        intro n
        induction n with
        | zero =>
          intro w1_132 σ_132 hJ
          rw [L_X11_keepProgram_132] at hJ
          cases hJ
        | succ n ih =>
          intro w1_132 σ_132 hJ
          rw [L_X11_keepProgram_132] at hJ
          obtain ⟨r_132, hr_132, hJ⟩ := zlet_e hJ
          have ih132 : ∀ (w1_132 : Int32) (σ_132 : zS), r_132 w1_132 σ_132 = some σ' → zU G 2 p l e (zrm 3 69) s m args below meth c (MQ below (va_Qv (fun (_ : Unit) => True) (fun _ t => zok G 137 (zen G σ') t) (zA G)) args s 0 0 (zA G)) σ_132 132 [(0, .ref (G.1 + 105)), (1, .int w1_132)] [] := by
            rw [hr_132]
            exact ih
          refine zr_iload_n C 1 dX11_keepProgram_132 rfl ?_
          refine zr_aload_n C 0 dX11_keepProgram_133 rfl ?_
          refine zg_11_4 C 105 zk_105 zm_19_10 dX11_keepProgram_134 ?_
          refine zr_icmp_ge C 170 dX11_keepProgram_137 (by decide) (fun hc13 => ?_) (fun hc13 => ?_)
          · have hJ := zif hc13 hJ
            refine zr_sub [0] [(0, .ref (G.1 + 105))] rfl ?_
            exact hj170 _ hJ
          · have hJ := zif' hc13 hJ
            refine zr_aload_n C 0 dX11_keepProgram_140 rfl ?_
            refine zg_11_5 C 105 zk_105 zm_7_14 dX11_keepProgram_141 ?_
            refine zr_iload_n C 1 dX11_keepProgram_144 rfl ?_
            refine zr_aload_n C 0 dX11_keepProgram_145 rfl ?_
            refine zg_11_16 C 105 zk_105 zm_7_21 dX11_keepProgram_146 ?_
            refine zr_iload_n C 1 dX11_keepProgram_149 rfl ?_
            obtain ⟨hg14, hJ⟩ := zg_e hJ
            refine zu_iald C 116 zk_116 hg14 dX11_keepProgram_150 ?_
            obtain ⟨hg15, hJ⟩ := zg_e hJ
            obtain ⟨σ16, hσ16, hJ⟩ := zlet_e hJ
            refine zv_iast C 109 zk_109 hg15 hσ16 dX11_keepProgram_151 ?_
            refine zr_aload_n C 0 dX11_keepProgram_152 rfl ?_
            refine zg_11_6 C 105 zk_105 zm_7_15 dX11_keepProgram_153 ?_
            refine zr_iload_n C 1 dX11_keepProgram_156 rfl ?_
            refine zr_aload_n C 0 dX11_keepProgram_157 rfl ?_
            refine zg_11_17 C 105 zk_105 zm_7_22 dX11_keepProgram_158 ?_
            refine zr_iload_n C 1 dX11_keepProgram_161 rfl ?_
            obtain ⟨hg17, hJ⟩ := zg_e hJ
            refine zu_iald C 117 zk_117 hg17 dX11_keepProgram_162 ?_
            obtain ⟨hg18, hJ⟩ := zg_e hJ
            obtain ⟨σ19, hσ19, hJ⟩ := zlet_e hJ
            refine zv_iast C 110 zk_110 hg18 hσ19 dX11_keepProgram_163 ?_
            obtain ⟨v20, hv20, hJ⟩ := zlet_e hJ
            refine zr_iinc C v20 1 [(1, .int v20), (0, .ref (G.1 + 105))] dX11_keepProgram_164 rfl (hv20.trans (zinc (by decide))) (by decide) rfl ?_
            refine zr_goto C 132 dX11_keepProgram_167 (by decide) ?_
            refine zr_sub [1, 0] [(0, .ref (G.1 + 105)), (1, .int v20)] rfl ?_
            exact ih132 _ _ hJ
      refine zr_sub [1, 0] [(0, .ref (G.1 + 105)), (1, .int (0 : Int32))] rfl ?_
      exact hl132 _ _ _ hJ
    have hl105 : ∀ (n : Nat) (w1_105 : Int32) (σ_105 : zS), L_X11_keepProgram_105 k130 n w1_105 σ_105 = some σ' → zU G 2 p l e (zrm 3 69) s m args below meth c (MQ below (va_Qv (fun (_ : Unit) => True) (fun _ t => zok G 137 (zen G σ') t) (zA G)) args s 0 0 (zA G)) σ_105 105 [(0, .ref (G.1 + 105)), (1, .int w1_105)] [] := by
      intro n
      induction n with
      | zero =>
        intro w1_105 σ_105 hJ
        rw [L_X11_keepProgram_105] at hJ
        cases hJ
      | succ n ih =>
        intro w1_105 σ_105 hJ
        rw [L_X11_keepProgram_105] at hJ
        obtain ⟨r_105, hr_105, hJ⟩ := zlet_e hJ
        have ih105 : ∀ (w1_105 : Int32) (σ_105 : zS), r_105 w1_105 σ_105 = some σ' → zU G 2 p l e (zrm 3 69) s m args below meth c (MQ below (va_Qv (fun (_ : Unit) => True) (fun _ t => zok G 137 (zen G σ') t) (zA G)) args s 0 0 (zA G)) σ_105 105 [(0, .ref (G.1 + 105)), (1, .int w1_105)] [] := by
          rw [hr_105]
          exact ih
        refine zr_iload_n C 1 dX11_keepProgram_105 rfl ?_
        refine zr_sipush C dX11_keepProgram_106 (v := (128 : Int32)) (by decide) ?_
        refine zr_icmp_ge C 130 dX11_keepProgram_109 (by decide) (fun hc21 => ?_) (fun hc21 => ?_)
        · have hJ := zif hc21 hJ
          refine zr_sub [0] [(0, .ref (G.1 + 105))] rfl ?_
          exact hj130 _ hJ
        · have hJ := zif' hc21 hJ
          refine zr_aload_n C 0 dX11_keepProgram_112 rfl ?_
          refine zg_11_2 C 105 zk_105 zm_7_12 dX11_keepProgram_113 ?_
          refine zr_iload_n C 1 dX11_keepProgram_116 rfl ?_
          refine zr_aload_n C 0 dX11_keepProgram_117 rfl ?_
          refine zg_11_13 C 105 zk_105 zm_7_19 dX11_keepProgram_118 ?_
          refine zr_iload_n C 1 dX11_keepProgram_121 rfl ?_
          obtain ⟨hg22, hJ⟩ := zg_e hJ
          refine zu_iald C 114 zk_114 hg22 dX11_keepProgram_122 ?_
          obtain ⟨hg23, hJ⟩ := zg_e hJ
          obtain ⟨σ24, hσ24, hJ⟩ := zlet_e hJ
          refine zv_iast C 107 zk_107 hg23 hσ24 dX11_keepProgram_123 ?_
          obtain ⟨v25, hv25, hJ⟩ := zlet_e hJ
          refine zr_iinc C v25 1 [(1, .int v25), (0, .ref (G.1 + 105))] dX11_keepProgram_124 rfl (hv25.trans (zinc (by decide))) (by decide) rfl ?_
          refine zr_goto C 105 dX11_keepProgram_127 (by decide) ?_
          refine zr_sub [1, 0] [(0, .ref (G.1 + 105)), (1, .int v25)] rfl ?_
          exact ih105 _ _ hJ
    refine zr_sub [1, 0] [(0, .ref (G.1 + 105)), (1, .int (0 : Int32))] rfl ?_
    exact hl105 _ _ _ hJ
  have hl31 : ∀ (n : Nat) (w1_31 : Int32) (σ_31 : zS), L_X11_keepProgram_31 k103 n w1_31 σ_31 = some σ' → zU G 2 p l e (zrm 3 69) s m args below meth c (MQ below (va_Qv (fun (_ : Unit) => True) (fun _ t => zok G 137 (zen G σ') t) (zA G)) args s 0 0 (zA G)) σ_31 31 [(0, .ref (G.1 + 105)), (1, .int w1_31)] [] := by
    intro n
    induction n with
    | zero =>
      intro w1_31 σ_31 hJ
      rw [L_X11_keepProgram_31] at hJ
      cases hJ
    | succ n ih =>
      intro w1_31 σ_31 hJ
      rw [L_X11_keepProgram_31] at hJ
      obtain ⟨r_31, hr_31, hJ⟩ := zlet_e hJ
      have ih31 : ∀ (w1_31 : Int32) (σ_31 : zS), r_31 w1_31 σ_31 = some σ' → zU G 2 p l e (zrm 3 69) s m args below meth c (MQ below (va_Qv (fun (_ : Unit) => True) (fun _ t => zok G 137 (zen G σ') t) (zA G)) args s 0 0 (zA G)) σ_31 31 [(0, .ref (G.1 + 105)), (1, .int w1_31)] [] := by
        rw [hr_31]
        exact ih
      refine zr_iload_n C 1 dX11_keepProgram_31 rfl ?_
      refine zr_aload_n C 0 dX11_keepProgram_32 rfl ?_
      refine zg_11_0 C 105 zk_105 zm_16_22 dX11_keepProgram_33 ?_
      refine zr_icmp_ge C 103 dX11_keepProgram_36 (by decide) (fun hc26 => ?_) (fun hc26 => ?_)
      · have hJ := zif hc26 hJ
        refine zr_sub [0] [(0, .ref (G.1 + 105))] rfl ?_
        exact hj103 _ hJ
      · have hJ := zif' hc26 hJ
        refine zr_aload_n C 0 dX11_keepProgram_39 rfl ?_
        refine zg_11_1 C 105 zk_105 zm_7_11 dX11_keepProgram_40 ?_
        refine zr_iload_n C 1 dX11_keepProgram_43 rfl ?_
        refine zr_aload_n C 0 dX11_keepProgram_44 rfl ?_
        refine zg_11_12 C 105 zk_105 zm_7_18 dX11_keepProgram_45 ?_
        refine zr_iload_n C 1 dX11_keepProgram_48 rfl ?_
        obtain ⟨hg27, hJ⟩ := zg_e hJ
        refine zu_iald C 113 zk_113 hg27 dX11_keepProgram_49 ?_
        obtain ⟨hg28, hJ⟩ := zg_e hJ
        obtain ⟨σ29, hσ29, hJ⟩ := zlet_e hJ
        refine zv_iast C 106 zk_106 hg28 hσ29 dX11_keepProgram_50 ?_
        refine zr_aload_n C 0 dX11_keepProgram_51 rfl ?_
        refine zg_11_3 C 105 zk_105 zm_7_13 dX11_keepProgram_52 ?_
        refine zr_iload_n C 1 dX11_keepProgram_55 rfl ?_
        refine zr_aload_n C 0 dX11_keepProgram_56 rfl ?_
        refine zg_11_14 C 105 zk_105 zm_7_20 dX11_keepProgram_57 ?_
        refine zr_iload_n C 1 dX11_keepProgram_60 rfl ?_
        obtain ⟨hg30, hJ⟩ := zg_e hJ
        refine zu_iald C 115 zk_115 hg30 dX11_keepProgram_61 ?_
        obtain ⟨hg31, hJ⟩ := zg_e hJ
        obtain ⟨σ32, hσ32, hJ⟩ := zlet_e hJ
        refine zv_iast C 108 zk_108 hg31 hσ32 dX11_keepProgram_62 ?_
        refine zr_aload_n C 0 dX11_keepProgram_63 rfl ?_
        refine zg_11_9 C 105 zk_105 zm_7_17 dX11_keepProgram_64 ?_
        refine zr_iload_n C 1 dX11_keepProgram_67 rfl ?_
        refine zr_aload_n C 0 dX11_keepProgram_68 rfl ?_
        refine zr_iload_n C 1 dX11_keepProgram_69 rfl ?_
        obtain ⟨r33, hr33, hJ⟩ := zb_e hJ
        refine zr_callVL C 105 (zk_lt zk_105 (by decide)) (zen_obj zk_105) (rfl : zcl[11]? = some (RX11, TX11, 56)) (M_X11_dTimes G l hr33) zin_X11_dTimes zm_19_2 rfl rfl (Nat.le_of_ble_eq_true rfl) ⟨Nat.le_of_ble_eq_true rfl, Nat.le_of_ble_eq_true rfl⟩ ⟨Nat.le_of_ble_eq_true rfl, Nat.le_of_ble_eq_true rfl⟩ dX11_keepProgram_70 ?_
        refine zr_l2i C dX11_keepProgram_73 ?_
        obtain ⟨hg34, hJ⟩ := zg_e hJ
        obtain ⟨σ35, hσ35, hJ⟩ := zlet_e hJ
        refine zv_iast C 112 zk_112 hg34 hσ35 dX11_keepProgram_74 ?_
        refine zr_aload_n C 0 dX11_keepProgram_75 rfl ?_
        refine zr_dup C dX11_keepProgram_76 rfl ?_
        refine zg_11_10 C 105 zk_105 zm_19_12 dX11_keepProgram_77 ?_
        refine zr_aload_n C 0 dX11_keepProgram_80 rfl ?_
        refine zg_11_1 C 105 zk_105 zm_7_11 dX11_keepProgram_81 ?_
        refine zr_iload_n C 1 dX11_keepProgram_84 rfl ?_
        obtain ⟨hg36, hJ⟩ := zg_e hJ
        refine zu_iald C 106 zk_106 hg36 dX11_keepProgram_85 ?_
        refine zr_aload_n C 0 dX11_keepProgram_86 rfl ?_
        refine zg_11_9 C 105 zk_105 zm_7_17 dX11_keepProgram_87 ?_
        refine zr_iload_n C 1 dX11_keepProgram_90 rfl ?_
        obtain ⟨hg37, hJ⟩ := zg_e hJ
        refine zu_iald C 112 zk_112 hg37 dX11_keepProgram_91 ?_
        refine zr_imul C dX11_keepProgram_92 ?_
        refine zr_iadd C dX11_keepProgram_93 ?_
        obtain ⟨σ38, hσ38, hJ⟩ := zlet_e hJ
        refine zp_11_10 C 105 zk_105 zm_19_12 hσ38 dX11_keepProgram_94 ?_
        obtain ⟨v39, hv39, hJ⟩ := zlet_e hJ
        refine zr_iinc C v39 1 [(1, .int v39), (0, .ref (G.1 + 105))] dX11_keepProgram_97 rfl (hv39.trans (zinc (by decide))) (by decide) rfl ?_
        refine zr_goto C 31 dX11_keepProgram_100 (by decide) ?_
        refine zr_sub [1, 0] [(0, .ref (G.1 + 105)), (1, .int v39)] rfl ?_
        exact ih31 _ _ hJ
  refine zr_sub [1, 0] [(0, .ref (G.1 + 105)), (1, .int (0 : Int32))] rfl ?_
  exact hl31 _ _ _ hJ
theorem dX11_lay_0 : decode cX11_lay 0 = .ok (.iload_n 1, 1) := by decide +kernel
theorem dX11_lay_1 : decode cX11_lay 1 = .ok (.iconst 0, 1) := by decide +kernel
theorem dX11_lay_2 : decode cX11_lay 2 = .ok (.invokestatic 368, 3) := by decide +kernel
theorem dX11_lay_5 : decode cX11_lay 5 = .ok (.ifCond .ne 5, 3) := by decide +kernel
theorem dX11_lay_8 : decode cX11_lay 8 = .ok (.iconst (-1), 1) := by decide +kernel
theorem dX11_lay_9 : decode cX11_lay 9 = .ok (.ireturn, 1) := by decide +kernel
theorem dX11_lay_10 : decode cX11_lay 10 = .ok (.aload_n 0, 1) := by decide +kernel
theorem dX11_lay_11 : decode cX11_lay 11 = .ok (.getfield 99, 3) := by decide +kernel
theorem dX11_lay_14 : decode cX11_lay 14 = .ok (.iload_n 1, 1) := by decide +kernel
theorem dX11_lay_15 : decode cX11_lay 15 = .ok (.iaload, 1) := by decide +kernel
theorem dX11_lay_16 : decode cX11_lay 16 = .ok (.bipush (-4), 2) := by decide +kernel
theorem dX11_lay_18 : decode cX11_lay 18 = .ok (.if_icmp .ne 6, 3) := by decide +kernel
theorem dX11_lay_21 : decode cX11_lay 21 = .ok (.bipush (-11), 2) := by decide +kernel
theorem dX11_lay_23 : decode cX11_lay 23 = .ok (.ireturn, 1) := by decide +kernel
theorem dX11_lay_24 : decode cX11_lay 24 = .ok (.iload_n 2, 1) := by decide +kernel
theorem dX11_lay_25 : decode cX11_lay 25 = .ok (.i2l, 1) := by decide +kernel
theorem dX11_lay_26 : decode cX11_lay 26 = .ok (.lconst 0, 1) := by decide +kernel
theorem dX11_lay_27 : decode cX11_lay 27 = .ok (.aload_n 0, 1) := by decide +kernel
theorem dX11_lay_28 : decode cX11_lay 28 = .ok (.getfield 102, 3) := by decide +kernel
theorem dX11_lay_31 : decode cX11_lay 31 = .ok (.iload_n 1, 1) := by decide +kernel
theorem dX11_lay_32 : decode cX11_lay 32 = .ok (.iaload, 1) := by decide +kernel
theorem dX11_lay_33 : decode cX11_lay 33 = .ok (.iconst 1, 1) := by decide +kernel
theorem dX11_lay_34 : decode cX11_lay 34 = .ok (.isub, 1) := by decide +kernel
theorem dX11_lay_35 : decode cX11_lay 35 = .ok (.i2l, 1) := by decide +kernel
theorem dX11_lay_36 : decode cX11_lay 36 = .ok (.invokestatic 124, 3) := by decide +kernel
theorem dX11_lay_39 : decode cX11_lay 39 = .ok (.ifCond .ne 6, 3) := by decide +kernel
theorem dX11_lay_42 : decode cX11_lay 42 = .ok (.bipush (-12), 2) := by decide +kernel
theorem dX11_lay_44 : decode cX11_lay 44 = .ok (.ireturn, 1) := by decide +kernel
theorem dX11_lay_45 : decode cX11_lay 45 = .ok (.aload_n 0, 1) := by decide +kernel
theorem dX11_lay_46 : decode cX11_lay 46 = .ok (.getfield 105, 3) := by decide +kernel
theorem dX11_lay_49 : decode cX11_lay 49 = .ok (.bipush 40, 2) := by decide +kernel
theorem dX11_lay_51 : decode cX11_lay 51 = .ok (.iload_n 1, 1) := by decide +kernel
theorem dX11_lay_52 : decode cX11_lay 52 = .ok (.imul, 1) := by decide +kernel
theorem dX11_lay_53 : decode cX11_lay 53 = .ok (.iload_n 2, 1) := by decide +kernel
theorem dX11_lay_54 : decode cX11_lay 54 = .ok (.iadd, 1) := by decide +kernel
theorem dX11_lay_55 : decode cX11_lay 55 = .ok (.aload_n 0, 1) := by decide +kernel
theorem dX11_lay_56 : decode cX11_lay 56 = .ok (.getfield 99, 3) := by decide +kernel
theorem dX11_lay_59 : decode cX11_lay 59 = .ok (.iload_n 1, 1) := by decide +kernel
theorem dX11_lay_60 : decode cX11_lay 60 = .ok (.iaload, 1) := by decide +kernel
theorem dX11_lay_61 : decode cX11_lay 61 = .ok (.ifCond .ne 8, 3) := by decide +kernel
theorem dX11_lay_64 : decode cX11_lay 64 = .ok (.iload_n 3, 1) := by decide +kernel
theorem dX11_lay_65 : decode cX11_lay 65 = .ok (.i2b, 1) := by decide +kernel
theorem dX11_lay_66 : decode cX11_lay 66 = .ok (.goto 19, 3) := by decide +kernel
theorem dX11_lay_69 : decode cX11_lay 69 = .ok (.aload_n 0, 1) := by decide +kernel
theorem dX11_lay_70 : decode cX11_lay 70 = .ok (.getfield 99, 3) := by decide +kernel
theorem dX11_lay_73 : decode cX11_lay 73 = .ok (.iload_n 1, 1) := by decide +kernel
theorem dX11_lay_74 : decode cX11_lay 74 = .ok (.iaload, 1) := by decide +kernel
theorem dX11_lay_75 : decode cX11_lay 75 = .ok (.iconst 1, 1) := by decide +kernel
theorem dX11_lay_76 : decode cX11_lay 76 = .ok (.if_icmp .ne 8, 3) := by decide +kernel
theorem dX11_lay_79 : decode cX11_lay 79 = .ok (.iload_n 3, 1) := by decide +kernel
theorem dX11_lay_80 : decode cX11_lay 80 = .ok (.i2s, 1) := by decide +kernel
theorem dX11_lay_81 : decode cX11_lay 81 = .ok (.goto 4, 3) := by decide +kernel
theorem dX11_lay_84 : decode cX11_lay 84 = .ok (.iload_n 3, 1) := by decide +kernel
theorem dX11_lay_85 : decode cX11_lay 85 = .ok (.iastore, 1) := by decide +kernel
theorem dX11_lay_86 : decode cX11_lay 86 = .ok (.iconst 1, 1) := by decide +kernel
theorem dX11_lay_87 : decode cX11_lay 87 = .ok (.ireturn, 1) := by decide +kernel
set_option maxRecDepth 100000 in
set_option maxHeartbeats 4000000 in
theorem M_X11_lay (G : zG) (l : Launch) {a1 : Int32} {a2 : Int32} {a3 : Int32} {σ : zS} {r : Int32} {σ' : zS} (hJ : J_X11_lay a1 a2 a3 σ = some (r, σ')) : zMI G l yX11_lay cX11_lay 4 (some .int) (zrm 2 46) [.ref (G.1 + 105), .int a1, .int a2, .int a3] 137 (zen G σ) r 137 (zen G σ') := by
  unfold J_X11_lay at hJ
  refine zentI (by decide +kernel) (Nat.le_of_ble_eq_true rfl) ?_
  intro p e s m args below meth c C hret
  refine zr_sub [0, 1, 2, 3] [(0, .ref (G.1 + 105)), (1, .int a1), (2, .int a2), (3, .int a3)] rfl ?_
  refine zr_iload_n C 1 dX11_lay_0 rfl ?_
  refine zr_iconst C dX11_lay_1 (v := (0 : Int32)) (by decide) ?_
  obtain ⟨r1, hr1, hJ⟩ := zb_e hJ
  refine zr_callSI C (M_X11_isSheet G l hr1) zin_X11_isSheet zm_47_7 rfl rfl (Nat.le_of_ble_eq_true rfl) ⟨Nat.le_of_ble_eq_true rfl, Nat.le_of_ble_eq_true rfl⟩ ⟨Nat.le_of_ble_eq_true rfl, Nat.le_of_ble_eq_true rfl⟩ dX11_lay_2 ?_
  refine zr_if_ne C 10 dX11_lay_5 (by decide) (fun hc2 => ?_) (fun hc2 => ?_)
  · have hJ := zif' hc2 hJ
    refine zr_aload_n C 0 dX11_lay_10 rfl ?_
    refine zg_11_53 C 105 zk_105 zm_8_16 dX11_lay_11 ?_
    refine zr_iload_n C 1 dX11_lay_14 rfl ?_
    obtain ⟨hg3, hJ⟩ := zg_e hJ
    refine zu_iald C 134 zk_134 hg3 dX11_lay_15 ?_
    refine zr_bipush C dX11_lay_16 (v := (-4 : Int32)) (by decide) ?_
    refine zr_icmp_ne C 24 dX11_lay_18 (by decide) (fun hc4 => ?_) (fun hc4 => ?_)
    · have hJ := zif' hc4 hJ
      refine zr_iload_n C 2 dX11_lay_24 rfl ?_
      refine zr_i2l C dX11_lay_25 ?_
      refine zr_lconst C dX11_lay_26 (v := (0 : Int64)) (by decide) ?_
      refine zr_aload_n C 0 dX11_lay_27 rfl ?_
      refine zg_11_54 C 105 zk_105 zm_8_17 dX11_lay_28 ?_
      refine zr_iload_n C 1 dX11_lay_31 rfl ?_
      obtain ⟨hg5, hJ⟩ := zg_e hJ
      refine zu_iald C 135 zk_135 hg5 dX11_lay_32 ?_
      refine zr_iconst C dX11_lay_33 (v := (1 : Int32)) (by decide) ?_
      refine zr_isub C dX11_lay_34 ?_
      refine zr_i2l C dX11_lay_35 ?_
      obtain ⟨r6, hr6, hJ⟩ := zb_e hJ
      refine zr_callSI C (M_X11_in G l hr6) zin_X11_in zm_9_22 rfl rfl (Nat.le_of_ble_eq_true rfl) ⟨Nat.le_of_ble_eq_true rfl, Nat.le_of_ble_eq_true rfl⟩ ⟨Nat.le_of_ble_eq_true rfl, Nat.le_of_ble_eq_true rfl⟩ dX11_lay_36 ?_
      refine zr_if_ne C 45 dX11_lay_39 (by decide) (fun hc7 => ?_) (fun hc7 => ?_)
      · have hJ := zif' hc7 hJ
        refine zr_aload_n C 0 dX11_lay_45 rfl ?_
        refine zg_11_55 C 105 zk_105 zm_8_18 dX11_lay_46 ?_
        refine zr_bipush C dX11_lay_49 (v := (40 : Int32)) (by decide) ?_
        refine zr_iload_n C 1 dX11_lay_51 rfl ?_
        refine zr_imul C dX11_lay_52 ?_
        refine zr_iload_n C 2 dX11_lay_53 rfl ?_
        refine zr_iadd C dX11_lay_54 ?_
        refine zr_aload_n C 0 dX11_lay_55 rfl ?_
        refine zg_11_53 C 105 zk_105 zm_8_16 dX11_lay_56 ?_
        refine zr_iload_n C 1 dX11_lay_59 rfl ?_
        obtain ⟨hg8, hJ⟩ := zg_e hJ
        refine zu_iald C 134 zk_134 hg8 dX11_lay_60 ?_
        refine zr_if_ne C 69 dX11_lay_61 (by decide) (fun hc9 => ?_) (fun hc9 => ?_)
        · have hJ := zif' hc9 hJ
          refine zr_aload_n C 0 dX11_lay_69 rfl ?_
          refine zg_11_53 C 105 zk_105 zm_8_16 dX11_lay_70 ?_
          refine zr_iload_n C 1 dX11_lay_73 rfl ?_
          obtain ⟨hg10, hJ⟩ := zg_e hJ
          refine zu_iald C 134 zk_134 hg10 dX11_lay_74 ?_
          refine zr_iconst C dX11_lay_75 (v := (1 : Int32)) (by decide) ?_
          refine zr_icmp_ne C 84 dX11_lay_76 (by decide) (fun hc11 => ?_) (fun hc11 => ?_)
          · have hJ := zif' hc11 hJ
            refine zr_iload_n C 3 dX11_lay_84 rfl ?_
            obtain ⟨hg12, hJ⟩ := zg_e hJ
            obtain ⟨σ13, hσ13, hJ⟩ := zlet_e hJ
            refine zv_iast C 136 zk_136 hg12 hσ13 dX11_lay_85 ?_
            refine zr_iconst C dX11_lay_86 (v := (1 : Int32)) (by decide) ?_
            exact zr_iret C hret (Prod.mk.inj (zs_e hJ)).1 rfl (congrArg (zen G) (Prod.mk.inj (zs_e hJ)).2) dX11_lay_87
          · have hJ := zif hc11 hJ
            refine zr_iload_n C 3 dX11_lay_79 rfl ?_
            refine zr_i2s C dX11_lay_80 ?_
            refine zr_goto C 85 dX11_lay_81 (by decide) ?_
            obtain ⟨hg14, hJ⟩ := zg_e hJ
            obtain ⟨σ15, hσ15, hJ⟩ := zlet_e hJ
            refine zv_iast C 136 zk_136 hg14 hσ15 dX11_lay_85 ?_
            refine zr_iconst C dX11_lay_86 (v := (1 : Int32)) (by decide) ?_
            exact zr_iret C hret (Prod.mk.inj (zs_e hJ)).1 rfl (congrArg (zen G) (Prod.mk.inj (zs_e hJ)).2) dX11_lay_87
        · have hJ := zif hc9 hJ
          refine zr_iload_n C 3 dX11_lay_64 rfl ?_
          refine zr_i2b C dX11_lay_65 ?_
          refine zr_goto C 85 dX11_lay_66 (by decide) ?_
          obtain ⟨hg16, hJ⟩ := zg_e hJ
          obtain ⟨σ17, hσ17, hJ⟩ := zlet_e hJ
          refine zv_iast C 136 zk_136 hg16 hσ17 dX11_lay_85 ?_
          refine zr_iconst C dX11_lay_86 (v := (1 : Int32)) (by decide) ?_
          exact zr_iret C hret (Prod.mk.inj (zs_e hJ)).1 rfl (congrArg (zen G) (Prod.mk.inj (zs_e hJ)).2) dX11_lay_87
      · have hJ := zif hc7 hJ
        refine zr_bipush C dX11_lay_42 (v := (-12 : Int32)) (by decide) ?_
        exact zr_iret C hret (Prod.mk.inj (zs_e hJ)).1 rfl (congrArg (zen G) (Prod.mk.inj (zs_e hJ)).2) dX11_lay_44
    · have hJ := zif hc4 hJ
      refine zr_bipush C dX11_lay_21 (v := (-11 : Int32)) (by decide) ?_
      exact zr_iret C hret (Prod.mk.inj (zs_e hJ)).1 rfl (congrArg (zen G) (Prod.mk.inj (zs_e hJ)).2) dX11_lay_23
  · have hJ := zif hc2 hJ
    refine zr_iconst C dX11_lay_8 (v := (-1 : Int32)) (by decide) ?_
    exact zr_iret C hret (Prod.mk.inj (zs_e hJ)).1 rfl (congrArg (zen G) (Prod.mk.inj (zs_e hJ)).2) dX11_lay_9
theorem dX11_line_0 : decode cX11_line 0 = .ok (.aload_n 0, 1) := by decide +kernel
theorem dX11_line_1 : decode cX11_line 1 = .ok (.iload_n 1, 1) := by decide +kernel
theorem dX11_line_2 : decode cX11_line 2 = .ok (.invokevirtual 243, 3) := by decide +kernel
theorem dX11_line_5 : decode cX11_line 5 = .ok (.ifCond .ne 5, 3) := by decide +kernel
theorem dX11_line_8 : decode cX11_line 8 = .ok (.iconst (-1), 1) := by decide +kernel
theorem dX11_line_9 : decode cX11_line 9 = .ok (.ireturn, 1) := by decide +kernel
theorem dX11_line_10 : decode cX11_line 10 = .ok (.iload_n 2, 1) := by decide +kernel
theorem dX11_line_11 : decode cX11_line 11 = .ok (.i2l, 1) := by decide +kernel
theorem dX11_line_12 : decode cX11_line 12 = .ok (.ldc2_w 247, 3) := by decide +kernel
theorem dX11_line_15 : decode cX11_line 15 = .ok (.ldc2_w 249, 3) := by decide +kernel
theorem dX11_line_18 : decode cX11_line 18 = .ok (.invokestatic 124, 3) := by decide +kernel
theorem dX11_line_21 : decode cX11_line 21 = .ok (.ifCond .eq 13, 3) := by decide +kernel
theorem dX11_line_24 : decode cX11_line 24 = .ok (.aload_n 0, 1) := by decide +kernel
theorem dX11_line_25 : decode cX11_line 25 = .ok (.iload_n 1, 1) := by decide +kernel
theorem dX11_line_26 : decode cX11_line 26 = .ok (.iload_n 2, 1) := by decide +kernel
theorem dX11_line_27 : decode cX11_line 27 = .ok (.bipush 10, 2) := by decide +kernel
theorem dX11_line_29 : decode cX11_line 29 = .ok (.isub, 1) := by decide +kernel
theorem dX11_line_30 : decode cX11_line 30 = .ok (.invokevirtual 251, 3) := by decide +kernel
theorem dX11_line_33 : decode cX11_line 33 = .ok (.ireturn, 1) := by decide +kernel
theorem dX11_line_34 : decode cX11_line 34 = .ok (.iload_n 2, 1) := by decide +kernel
theorem dX11_line_35 : decode cX11_line 35 = .ok (.ifCond .ne 12, 3) := by decide +kernel
theorem dX11_line_38 : decode cX11_line 38 = .ok (.aload_n 0, 1) := by decide +kernel
theorem dX11_line_39 : decode cX11_line 39 = .ok (.getfield 7, 3) := by decide +kernel
theorem dX11_line_42 : decode cX11_line 42 = .ok (.iload_n 1, 1) := by decide +kernel
theorem dX11_line_43 : decode cX11_line 43 = .ok (.iaload, 1) := by decide +kernel
theorem dX11_line_44 : decode cX11_line 44 = .ok (.goto 36, 3) := by decide +kernel
theorem dX11_line_47 : decode cX11_line 47 = .ok (.iload_n 2, 1) := by decide +kernel
theorem dX11_line_48 : decode cX11_line 48 = .ok (.iconst 1, 1) := by decide +kernel
theorem dX11_line_49 : decode cX11_line 49 = .ok (.if_icmp .ne 12, 3) := by decide +kernel
theorem dX11_line_52 : decode cX11_line 52 = .ok (.aload_n 0, 1) := by decide +kernel
theorem dX11_line_53 : decode cX11_line 53 = .ok (.getfield 28, 3) := by decide +kernel
theorem dX11_line_56 : decode cX11_line 56 = .ok (.iload_n 1, 1) := by decide +kernel
theorem dX11_line_57 : decode cX11_line 57 = .ok (.iaload, 1) := by decide +kernel
theorem dX11_line_58 : decode cX11_line 58 = .ok (.goto 22, 3) := by decide +kernel
theorem dX11_line_61 : decode cX11_line 61 = .ok (.iload_n 2, 1) := by decide +kernel
theorem dX11_line_62 : decode cX11_line 62 = .ok (.iconst 2, 1) := by decide +kernel
theorem dX11_line_63 : decode cX11_line 63 = .ok (.if_icmp .ne 16, 3) := by decide +kernel
theorem dX11_line_66 : decode cX11_line 66 = .ok (.aload_n 0, 1) := by decide +kernel
theorem dX11_line_67 : decode cX11_line 67 = .ok (.aload_n 0, 1) := by decide +kernel
theorem dX11_line_68 : decode cX11_line 68 = .ok (.getfield 16, 3) := by decide +kernel
theorem dX11_line_71 : decode cX11_line 71 = .ok (.iload_n 1, 1) := by decide +kernel
theorem dX11_line_72 : decode cX11_line 72 = .ok (.iaload, 1) := by decide +kernel
theorem dX11_line_73 : decode cX11_line 73 = .ok (.invokevirtual 254, 3) := by decide +kernel
theorem dX11_line_76 : decode cX11_line 76 = .ok (.goto 4, 3) := by decide +kernel
theorem dX11_line_79 : decode cX11_line 79 = .ok (.iconst (-1), 1) := by decide +kernel
theorem dX11_line_80 : decode cX11_line 80 = .ok (.ireturn, 1) := by decide +kernel
set_option maxRecDepth 100000 in
set_option maxHeartbeats 4000000 in
theorem M_X11_line (G : zG) (l : Launch) {a1 : Int32} {a2 : Int32} {σ : zS} {r : Int32} (hJ : J_X11_line a1 a2 σ = some r) : zMI G l yX11_line cX11_line 3 (some .int) (zrm 2 46) [.ref (G.1 + 105), .int a1, .int a2] 137 (zen G σ) r 137 (zen G σ) := by
  unfold J_X11_line at hJ
  refine zentI (by decide +kernel) (Nat.le_of_ble_eq_true rfl) ?_
  intro p e s m args below meth c C hret
  refine zr_sub [0, 1, 2] [(0, .ref (G.1 + 105)), (1, .int a1), (2, .int a2)] rfl ?_
  refine zr_aload_n C 0 dX11_line_0 rfl ?_
  refine zr_iload_n C 1 dX11_line_1 rfl ?_
  obtain ⟨r1, hr1, hJ⟩ := zb_e hJ
  refine zr_callVI C 105 (zk_lt zk_105 (by decide)) (zen_obj zk_105) (rfl : zcl[11]? = some (RX11, TX11, 56)) (M_X11_isLine G l hr1) zin_X11_isLine zm_21_5 rfl rfl (Nat.le_of_ble_eq_true rfl) ⟨Nat.le_of_ble_eq_true rfl, Nat.le_of_ble_eq_true rfl⟩ ⟨Nat.le_of_ble_eq_true rfl, Nat.le_of_ble_eq_true rfl⟩ dX11_line_2 ?_
  refine zr_if_ne C 10 dX11_line_5 (by decide) (fun hc2 => ?_) (fun hc2 => ?_)
  · have hJ := zif' hc2 hJ
    refine zr_iload_n C 2 dX11_line_10 rfl ?_
    refine zr_i2l C dX11_line_11 ?_
    refine zr_ldc2 C dX11_line_12 zm_21_3 ?_
    refine zr_ldc2 C dX11_line_15 zm_21_4 ?_
    obtain ⟨r3, hr3, hJ⟩ := zb_e hJ
    refine zr_callSI C (M_X11_in G l hr3) zin_X11_in zm_9_22 rfl rfl (Nat.le_of_ble_eq_true rfl) ⟨Nat.le_of_ble_eq_true rfl, Nat.le_of_ble_eq_true rfl⟩ ⟨Nat.le_of_ble_eq_true rfl, Nat.le_of_ble_eq_true rfl⟩ dX11_line_18 ?_
    refine zr_if_eq C 34 dX11_line_21 (by decide) (fun hc4 => ?_) (fun hc4 => ?_)
    · have hJ := zif hc4 hJ
      refine zr_iload_n C 2 dX11_line_34 rfl ?_
      refine zr_if_ne C 47 dX11_line_35 (by decide) (fun hc5 => ?_) (fun hc5 => ?_)
      · have hJ := zif' hc5 hJ
        refine zr_iload_n C 2 dX11_line_47 rfl ?_
        refine zr_iconst C dX11_line_48 (v := (1 : Int32)) (by decide) ?_
        refine zr_icmp_ne C 61 dX11_line_49 (by decide) (fun hc6 => ?_) (fun hc6 => ?_)
        · have hJ := zif' hc6 hJ
          refine zr_iload_n C 2 dX11_line_61 rfl ?_
          refine zr_iconst C dX11_line_62 (v := (2 : Int32)) (by decide) ?_
          refine zr_icmp_ne C 79 dX11_line_63 (by decide) (fun hc7 => ?_) (fun hc7 => ?_)
          · have hJ := zif' hc7 hJ
            refine zr_iconst C dX11_line_79 (v := (-1 : Int32)) (by decide) ?_
            exact zr_iret C hret (zs_e hJ) rfl rfl dX11_line_80
          · have hJ := zif hc7 hJ
            refine zr_aload_n C 0 dX11_line_66 rfl ?_
            refine zr_aload_n C 0 dX11_line_67 rfl ?_
            refine zg_11_3 C 105 zk_105 zm_7_13 dX11_line_68 ?_
            refine zr_iload_n C 1 dX11_line_71 rfl ?_
            obtain ⟨hg8, hJ⟩ := zg_e hJ
            refine zu_iald C 108 zk_108 hg8 dX11_line_72 ?_
            obtain ⟨r9, hr9, hJ⟩ := zb_e hJ
            refine zr_callVI C 105 (zk_lt zk_105 (by decide)) (zen_obj zk_105) (rfl : zcl[11]? = some (RX11, TX11, 56)) (M_X11_depthOf G l hr9) zin_X11_depthOf zm_21_13 rfl rfl (Nat.le_of_ble_eq_true rfl) ⟨Nat.le_of_ble_eq_true rfl, Nat.le_of_ble_eq_true rfl⟩ ⟨Nat.le_of_ble_eq_true rfl, Nat.le_of_ble_eq_true rfl⟩ dX11_line_73 ?_
            refine zr_goto C 80 dX11_line_76 (by decide) ?_
            exact zr_iret C hret (zs_e hJ) rfl rfl dX11_line_80
        · have hJ := zif hc6 hJ
          refine zr_aload_n C 0 dX11_line_52 rfl ?_
          refine zg_11_9 C 105 zk_105 zm_7_17 dX11_line_53 ?_
          refine zr_iload_n C 1 dX11_line_56 rfl ?_
          obtain ⟨hg10, hJ⟩ := zg_e hJ
          refine zu_iald C 112 zk_112 hg10 dX11_line_57 ?_
          refine zr_goto C 80 dX11_line_58 (by decide) ?_
          exact zr_iret C hret (zs_e hJ) rfl rfl dX11_line_80
      · have hJ := zif hc5 hJ
        refine zr_aload_n C 0 dX11_line_38 rfl ?_
        refine zg_11_1 C 105 zk_105 zm_7_11 dX11_line_39 ?_
        refine zr_iload_n C 1 dX11_line_42 rfl ?_
        obtain ⟨hg11, hJ⟩ := zg_e hJ
        refine zu_iald C 106 zk_106 hg11 dX11_line_43 ?_
        refine zr_goto C 80 dX11_line_44 (by decide) ?_
        exact zr_iret C hret (zs_e hJ) rfl rfl dX11_line_80
    · have hJ := zif' hc4 hJ
      refine zr_aload_n C 0 dX11_line_24 rfl ?_
      refine zr_iload_n C 1 dX11_line_25 rfl ?_
      refine zr_iload_n C 2 dX11_line_26 rfl ?_
      refine zr_bipush C dX11_line_27 (v := (10 : Int32)) (by decide) ?_
      refine zr_isub C dX11_line_29 ?_
      obtain ⟨r12, hr12, hJ⟩ := zb_e hJ
      refine zr_callVI C 105 (zk_lt zk_105 (by decide)) (zen_obj zk_105) (rfl : zcl[11]? = some (RX11, TX11, 56)) (M_X11_made G l hr12) zin_X11_made zm_21_9 rfl rfl (Nat.le_of_ble_eq_true rfl) ⟨Nat.le_of_ble_eq_true rfl, Nat.le_of_ble_eq_true rfl⟩ ⟨Nat.le_of_ble_eq_true rfl, Nat.le_of_ble_eq_true rfl⟩ dX11_line_30 ?_
      exact zr_iret C hret (zs_e hJ) rfl rfl dX11_line_33
  · have hJ := zif hc2 hJ
    refine zr_iconst C dX11_line_8 (v := (-1 : Int32)) (by decide) ?_
    exact zr_iret C hret (zs_e hJ) rfl rfl dX11_line_9
theorem dX11_toldBy_0 : decode cX11_toldBy 0 = .ok (.iconst 1, 1) := by decide +kernel
theorem dX11_toldBy_1 : decode cX11_toldBy 1 = .ok (.aload_n 0, 1) := by decide +kernel
theorem dX11_toldBy_2 : decode cX11_toldBy 2 = .ok (.getfield 74, 3) := by decide +kernel
theorem dX11_toldBy_5 : decode cX11_toldBy 5 = .ok (.iload_n 1, 1) := by decide +kernel
theorem dX11_toldBy_6 : decode cX11_toldBy 6 = .ok (.iaload, 1) := by decide +kernel
theorem dX11_toldBy_7 : decode cX11_toldBy 7 = .ok (.ishl, 1) := by decide +kernel
theorem dX11_toldBy_8 : decode cX11_toldBy 8 = .ok (.istore 4, 2) := by decide +kernel
theorem dX11_toldBy_10 : decode cX11_toldBy 10 = .ok (.iconst 0, 1) := by decide +kernel
theorem dX11_toldBy_11 : decode cX11_toldBy 11 = .ok (.istore 5, 2) := by decide +kernel
theorem dX11_toldBy_13 : decode cX11_toldBy 13 = .ok (.iconst 0, 1) := by decide +kernel
theorem dX11_toldBy_14 : decode cX11_toldBy 14 = .ok (.istore 6, 2) := by decide +kernel
theorem dX11_toldBy_16 : decode cX11_toldBy 16 = .ok (.iconst 0, 1) := by decide +kernel
theorem dX11_toldBy_17 : decode cX11_toldBy 17 = .ok (.istore 7, 2) := by decide +kernel
theorem dX11_toldBy_19 : decode cX11_toldBy 19 = .ok (.iconst 0, 1) := by decide +kernel
theorem dX11_toldBy_20 : decode cX11_toldBy 20 = .ok (.istore 8, 2) := by decide +kernel
theorem dX11_toldBy_22 : decode cX11_toldBy 22 = .ok (.aload_n 0, 1) := by decide +kernel
theorem dX11_toldBy_23 : decode cX11_toldBy 23 = .ok (.iconst 1, 1) := by decide +kernel
theorem dX11_toldBy_24 : decode cX11_toldBy 24 = .ok (.putfield 355, 3) := by decide +kernel
theorem dX11_toldBy_27 : decode cX11_toldBy 27 = .ok (.iconst 0, 1) := by decide +kernel
theorem dX11_toldBy_28 : decode cX11_toldBy 28 = .ok (.istore 9, 2) := by decide +kernel
theorem dX11_toldBy_30 : decode cX11_toldBy 30 = .ok (.iload 9, 2) := by decide +kernel
theorem dX11_toldBy_32 : decode cX11_toldBy 32 = .ok (.aload_n 0, 1) := by decide +kernel
theorem dX11_toldBy_33 : decode cX11_toldBy 33 = .ok (.getfield 225, 3) := by decide +kernel
theorem dX11_toldBy_36 : decode cX11_toldBy 36 = .ok (.if_icmp .ge 86, 3) := by decide +kernel
theorem dX11_toldBy_39 : decode cX11_toldBy 39 = .ok (.iload 9, 2) := by decide +kernel
theorem dX11_toldBy_41 : decode cX11_toldBy 41 = .ok (.ifCond .le 37, 3) := by decide +kernel
theorem dX11_toldBy_44 : decode cX11_toldBy 44 = .ok (.iload 5, 2) := by decide +kernel
theorem dX11_toldBy_46 : decode cX11_toldBy 46 = .ok (.iload_n 3, 1) := by decide +kernel
theorem dX11_toldBy_47 : decode cX11_toldBy 47 = .ok (.idiv, 1) := by decide +kernel
theorem dX11_toldBy_48 : decode cX11_toldBy 48 = .ok (.iload 6, 2) := by decide +kernel
theorem dX11_toldBy_50 : decode cX11_toldBy 50 = .ok (.iload_n 3, 1) := by decide +kernel
theorem dX11_toldBy_51 : decode cX11_toldBy 51 = .ok (.idiv, 1) := by decide +kernel
theorem dX11_toldBy_52 : decode cX11_toldBy 52 = .ok (.if_icmp .eq 26, 3) := by decide +kernel
theorem dX11_toldBy_55 : decode cX11_toldBy 55 = .ok (.aload_n 0, 1) := by decide +kernel
theorem dX11_toldBy_56 : decode cX11_toldBy 56 = .ok (.dup, 1) := by decide +kernel
theorem dX11_toldBy_57 : decode cX11_toldBy 57 = .ok (.getfield 355, 3) := by decide +kernel
theorem dX11_toldBy_60 : decode cX11_toldBy 60 = .ok (.iconst 1, 1) := by decide +kernel
theorem dX11_toldBy_61 : decode cX11_toldBy 61 = .ok (.iadd, 1) := by decide +kernel
theorem dX11_toldBy_62 : decode cX11_toldBy 62 = .ok (.putfield 355, 3) := by decide +kernel
theorem dX11_toldBy_65 : decode cX11_toldBy 65 = .ok (.iload 8, 2) := by decide +kernel
theorem dX11_toldBy_67 : decode cX11_toldBy 67 = .ok (.iload 7, 2) := by decide +kernel
theorem dX11_toldBy_69 : decode cX11_toldBy 69 = .ok (.iload 4, 2) := by decide +kernel
theorem dX11_toldBy_71 : decode cX11_toldBy 71 = .ok (.irem, 1) := by decide +kernel
theorem dX11_toldBy_72 : decode cX11_toldBy 72 = .ok (.iadd, 1) := by decide +kernel
theorem dX11_toldBy_73 : decode cX11_toldBy 73 = .ok (.istore 8, 2) := by decide +kernel
theorem dX11_toldBy_75 : decode cX11_toldBy 75 = .ok (.iconst 0, 1) := by decide +kernel
theorem dX11_toldBy_76 : decode cX11_toldBy 76 = .ok (.istore 7, 2) := by decide +kernel
theorem dX11_toldBy_78 : decode cX11_toldBy 78 = .ok (.iload 5, 2) := by decide +kernel
theorem dX11_toldBy_80 : decode cX11_toldBy 80 = .ok (.istore 6, 2) := by decide +kernel
theorem dX11_toldBy_82 : decode cX11_toldBy 82 = .ok (.iload 7, 2) := by decide +kernel
theorem dX11_toldBy_84 : decode cX11_toldBy 84 = .ok (.aload_n 0, 1) := by decide +kernel
theorem dX11_toldBy_85 : decode cX11_toldBy 85 = .ok (.aload_n 0, 1) := by decide +kernel
theorem dX11_toldBy_86 : decode cX11_toldBy 86 = .ok (.getfield 25, 3) := by decide +kernel
theorem dX11_toldBy_89 : decode cX11_toldBy 89 = .ok (.iload 9, 2) := by decide +kernel
theorem dX11_toldBy_91 : decode cX11_toldBy 91 = .ok (.iaload, 1) := by decide +kernel
theorem dX11_toldBy_92 : decode cX11_toldBy 92 = .ok (.iload_n 2, 1) := by decide +kernel
theorem dX11_toldBy_93 : decode cX11_toldBy 93 = .ok (.invokevirtual 251, 3) := by decide +kernel
theorem dX11_toldBy_96 : decode cX11_toldBy 96 = .ok (.iadd, 1) := by decide +kernel
theorem dX11_toldBy_97 : decode cX11_toldBy 97 = .ok (.istore 7, 2) := by decide +kernel
theorem dX11_toldBy_99 : decode cX11_toldBy 99 = .ok (.iload 5, 2) := by decide +kernel
theorem dX11_toldBy_101 : decode cX11_toldBy 101 = .ok (.aload_n 0, 1) := by decide +kernel
theorem dX11_toldBy_102 : decode cX11_toldBy 102 = .ok (.getfield 7, 3) := by decide +kernel
theorem dX11_toldBy_105 : decode cX11_toldBy 105 = .ok (.aload_n 0, 1) := by decide +kernel
theorem dX11_toldBy_106 : decode cX11_toldBy 106 = .ok (.getfield 25, 3) := by decide +kernel
theorem dX11_toldBy_109 : decode cX11_toldBy 109 = .ok (.iload 9, 2) := by decide +kernel
theorem dX11_toldBy_111 : decode cX11_toldBy 111 = .ok (.iaload, 1) := by decide +kernel
theorem dX11_toldBy_112 : decode cX11_toldBy 112 = .ok (.iaload, 1) := by decide +kernel
theorem dX11_toldBy_113 : decode cX11_toldBy 113 = .ok (.iadd, 1) := by decide +kernel
theorem dX11_toldBy_114 : decode cX11_toldBy 114 = .ok (.istore 5, 2) := by decide +kernel
theorem dX11_toldBy_116 : decode cX11_toldBy 116 = .ok (.iinc 9 1, 3) := by decide +kernel
theorem dX11_toldBy_119 : decode cX11_toldBy 119 = .ok (.goto (-89), 3) := by decide +kernel
theorem dX11_toldBy_122 : decode cX11_toldBy 122 = .ok (.iload 8, 2) := by decide +kernel
theorem dX11_toldBy_124 : decode cX11_toldBy 124 = .ok (.iload 7, 2) := by decide +kernel
theorem dX11_toldBy_126 : decode cX11_toldBy 126 = .ok (.iload 4, 2) := by decide +kernel
theorem dX11_toldBy_128 : decode cX11_toldBy 128 = .ok (.irem, 1) := by decide +kernel
theorem dX11_toldBy_129 : decode cX11_toldBy 129 = .ok (.iadd, 1) := by decide +kernel
theorem dX11_toldBy_130 : decode cX11_toldBy 130 = .ok (.ireturn, 1) := by decide +kernel
set_option maxRecDepth 100000 in
set_option maxHeartbeats 4000000 in
theorem M_X11_toldBy (G : zG) (l : Launch) {a1 : Int32} {a2 : Int32} {a3 : Int32} {σ : zS} {r : Int32} {σ' : zS} (hJ : J_X11_toldBy a1 a2 a3 σ = some (r, σ')) : zMI G l yX11_toldBy cX11_toldBy 10 (some .int) (zrm 1 22) [.ref (G.1 + 105), .int a1, .int a2, .int a3] 137 (zen G σ) r 137 (zen G σ') := by
  unfold J_X11_toldBy at hJ
  refine zentI (by decide +kernel) (Nat.le_of_ble_eq_true rfl) ?_
  intro p e s m args below meth c C hret
  refine zr_sub [0, 1, 2, 3] [(0, .ref (G.1 + 105)), (1, .int a1), (2, .int a2), (3, .int a3)] rfl ?_
  refine zr_iconst C dX11_toldBy_0 (v := (1 : Int32)) (by decide) ?_
  refine zr_aload_n C 0 dX11_toldBy_1 rfl ?_
  refine zg_11_38 C 105 zk_105 zm_8_8 dX11_toldBy_2 ?_
  refine zr_iload_n C 1 dX11_toldBy_5 rfl ?_
  obtain ⟨hg1, hJ⟩ := zg_e hJ
  refine zu_iald C 126 zk_126 hg1 dX11_toldBy_6 ?_
  refine zr_ishl C dX11_toldBy_7 ?_
  obtain ⟨v2, hv2, hJ⟩ := zlet_e hJ
  refine zr_topi hv2 ?_
  refine zr_istore C [(4, .int v2), (0, .ref (G.1 + 105)), (1, .int a1), (2, .int a2), (3, .int a3)] dX11_toldBy_8 (by decide) rfl ?_
  refine zr_iconst C dX11_toldBy_10 (v := (0 : Int32)) (by decide) ?_
  refine zr_istore C [(5, .int (0 : Int32)), (4, .int v2), (0, .ref (G.1 + 105)), (1, .int a1), (2, .int a2), (3, .int a3)] dX11_toldBy_11 (by decide) rfl ?_
  refine zr_iconst C dX11_toldBy_13 (v := (0 : Int32)) (by decide) ?_
  refine zr_istore C [(6, .int (0 : Int32)), (5, .int (0 : Int32)), (4, .int v2), (0, .ref (G.1 + 105)), (1, .int a1), (2, .int a2), (3, .int a3)] dX11_toldBy_14 (by decide) rfl ?_
  refine zr_iconst C dX11_toldBy_16 (v := (0 : Int32)) (by decide) ?_
  refine zr_istore C [(7, .int (0 : Int32)), (6, .int (0 : Int32)), (5, .int (0 : Int32)), (4, .int v2), (0, .ref (G.1 + 105)), (1, .int a1), (2, .int a2), (3, .int a3)] dX11_toldBy_17 (by decide) rfl ?_
  refine zr_iconst C dX11_toldBy_19 (v := (0 : Int32)) (by decide) ?_
  refine zr_istore C [(8, .int (0 : Int32)), (7, .int (0 : Int32)), (6, .int (0 : Int32)), (5, .int (0 : Int32)), (4, .int v2), (0, .ref (G.1 + 105)), (1, .int a1), (2, .int a2), (3, .int a3)] dX11_toldBy_20 (by decide) rfl ?_
  refine zr_aload_n C 5 dX11_toldBy_22 rfl ?_
  refine zr_iconst C dX11_toldBy_23 (v := (1 : Int32)) (by decide) ?_
  obtain ⟨σ3, hσ3, hJ⟩ := zlet_e hJ
  refine zp_11_48 C 105 zk_105 zm_42_23 hσ3 dX11_toldBy_24 ?_
  refine zr_iconst C dX11_toldBy_27 (v := (0 : Int32)) (by decide) ?_
  refine zr_istore C [(9, .int (0 : Int32)), (8, .int (0 : Int32)), (7, .int (0 : Int32)), (6, .int (0 : Int32)), (5, .int (0 : Int32)), (4, .int v2), (0, .ref (G.1 + 105)), (1, .int a1), (2, .int a2), (3, .int a3)] dX11_toldBy_28 (by decide) rfl ?_
  obtain ⟨k122, hk122, hJ⟩ := zlet_e hJ
  have hj122 : ∀ (w7_122 : Int32) (w8_122 : Int32) (σ_122 : zS), k122 w7_122 w8_122 σ_122 = some (r, σ') → zU G 10 p l e (zrm 1 22) s m args below meth c (MQ below (va_Qi (fun x (_ : Unit) => x = r) (fun _ t => zok G 137 (zen G σ') t) (zA G)) args s 0 0 (zA G)) σ_122 122 [(4, .int v2), (7, .int w7_122), (8, .int w8_122)] [] := by
    intro w7_122 w8_122 σ_122 hJ
    rw [hk122] at hJ
    unfold D_X11_toldBy_122 at hJ
    refine zr_iload C 2 dX11_toldBy_122 rfl ?_
    refine zr_iload C 1 dX11_toldBy_124 rfl ?_
    refine zr_iload C 0 dX11_toldBy_126 rfl ?_
    obtain ⟨hn4, hJ⟩ := zn_e hJ
    refine zr_irem C dX11_toldBy_128 hn4 ?_
    refine zr_iadd C dX11_toldBy_129 ?_
    exact zr_iret C hret (Prod.mk.inj (zs_e hJ)).1 rfl (congrArg (zen G) (Prod.mk.inj (zs_e hJ)).2) dX11_toldBy_130
  have hl30 : ∀ (n : Nat) (w5_30 : Int32) (w6_30 : Int32) (w7_30 : Int32) (w8_30 : Int32) (w9_30 : Int32) (σ_30 : zS), L_X11_toldBy_30 a2 a3 v2 k122 n w5_30 w6_30 w7_30 w8_30 w9_30 σ_30 = some (r, σ') → zU G 10 p l e (zrm 1 22) s m args below meth c (MQ below (va_Qi (fun x (_ : Unit) => x = r) (fun _ t => zok G 137 (zen G σ') t) (zA G)) args s 0 0 (zA G)) σ_30 30 [(0, .ref (G.1 + 105)), (2, .int a2), (3, .int a3), (4, .int v2), (5, .int w5_30), (6, .int w6_30), (7, .int w7_30), (8, .int w8_30), (9, .int w9_30)] [] := by
    intro n
    induction n with
    | zero =>
      intro w5_30 w6_30 w7_30 w8_30 w9_30 σ_30 hJ
      rw [L_X11_toldBy_30] at hJ
      cases hJ
    | succ n ih =>
      intro w5_30 w6_30 w7_30 w8_30 w9_30 σ_30 hJ
      rw [L_X11_toldBy_30] at hJ
      obtain ⟨r_30, hr_30, hJ⟩ := zlet_e hJ
      have ih30 : ∀ (w5_30 : Int32) (w6_30 : Int32) (w7_30 : Int32) (w8_30 : Int32) (w9_30 : Int32) (σ_30 : zS), r_30 w5_30 w6_30 w7_30 w8_30 w9_30 σ_30 = some (r, σ') → zU G 10 p l e (zrm 1 22) s m args below meth c (MQ below (va_Qi (fun x (_ : Unit) => x = r) (fun _ t => zok G 137 (zen G σ') t) (zA G)) args s 0 0 (zA G)) σ_30 30 [(0, .ref (G.1 + 105)), (2, .int a2), (3, .int a3), (4, .int v2), (5, .int w5_30), (6, .int w6_30), (7, .int w7_30), (8, .int w8_30), (9, .int w9_30)] [] := by
        rw [hr_30]
        exact ih
      refine zr_iload C 8 dX11_toldBy_30 rfl ?_
      refine zr_aload_n C 0 dX11_toldBy_32 rfl ?_
      refine zg_11_7 C 105 zk_105 zm_19_18 dX11_toldBy_33 ?_
      refine zr_icmp_ge C 122 dX11_toldBy_36 (by decide) (fun hc5 => ?_) (fun hc5 => ?_)
      · have hJ := zif hc5 hJ
        refine zr_sub [3, 6, 7] [(4, .int v2), (7, .int w7_30), (8, .int w8_30)] rfl ?_
        exact hj122 _ _ _ hJ
      · have hJ := zif' hc5 hJ
        refine zr_iload C 8 dX11_toldBy_39 rfl ?_
        obtain ⟨k78, hk78, hJ⟩ := zlet_e hJ
        have hj78 : ∀ (w7_78 : Int32) (w8_78 : Int32) (σ_78 : zS), k78 w7_78 w8_78 σ_78 = some (r, σ') → zU G 10 p l e (zrm 1 22) s m args below meth c (MQ below (va_Qi (fun x (_ : Unit) => x = r) (fun _ t => zok G 137 (zen G σ') t) (zA G)) args s 0 0 (zA G)) σ_78 78 [(0, .ref (G.1 + 105)), (2, .int a2), (3, .int a3), (4, .int v2), (5, .int w5_30), (7, .int w7_78), (8, .int w8_78), (9, .int w9_30)] [] := by
          intro w7_78 w8_78 σ_78 hJ
          rw [hk78] at hJ
          unfold D_X11_toldBy_78 at hJ
          refine zr_iload C 4 dX11_toldBy_78 rfl ?_
          refine zr_istore C [(6, .int w5_30), (0, .ref (G.1 + 105)), (2, .int a2), (3, .int a3), (4, .int v2), (5, .int w5_30), (7, .int w7_78), (8, .int w8_78), (9, .int w9_30)] dX11_toldBy_80 (by decide) rfl ?_
          refine zr_iload C 6 dX11_toldBy_82 rfl ?_
          refine zr_aload_n C 1 dX11_toldBy_84 rfl ?_
          refine zr_aload_n C 1 dX11_toldBy_85 rfl ?_
          refine zg_11_8 C 105 zk_105 zm_7_16 dX11_toldBy_86 ?_
          refine zr_iload C 8 dX11_toldBy_89 rfl ?_
          obtain ⟨hg6, hJ⟩ := zg_e hJ
          refine zu_iald C 111 zk_111 hg6 dX11_toldBy_91 ?_
          refine zr_iload_n C 2 dX11_toldBy_92 rfl ?_
          obtain ⟨r7, hr7, hJ⟩ := zb_e hJ
          refine zr_callVI C 105 (zk_lt zk_105 (by decide)) (zen_obj zk_105) (rfl : zcl[11]? = some (RX11, TX11, 56)) (M_X11_made G l hr7) zin_X11_made zm_21_9 rfl rfl (Nat.le_of_ble_eq_true rfl) ⟨Nat.le_of_ble_eq_true rfl, Nat.le_of_ble_eq_true rfl⟩ ⟨Nat.le_of_ble_eq_true rfl, Nat.le_of_ble_eq_true rfl⟩ dX11_toldBy_93 ?_
          refine zr_iadd C dX11_toldBy_96 ?_
          obtain ⟨v8, hv8, hJ⟩ := zlet_e hJ
          refine zr_topi hv8 ?_
          refine zr_istore C [(7, .int v8), (6, .int w5_30), (0, .ref (G.1 + 105)), (2, .int a2), (3, .int a3), (4, .int v2), (5, .int w5_30), (8, .int w8_78), (9, .int w9_30)] dX11_toldBy_97 (by decide) rfl ?_
          refine zr_iload C 6 dX11_toldBy_99 rfl ?_
          refine zr_aload_n C 2 dX11_toldBy_101 rfl ?_
          refine zg_11_1 C 105 zk_105 zm_7_11 dX11_toldBy_102 ?_
          refine zr_aload_n C 2 dX11_toldBy_105 rfl ?_
          refine zg_11_8 C 105 zk_105 zm_7_16 dX11_toldBy_106 ?_
          refine zr_iload C 8 dX11_toldBy_109 rfl ?_
          obtain ⟨hg9, hJ⟩ := zg_e hJ
          refine zu_iald C 111 zk_111 hg9 dX11_toldBy_111 ?_
          obtain ⟨hg10, hJ⟩ := zg_e hJ
          refine zu_iald C 106 zk_106 hg10 dX11_toldBy_112 ?_
          refine zr_iadd C dX11_toldBy_113 ?_
          obtain ⟨v11, hv11, hJ⟩ := zlet_e hJ
          refine zr_topi hv11 ?_
          refine zr_istore C [(5, .int v11), (7, .int v8), (6, .int w5_30), (0, .ref (G.1 + 105)), (2, .int a2), (3, .int a3), (4, .int v2), (8, .int w8_78), (9, .int w9_30)] dX11_toldBy_114 (by decide) rfl ?_
          obtain ⟨v12, hv12, hJ⟩ := zlet_e hJ
          refine zr_iinc C v12 8 [(9, .int v12), (5, .int v11), (7, .int v8), (6, .int w5_30), (0, .ref (G.1 + 105)), (2, .int a2), (3, .int a3), (4, .int v2), (8, .int w8_78)] dX11_toldBy_116 rfl (hv12.trans (zinc (by decide))) (by decide) rfl ?_
          refine zr_goto C 30 dX11_toldBy_119 (by decide) ?_
          refine zr_sub [4, 5, 6, 7, 1, 3, 2, 8, 0] [(0, .ref (G.1 + 105)), (2, .int a2), (3, .int a3), (4, .int v2), (5, .int v11), (6, .int w5_30), (7, .int v8), (8, .int w8_78), (9, .int v12)] rfl ?_
          exact ih30 _ _ _ _ _ _ hJ
        refine zr_if_le C 78 dX11_toldBy_41 (by decide) (fun hc13 => ?_) (fun hc13 => ?_)
        · have hJ := zif hc13 hJ
          refine zr_sub [0, 1, 2, 3, 4, 6, 7, 8] [(0, .ref (G.1 + 105)), (2, .int a2), (3, .int a3), (4, .int v2), (5, .int w5_30), (7, .int w7_30), (8, .int w8_30), (9, .int w9_30)] rfl ?_
          exact hj78 _ _ _ hJ
        · have hJ := zif' hc13 hJ
          refine zr_iload C 4 dX11_toldBy_44 rfl ?_
          refine zr_iload_n C 2 dX11_toldBy_46 rfl ?_
          obtain ⟨hn14, hJ⟩ := zn_e hJ
          refine zr_idiv C dX11_toldBy_47 hn14 ?_
          refine zr_iload C 5 dX11_toldBy_48 rfl ?_
          refine zr_iload_n C 2 dX11_toldBy_50 rfl ?_
          obtain ⟨hn15, hJ⟩ := zn_e hJ
          refine zr_idiv C dX11_toldBy_51 hn15 ?_
          refine zr_icmp_eq C 78 dX11_toldBy_52 (by decide) (fun hc16 => ?_) (fun hc16 => ?_)
          · have hJ := zif hc16 hJ
            refine zr_sub [0, 1, 2, 3, 4, 6, 7, 8] [(0, .ref (G.1 + 105)), (2, .int a2), (3, .int a3), (4, .int v2), (5, .int w5_30), (7, .int w7_30), (8, .int w8_30), (9, .int w9_30)] rfl ?_
            exact hj78 _ _ _ hJ
          · have hJ := zif' hc16 hJ
            refine zr_aload_n C 0 dX11_toldBy_55 rfl ?_
            refine zr_dup C dX11_toldBy_56 rfl ?_
            refine zg_11_48 C 105 zk_105 zm_42_23 dX11_toldBy_57 ?_
            refine zr_iconst C dX11_toldBy_60 (v := (1 : Int32)) (by decide) ?_
            refine zr_iadd C dX11_toldBy_61 ?_
            obtain ⟨σ17, hσ17, hJ⟩ := zlet_e hJ
            refine zp_11_48 C 105 zk_105 zm_42_23 hσ17 dX11_toldBy_62 ?_
            refine zr_iload C 7 dX11_toldBy_65 rfl ?_
            refine zr_iload C 6 dX11_toldBy_67 rfl ?_
            refine zr_iload C 3 dX11_toldBy_69 rfl ?_
            obtain ⟨hn18, hJ⟩ := zn_e hJ
            refine zr_irem C dX11_toldBy_71 hn18 ?_
            refine zr_iadd C dX11_toldBy_72 ?_
            obtain ⟨v19, hv19, hJ⟩ := zlet_e hJ
            refine zr_topi hv19 ?_
            refine zr_istore C [(8, .int v19), (0, .ref (G.1 + 105)), (2, .int a2), (3, .int a3), (4, .int v2), (5, .int w5_30), (6, .int w6_30), (7, .int w7_30), (9, .int w9_30)] dX11_toldBy_73 (by decide) rfl ?_
            refine zr_iconst C dX11_toldBy_75 (v := (0 : Int32)) (by decide) ?_
            refine zr_istore C [(7, .int (0 : Int32)), (8, .int v19), (0, .ref (G.1 + 105)), (2, .int a2), (3, .int a3), (4, .int v2), (5, .int w5_30), (6, .int w6_30), (9, .int w9_30)] dX11_toldBy_76 (by decide) rfl ?_
            refine zr_sub [2, 3, 4, 5, 6, 0, 1, 8] [(0, .ref (G.1 + 105)), (2, .int a2), (3, .int a3), (4, .int v2), (5, .int w5_30), (7, .int (0 : Int32)), (8, .int v19), (9, .int w9_30)] rfl ?_
            exact hj78 _ _ _ hJ
  refine zr_sub [6, 8, 9, 5, 4, 3, 2, 1, 0] [(0, .ref (G.1 + 105)), (2, .int a2), (3, .int a3), (4, .int v2), (5, .int (0 : Int32)), (6, .int (0 : Int32)), (7, .int (0 : Int32)), (8, .int (0 : Int32)), (9, .int (0 : Int32))] rfl ?_
  exact hl30 _ _ _ _ _ _ _ hJ
theorem dX11_looked_0 : decode cX11_looked 0 = .ok (.aload_n 0, 1) := by decide +kernel
theorem dX11_looked_1 : decode cX11_looked 1 = .ok (.iload_n 1, 1) := by decide +kernel
theorem dX11_looked_2 : decode cX11_looked 2 = .ok (.iload_n 2, 1) := by decide +kernel
theorem dX11_looked_3 : decode cX11_looked 3 = .ok (.invokevirtual 352, 3) := by decide +kernel
theorem dX11_looked_6 : decode cX11_looked 6 = .ok (.ifCond .eq 28, 3) := by decide +kernel
theorem dX11_looked_9 : decode cX11_looked 9 = .ok (.iload_n 3, 1) := by decide +kernel
theorem dX11_looked_10 : decode cX11_looked 10 = .ok (.i2l, 1) := by decide +kernel
theorem dX11_looked_11 : decode cX11_looked 11 = .ok (.lconst 1, 1) := by decide +kernel
theorem dX11_looked_12 : decode cX11_looked 12 = .ok (.ldc2_w 313, 3) := by decide +kernel
theorem dX11_looked_15 : decode cX11_looked 15 = .ok (.invokestatic 124, 3) := by decide +kernel
theorem dX11_looked_18 : decode cX11_looked 18 = .ok (.ifCond .eq 16, 3) := by decide +kernel
theorem dX11_looked_21 : decode cX11_looked 21 = .ok (.iload 4, 2) := by decide +kernel
theorem dX11_looked_23 : decode cX11_looked 23 = .ok (.i2l, 1) := by decide +kernel
theorem dX11_looked_24 : decode cX11_looked 24 = .ok (.lconst 0, 1) := by decide +kernel
theorem dX11_looked_25 : decode cX11_looked 25 = .ok (.ldc2_w 282, 3) := by decide +kernel
theorem dX11_looked_28 : decode cX11_looked 28 = .ok (.invokestatic 124, 3) := by decide +kernel
theorem dX11_looked_31 : decode cX11_looked 31 = .ok (.ifCond .ne 5, 3) := by decide +kernel
theorem dX11_looked_34 : decode cX11_looked 34 = .ok (.iconst (-1), 1) := by decide +kernel
theorem dX11_looked_35 : decode cX11_looked 35 = .ok (.ireturn, 1) := by decide +kernel
theorem dX11_looked_36 : decode cX11_looked 36 = .ok (.aload_n 0, 1) := by decide +kernel
theorem dX11_looked_37 : decode cX11_looked 37 = .ok (.iload_n 1, 1) := by decide +kernel
theorem dX11_looked_38 : decode cX11_looked 38 = .ok (.iload_n 2, 1) := by decide +kernel
theorem dX11_looked_39 : decode cX11_looked 39 = .ok (.iload_n 3, 1) := by decide +kernel
theorem dX11_looked_40 : decode cX11_looked 40 = .ok (.invokevirtual 358, 3) := by decide +kernel
theorem dX11_looked_43 : decode cX11_looked 43 = .ok (.istore 5, 2) := by decide +kernel
theorem dX11_looked_45 : decode cX11_looked 45 = .ok (.iload 4, 2) := by decide +kernel
theorem dX11_looked_47 : decode cX11_looked 47 = .ok (.ifCond .ne 8, 3) := by decide +kernel
theorem dX11_looked_50 : decode cX11_looked 50 = .ok (.iload 5, 2) := by decide +kernel
theorem dX11_looked_52 : decode cX11_looked 52 = .ok (.goto 24, 3) := by decide +kernel
theorem dX11_looked_55 : decode cX11_looked 55 = .ok (.iload 4, 2) := by decide +kernel
theorem dX11_looked_57 : decode cX11_looked 57 = .ok (.iconst 1, 1) := by decide +kernel
theorem dX11_looked_58 : decode cX11_looked 58 = .ok (.if_icmp .ne 14, 3) := by decide +kernel
theorem dX11_looked_61 : decode cX11_looked 61 = .ok (.aload_n 0, 1) := by decide +kernel
theorem dX11_looked_62 : decode cX11_looked 62 = .ok (.iload_n 2, 1) := by decide +kernel
theorem dX11_looked_63 : decode cX11_looked 63 = .ok (.invokevirtual 257, 3) := by decide +kernel
theorem dX11_looked_66 : decode cX11_looked 66 = .ok (.iload 5, 2) := by decide +kernel
theorem dX11_looked_68 : decode cX11_looked 68 = .ok (.isub, 1) := by decide +kernel
theorem dX11_looked_69 : decode cX11_looked 69 = .ok (.goto 7, 3) := by decide +kernel
theorem dX11_looked_72 : decode cX11_looked 72 = .ok (.aload_n 0, 1) := by decide +kernel
theorem dX11_looked_73 : decode cX11_looked 73 = .ok (.getfield 355, 3) := by decide +kernel
theorem dX11_looked_76 : decode cX11_looked 76 = .ok (.ireturn, 1) := by decide +kernel
set_option maxRecDepth 100000 in
set_option maxHeartbeats 4000000 in
theorem M_X11_looked (G : zG) (l : Launch) {a1 : Int32} {a2 : Int32} {a3 : Int32} {a4 : Int32} {σ : zS} {r : Int32} {σ' : zS} (hJ : J_X11_looked a1 a2 a3 a4 σ = some (r, σ')) : zMI G l yX11_looked cX11_looked 6 (some .int) (zrm 3 68) [.ref (G.1 + 105), .int a1, .int a2, .int a3, .int a4] 137 (zen G σ) r 137 (zen G σ') := by
  unfold J_X11_looked at hJ
  refine zentI (by decide +kernel) (Nat.le_of_ble_eq_true rfl) ?_
  intro p e s m args below meth c C hret
  refine zr_sub [0, 1, 2, 3, 4] [(0, .ref (G.1 + 105)), (1, .int a1), (2, .int a2), (3, .int a3), (4, .int a4)] rfl ?_
  refine zr_aload_n C 0 dX11_looked_0 rfl ?_
  refine zr_iload_n C 1 dX11_looked_1 rfl ?_
  refine zr_iload_n C 2 dX11_looked_2 rfl ?_
  obtain ⟨r1, hr1, hJ⟩ := zb_e hJ
  refine zr_callVI C 105 (zk_lt zk_105 (by decide)) (zen_obj zk_105) (rfl : zcl[11]? = some (RX11, TX11, 56)) (M_X11_canCount G l hr1) zin_X11_canCount zm_42_1 rfl rfl (Nat.le_of_ble_eq_true rfl) ⟨Nat.le_of_ble_eq_true rfl, Nat.le_of_ble_eq_true rfl⟩ ⟨Nat.le_of_ble_eq_true rfl, Nat.le_of_ble_eq_true rfl⟩ dX11_looked_3 ?_
  refine zr_if_eq C 34 dX11_looked_6 (by decide) (fun hc2 => ?_) (fun hc2 => ?_)
  · have hJ := zif hc2 hJ
    refine zr_iconst C dX11_looked_34 (v := (-1 : Int32)) (by decide) ?_
    exact zr_iret C hret (Prod.mk.inj (zs_e hJ)).1 rfl (congrArg (zen G) (Prod.mk.inj (zs_e hJ)).2) dX11_looked_35
  · have hJ := zif' hc2 hJ
    refine zr_iload_n C 3 dX11_looked_9 rfl ?_
    refine zr_i2l C dX11_looked_10 ?_
    refine zr_lconst C dX11_looked_11 (v := (1 : Int64)) (by decide) ?_
    refine zr_ldc2 C dX11_looked_12 zm_35_3 ?_
    obtain ⟨r3, hr3, hJ⟩ := zb_e hJ
    refine zr_callSI C (M_X11_in G l hr3) zin_X11_in zm_9_22 rfl rfl (Nat.le_of_ble_eq_true rfl) ⟨Nat.le_of_ble_eq_true rfl, Nat.le_of_ble_eq_true rfl⟩ ⟨Nat.le_of_ble_eq_true rfl, Nat.le_of_ble_eq_true rfl⟩ dX11_looked_15 ?_
    refine zr_if_eq C 34 dX11_looked_18 (by decide) (fun hc4 => ?_) (fun hc4 => ?_)
    · have hJ := zif hc4 hJ
      refine zr_iconst C dX11_looked_34 (v := (-1 : Int32)) (by decide) ?_
      exact zr_iret C hret (Prod.mk.inj (zs_e hJ)).1 rfl (congrArg (zen G) (Prod.mk.inj (zs_e hJ)).2) dX11_looked_35
    · have hJ := zif' hc4 hJ
      refine zr_iload C 4 dX11_looked_21 rfl ?_
      refine zr_i2l C dX11_looked_23 ?_
      refine zr_lconst C dX11_looked_24 (v := (0 : Int64)) (by decide) ?_
      refine zr_ldc2 C dX11_looked_25 zm_30_16 ?_
      obtain ⟨r5, hr5, hJ⟩ := zb_e hJ
      refine zr_callSI C (M_X11_in G l hr5) zin_X11_in zm_9_22 rfl rfl (Nat.le_of_ble_eq_true rfl) ⟨Nat.le_of_ble_eq_true rfl, Nat.le_of_ble_eq_true rfl⟩ ⟨Nat.le_of_ble_eq_true rfl, Nat.le_of_ble_eq_true rfl⟩ dX11_looked_28 ?_
      refine zr_if_ne C 36 dX11_looked_31 (by decide) (fun hc6 => ?_) (fun hc6 => ?_)
      · have hJ := zif' hc6 hJ
        refine zr_aload_n C 0 dX11_looked_36 rfl ?_
        refine zr_iload_n C 1 dX11_looked_37 rfl ?_
        refine zr_iload_n C 2 dX11_looked_38 rfl ?_
        refine zr_iload_n C 3 dX11_looked_39 rfl ?_
        obtain ⟨r7, σ8, hr7, hJ⟩ := zb2_e hJ
        refine zr_callVI C 105 (zk_lt zk_105 (by decide)) (zen_obj zk_105) (rfl : zcl[11]? = some (RX11, TX11, 56)) (M_X11_toldBy G l hr7) zin_X11_toldBy zm_43_0 rfl rfl (Nat.le_of_ble_eq_true rfl) ⟨Nat.le_of_ble_eq_true rfl, Nat.le_of_ble_eq_true rfl⟩ ⟨Nat.le_of_ble_eq_true rfl, Nat.le_of_ble_eq_true rfl⟩ dX11_looked_40 ?_
        refine zr_istore C [(5, .int r7), (0, .ref (G.1 + 105)), (1, .int a1), (2, .int a2), (3, .int a3), (4, .int a4)] dX11_looked_43 (by decide) rfl ?_
        refine zr_iload C 5 dX11_looked_45 rfl ?_
        refine zr_if_ne C 55 dX11_looked_47 (by decide) (fun hc9 => ?_) (fun hc9 => ?_)
        · have hJ := zif' hc9 hJ
          refine zr_iload C 5 dX11_looked_55 rfl ?_
          refine zr_iconst C dX11_looked_57 (v := (1 : Int32)) (by decide) ?_
          refine zr_icmp_ne C 72 dX11_looked_58 (by decide) (fun hc10 => ?_) (fun hc10 => ?_)
          · have hJ := zif' hc10 hJ
            refine zr_aload_n C 1 dX11_looked_72 rfl ?_
            refine zg_11_48 C 105 zk_105 zm_42_23 dX11_looked_73 ?_
            exact zr_iret C hret (Prod.mk.inj (zs_e hJ)).1 rfl (congrArg (zen G) (Prod.mk.inj (zs_e hJ)).2) dX11_looked_76
          · have hJ := zif hc10 hJ
            refine zr_aload_n C 1 dX11_looked_61 rfl ?_
            refine zr_iload_n C 3 dX11_looked_62 rfl ?_
            obtain ⟨r11, hr11, hJ⟩ := zb_e hJ
            refine zr_callVI C 105 (zk_lt zk_105 (by decide)) (zen_obj zk_105) (rfl : zcl[11]? = some (RX11, TX11, 56)) (M_X11_total G l hr11) zin_X11_total zm_22_23 rfl rfl (Nat.le_of_ble_eq_true rfl) ⟨Nat.le_of_ble_eq_true rfl, Nat.le_of_ble_eq_true rfl⟩ ⟨Nat.le_of_ble_eq_true rfl, Nat.le_of_ble_eq_true rfl⟩ dX11_looked_63 ?_
            refine zr_iload C 0 dX11_looked_66 rfl ?_
            refine zr_isub C dX11_looked_68 ?_
            refine zr_goto C 76 dX11_looked_69 (by decide) ?_
            exact zr_iret C hret (Prod.mk.inj (zs_e hJ)).1 rfl (congrArg (zen G) (Prod.mk.inj (zs_e hJ)).2) dX11_looked_76
        · have hJ := zif hc9 hJ
          refine zr_iload C 0 dX11_looked_50 rfl ?_
          refine zr_goto C 76 dX11_looked_52 (by decide) ?_
          exact zr_iret C hret (Prod.mk.inj (zs_e hJ)).1 rfl (congrArg (zen G) (Prod.mk.inj (zs_e hJ)).2) dX11_looked_76
      · have hJ := zif hc6 hJ
        refine zr_iconst C dX11_looked_34 (v := (-1 : Int32)) (by decide) ?_
        exact zr_iret C hret (Prod.mk.inj (zs_e hJ)).1 rfl (congrArg (zen G) (Prod.mk.inj (zs_e hJ)).2) dX11_looked_35
