/-! java/lang/Integer.bitCount -/
def J_J6_bitCount_0f7a4 (a0 : Int32) (σ : zS) : Option Int32 :=
  zlet (a0 - ((a0.toUInt32 >>> ((1 : Int32).toUInt32 &&& Int32.toUInt32 31)).toInt32 &&& (1431655765 : Int32))) fun v1 => zlet ((v1 &&& (858993459 : Int32)) + ((v1.toUInt32 >>> ((2 : Int32).toUInt32 &&& Int32.toUInt32 31)).toInt32 &&& (858993459 : Int32))) fun v2 => zlet ((v2 + (v2.toUInt32 >>> ((4 : Int32).toUInt32 &&& Int32.toUInt32 31)).toInt32) &&& (252645135 : Int32)) fun v3 => zlet (v3 + (v3.toUInt32 >>> ((8 : Int32).toUInt32 &&& Int32.toUInt32 31)).toInt32) fun v4 => zlet (v4 + (v4.toUInt32 >>> ((16 : Int32).toUInt32 &&& Int32.toUInt32 31)).toInt32) fun v5 => some (v5 &&& (63 : Int32))
/-! EventCounters$Bank.begin -/
def L_X0_begin_12 : Nat → Int32 → zS → Option zS
  | 0, _, _ => none
  | n + 1, w2_12, σ_12 =>
    zlet (L_X0_begin_12 n) fun r_12 => if (4 : Int32) ≤ w2_12 then (some σ_12) else (zg (zi w2_12 4) (zlet (zsI σ_12 83 w2_12.toNatClampNeg (255 : Int32)) fun σ5 => zg (zi w2_12 4) (zlet (zsI σ5 84 w2_12.toNatClampNeg (8 : Int32)) fun σ7 => zlet (w2_12 + (1 : Int32)) fun v8 => r_12 v8 σ7)))
def J_X0_begin (a1 : Int32) (σ : zS) : Option zS :=
  zlet (zsI σ 82 0 a1) fun σ1 => zlet (zsI σ1 82 6 (0 : Int32)) fun σ2 => L_X0_begin_12 4294967296 (0 : Int32) σ2
/-! EventCounters$Bank.leastCounter -/
def D_X0_leastCounter_62 (a1 : Int32) (a2 : Int32) (σ : zS) (K : Int32 → Int32 → zS → Option Int32) (v1 : Int32) (r_27 : Int32 → Option Int32) (w4_27 : Int32) (x0_62 : Int32) : Option Int32 :=
  if x0_62 = (0 : Int32) then (zlet (w4_27 + (1 : Int32)) fun v7 => r_27 v7) else (zb (K (a1 ^^^ v1) (a2 ||| ((1 : Int32) <<< (w4_27 &&& 31))) σ) fun r8 => if r8 = (0 : Int32) then (zlet (w4_27 + (1 : Int32)) fun v10 => r_27 v10) else (some w4_27))
def L_X0_leastCounter_27 (a1 : Int32) (a2 : Int32) (σ : zS) (K : Int32 → Int32 → zS → Option Int32) (v1 : Int32) : Nat → Int32 → Option Int32
  | 0, _ => none
  | n + 1, w4_27 =>
    zlet (L_X0_leastCounter_27 a1 a2 σ K v1 n) fun r_27 => if (σ.1 82 0) ≤ w4_27 then (some (-4 : Int32)) else (zlet (D_X0_leastCounter_62 a1 a2 σ K v1 r_27 w4_27) fun k62 => if ((a2 >>> (w4_27 &&& 31)) &&& (1 : Int32)) = (0 : Int32) then (zg (zi w4_27 4) (if ((σ.1 83 w4_27.toNatClampNeg) &&& v1) = (0 : Int32) then (k62 (0 : Int32)) else (k62 (1 : Int32)))) else (k62 (0 : Int32)))
def J_X0_leastCounter (K : Int32 → Int32 → zS → Option Int32) (a1 : Int32) (a2 : Int32) (σ : zS) : Option Int32 :=
  zlet (a1 &&& (-a1)) fun v1 => zb (J_J6_bitCount_0f7a4 a1 σ) fun r2 => zb (J_J6_bitCount_0f7a4 a2 σ) fun r3 => if r2 ≤ ((σ.1 82 0) - r3) then (L_X0_leastCounter_27 a1 a2 σ K v1 4294967296 (0 : Int32)) else (some (-4 : Int32))
/-! EventCounters$Bank.canPlace -/
def J_X0_canPlace : Nat → Int32 → Int32 → zS → Option Int32
  | 0, _, _, _ => none
  | d + 1, a1, a2, σ =>
    if a1 = (0 : Int32) then (some (1 : Int32)) else (zb (J_X0_leastCounter (J_X0_canPlace d) a1 a2 σ) fun r2 => if r2 < (0 : Int32) then (some (0 : Int32)) else (some (1 : Int32)))
/-! EventCounters$Bank.counterFor -/
def L_X0_counterFor_8 (a2 : Int32) (σ : zS) : Nat → Int32 → Int32 → Int32 → Option Int32
  | 0, _, _, _ => none
  | n + 1, w3_8, w4_8, w5_8 =>
    zlet (L_X0_counterFor_8 a2 σ n) fun r_8 => if a2 < w5_8 then (some (-4 : Int32)) else (if ((w3_8 >>> (w5_8 &&& 31)) &&& (1 : Int32)) = (0 : Int32) then (zlet (w5_8 + (1 : Int32)) fun v3 => r_8 w3_8 w4_8 v3) else (zb (J_X0_leastCounter (J_X0_canPlace 7) w3_8 w4_8 σ) fun r4 => if r4 < (0 : Int32) then (some r4) else (if w5_8 = a2 then (some r4) else (zlet (w3_8 ^^^ ((1 : Int32) <<< (w5_8 &&& 31))) fun v7 => zlet (w4_8 ||| ((1 : Int32) <<< (r4 &&& 31))) fun v8 => zlet (w5_8 + (1 : Int32)) fun v9 => r_8 v7 v8 v9))))
def J_X0_counterFor (a1 : Int32) (a2 : Int32) (σ : zS) : Option Int32 :=
  L_X0_counterFor_8 a2 σ 4294967296 a1 (0 : Int32) (0 : Int32)
/-! EventCounters$Bank.has -/
def J_X0_has (a1 : Int32) (σ : zS) : Option Int32 :=
  if a1 < (0 : Int32) then (some (0 : Int32)) else (if (σ.1 82 0) ≤ a1 then (some (0 : Int32)) else (some (1 : Int32)))
/-! EventCounters.isEvent -/
def J_X10_isEvent (a0 : Int32) (σ : zS) : Option Int32 :=
  if a0 < (0 : Int32) then (some (0 : Int32)) else (if (8 : Int32) ≤ a0 then (some (0 : Int32)) else (some (1 : Int32)))
/-! EventCounters.isSet -/
def J_X10_isSet (a0 : Int32) (σ : zS) : Option Int32 :=
  if a0 < (0 : Int32) then (some (0 : Int32)) else (if (256 : Int32) ≤ a0 then (some (0 : Int32)) else (some (1 : Int32)))
/-! EventCounters.isOneOf -/
def J_X10_isOneOf (a0 : Int32) (a1 : Int32) (σ : zS) : Option Int32 :=
  zb (J_X10_isSet a1 σ) fun r1 => if r1 = (0 : Int32) then (some (0 : Int32)) else (zb (J_X10_isEvent a0 σ) fun r3 => if r3 = (0 : Int32) then (some (0 : Int32)) else (if ((a1 >>> (a0 &&& 31)) &&& (1 : Int32)) = (0 : Int32) then (some (0 : Int32)) else (some (1 : Int32))))
/-! EventCounters$Bank.counts -/
def J_X0_counts (a1 : Int32) (a2 : Int32) (σ : zS) : Option Int32 :=
  zb (J_X0_has a1 σ) fun r1 => if r1 = (0 : Int32) then (some (0 : Int32)) else (zg (zi a1 4) (zb (J_X10_isOneOf a2 (σ.1 83 a1.toNatClampNeg) σ) fun r4 => if r4 = (0 : Int32) then (some (0 : Int32)) else (some (1 : Int32))))
/-! EventCounters$Bank.fewestFor -/
def D_X0_fewestFor_63 (v3 : Int32) (r_25 : Int32 → Int32 → Int32 → Option Int32) (w5_25 : Int32) (w6_25 : Int32) (w4_63 : Int32) : Option Int32 :=
  if w5_25 = (0 : Int32) then (some w4_63) else (zlet ((w5_25 - (1 : Int32)) &&& v3) fun v7 => zlet (w6_25 + (1 : Int32)) fun v8 => r_25 w4_63 v7 v8)
def L_X0_fewestFor_25 (σ : zS) (v2 : Int32) (v3 : Int32) : Nat → Int32 → Int32 → Int32 → Option Int32
  | 0, _, _, _ => none
  | n + 1, w4_25, w5_25, w6_25 =>
    zlet (L_X0_fewestFor_25 σ v2 v3 n) fun r_25 => if (256 : Int32) ≤ w6_25 then (some w4_25) else (zg (zi (w5_25 ||| v2) 256) (zlet (D_X0_fewestFor_63 v3 r_25 w5_25 w6_25) fun k63 => if (σ.1 86 (w5_25 ||| v2).toNatClampNeg) = (0 : Int32) then (k63 w4_25) else (zg (zi (v3 ^^^ w5_25) 256) (zlet (if ((σ.1 87 (v3 ^^^ w5_25).toNatClampNeg) + (1 : Int32)) < w4_25 then ((σ.1 87 (v3 ^^^ w5_25).toNatClampNeg) + (1 : Int32)) else w4_25) fun v11 => k63 v11))))
def J_X0_fewestFor (a1 : Int32) (σ : zS) : Option Int32 :=
  if a1 = (0 : Int32) then (some (0 : Int32)) else (zlet (a1 &&& (-a1)) fun v2 => zlet (a1 ^^^ v2) fun v3 => L_X0_fewestFor_25 σ v2 v3 4294967296 (100 : Int32) v3 (0 : Int32))
/-! EventCounters$Bank.learn -/
def L_X0_learn_15 : Nat → Int32 → zS → Option zS
  | 0, _, _ => none
  | n + 1, w1_15, σ_15 =>
    zlet (L_X0_learn_15 n) fun r_15 => if (256 : Int32) ≤ w1_15 then (some σ_15) else (zb (J_X0_canPlace 7 w1_15 (0 : Int32) σ_15) fun r4 => zg (zi w1_15 256) (zlet (zsI σ_15 86 w1_15.toNatClampNeg (vp_nar .boolean r4)) fun σ6 => zb (J_X0_fewestFor w1_15 σ6) fun r7 => zg (zi w1_15 256) (zlet (zsI σ6 87 w1_15.toNatClampNeg r7) fun σ9 => zlet (w1_15 + (1 : Int32)) fun v10 => r_15 v10 σ9)))
def J_X0_learn (σ : zS) : Option zS :=
  if (σ.1 82 6) = (0 : Int32) then (zlet (zsI σ 82 6 (1 : Int32)) fun σ2 => L_X0_learn_15 4294967296 (0 : Int32) σ2) else (some σ)
/-! EventCounters$Bank.leastRound -/
def L_X0_leastRound_7 (a1 : Int32) (σ : zS) (v1 : Int32) : Nat → Int32 → Option Int32
  | 0, _ => none
  | n + 1, w3_7 =>
    zlet (L_X0_leastRound_7 a1 σ v1 n) fun r_7 => if a1 ≤ w3_7 then (some a1) else (zlet (if (w3_7 &&& (a1 ^^^ (-1 : Int32))) = (0 : Int32) then (if (w3_7 &&& v1) = (0 : Int32) then (0 : Int32) else (1 : Int32)) else (0 : Int32)) fun v3 => if v3 = (0 : Int32) then (zlet (w3_7 + (1 : Int32)) fun v5 => r_7 v5) else (zg (zi w3_7 256) (if (σ.1 86 w3_7.toNatClampNeg) = (0 : Int32) then (zlet (w3_7 + (1 : Int32)) fun v8 => r_7 v8) else (zg (zi (a1 ^^^ w3_7) 256) (zg (zi a1 256) (if (σ.1 87 a1.toNatClampNeg) ≤ (σ.1 87 (a1 ^^^ w3_7).toNatClampNeg) then (zlet (w3_7 + (1 : Int32)) fun v12 => r_7 v12) else (some w3_7)))))))
def J_X0_leastRound (a1 : Int32) (σ : zS) : Option Int32 :=
  zlet (a1 &&& (-a1)) fun v1 => L_X0_leastRound_7 a1 σ v1 4294967296 v1
/-! EventCounters$Bank.divide -/
def L_X0_divide_25 (v4 : Int32) : Nat → Int32 → Int32 → zS → Option (Int32 × zS)
  | 0, _, _, _ => none
  | n + 1, w3_25, w4_25, σ_25 =>
    zlet (L_X0_divide_25 v4 n) fun r_25 => if v4 ≤ w4_25 then (some (v4, σ_25)) else (if (8 : Int32) ≤ w4_25 then (some (v4, σ_25)) else (zb (J_X0_leastRound w3_25 σ_25) fun r8 => zg (zi w4_25 8) (zlet (zsI σ_25 85 w4_25.toNatClampNeg r8) fun σ10 => zg (zi w4_25 8) (zlet (w3_25 ^^^ (σ10.1 85 w4_25.toNatClampNeg)) fun v12 => zlet (w4_25 + (1 : Int32)) fun v13 => r_25 v12 v13 σ10))))
def J_X0_divide (a1 : Int32) (σ : zS) : Option (Int32 × zS) :=
  zb (J_X0_learn σ) fun σ2 => zg (zi a1 256) (zlet (σ2.1 87 a1.toNatClampNeg) fun v4 => if v4 < (100 : Int32) then (L_X0_divide_25 v4 4294967296 a1 (0 : Int32) σ2) else (some ((-4 : Int32), σ2)))
/-! EventCounters$Bank.greatest -/
def J_X0_greatest (a1 : Int32) (σ : zS) : Option Int32 :=
  zg (zi a1 4) (some (((1 : Int32) <<< ((σ.1 84 a1.toNatClampNeg) &&& 31)) - (1 : Int32)))
/-! EventCounters$Bank.roundOf -/
def L_X0_roundOf_2 (a1 : Int32) (a2 : Int32) (σ : zS) : Nat → Int32 → Option Int32
  | 0, _ => none
  | n + 1, w3_2 =>
    zlet (L_X0_roundOf_2 a1 a2 σ n) fun r_2 => if a2 ≤ w3_2 then (some (0 : Int32)) else (if (8 : Int32) ≤ w3_2 then (some (0 : Int32)) else (zg (zi w3_2 8) (zb (J_X10_isOneOf a1 (σ.1 85 w3_2.toNatClampNeg) σ) fun r4 => if r4 = (0 : Int32) then (zlet (w3_2 + (1 : Int32)) fun v6 => r_2 v6) else (some w3_2))))
def J_X0_roundOf (a1 : Int32) (a2 : Int32) (σ : zS) : Option Int32 :=
  L_X0_roundOf_2 a1 a2 σ 4294967296 (0 : Int32)
/-! EventCounters.areSamples -/
def J_X10_areSamples (a0 : Int32) (a1 : Int32) (a2 : Int32) (a3 : Int32) (σ : zS) : Option Int32 :=
  zb (J_X10_isEvent a0 σ) fun r1 => if r1 = (0 : Int32) then (some (0 : Int32)) else (if a1 < (1 : Int32) then (some (0 : Int32)) else (if (9999 : Int32) < a1 then (some (0 : Int32)) else (if a2 < (0 : Int32) then (some (0 : Int32)) else (if a1 ≤ a2 then (some (0 : Int32)) else (if a3 < (0 : Int32) then (some (0 : Int32)) else (if (9 : Int32) < a3 then (some (0 : Int32)) else (some (1 : Int32))))))))
/-! EventCounters.commonDivisor -/
def L_X10_commonDivisor_9 : Nat → Int64 → Int64 → Int32 → Option Int64
  | 0, _, _, _ => none
  | n + 1, w4_9, w6_9, w8_9 =>
    zlet (L_X10_commonDivisor_9 n) fun r_9 => if (200 : Int32) ≤ w8_9 then (some w4_9) else (if (lg_cmp w6_9 (0 : Int64)) = (0 : Int32) then (some w4_9) else (znl w6_9 (zlet (w4_9 - w4_9 / w6_9 * w6_9) fun v4 => zlet (w8_9 + (1 : Int32)) fun v5 => r_9 w6_9 v4 v5)))
def J_X10_commonDivisor (a0 : Int64) (a2 : Int64) (σ : zS) : Option Int64 :=
  L_X10_commonDivisor_9 4294967296 a0 a2 (0 : Int32)
/-! EventCounters$Program.linesThatMake -/
def L_X3_linesThatMake_4 (p0 : Nat) (a1 : Int32) (σ : zS) : Nat → Int32 → Int32 → Option Int32
  | 0, _, _ => none
  | n + 1, w2_4, w3_4 =>
    zlet (L_X3_linesThatMake_4 p0 a1 σ n) fun r_4 => if (σ.1 p0 0) ≤ w3_4 then (some w2_4) else (zg (zi w3_4 16) (zg (zi a1 8) (zlet (if (σ.1 ((p0 + 4) + 1 + w3_4.toNatClampNeg) a1.toNatClampNeg) ≤ (0 : Int32) then w2_4 else (w2_4 ||| ((1 : Int32) <<< (w3_4 &&& 31)))) fun v4 => zlet (w3_4 + (1 : Int32)) fun v5 => r_4 v4 v5)))
def J_X3_linesThatMake (p0 : Nat) (a1 : Int32) (σ : zS) : Option Int32 :=
  L_X3_linesThatMake_4 p0 a1 σ 4294967296 (0 : Int32) (0 : Int32)
/-! EventCounters$Program.totalBetween -/
def L_X3_totalBetween_6 (p0 : Nat) (a2 : Int32) (a3 : Int32) (σ : zS) : Nat → Int32 → Int32 → Option Int32
  | 0, _, _ => none
  | n + 1, w4_6, w5_6 =>
    zlet (L_X3_totalBetween_6 p0 a2 a3 σ n) fun r_6 => if a2 ≤ w5_6 then (some w4_6) else (zg (zi w5_6 16) (zg (zi w5_6 16) (zg (zi a3 8) (zlet (w4_6 + ((σ.1 (p0 + 2) w5_6.toNatClampNeg) * (σ.1 ((p0 + 4) + 1 + w5_6.toNatClampNeg) a3.toNatClampNeg))) fun v5 => zlet (w5_6 + (1 : Int32)) fun v6 => r_6 v5 v6))))
def J_X3_totalBetween (p0 : Nat) (a1 : Int32) (a2 : Int32) (a3 : Int32) (σ : zS) : Option Int32 :=
  L_X3_totalBetween_6 p0 a2 a3 σ 4294967296 (0 : Int32) a1
/-! EventCounters$Program.total -/
def J_X3_total (p0 : Nat) (a1 : Int32) (σ : zS) : Option Int32 :=
  zb (J_X3_totalBetween p0 (0 : Int32) (σ.1 p0 0) a1 σ) fun r1 => some r1
/-! EventCounters$Samples.linesShown -/
def L_X6_linesShown_4 (σ : zS) : Nat → Int32 → Int32 → Option Int32
  | 0, _, _ => none
  | n + 1, w1_4, w2_4 =>
    zlet (L_X6_linesShown_4 σ n) fun r_4 => if (16 : Int32) ≤ w2_4 then (some w1_4) else (zg (zi w2_4 16) (zlet (if (σ.1 90 w2_4.toNatClampNeg) ≤ (0 : Int32) then w1_4 else (w1_4 ||| ((1 : Int32) <<< (w2_4 &&& 31)))) fun v3 => zlet (w2_4 + (1 : Int32)) fun v4 => r_4 v3 v4))
def J_X6_linesShown (σ : zS) : Option Int32 :=
  L_X6_linesShown_4 σ 4294967296 (0 : Int32) (0 : Int32)
/-! EventCounters$Samples.show -/
def J_X6_show (p1 : Nat) (a2 : Int32) (a3 : Int32) (σ : zS) : Option zS :=
  if (σ.1 p1 15) ≤ a2 then (zlet (zsI σ 89 2 ((σ.1 89 2) + a3)) fun σ2 => some σ2) else (zg (zi a2 6000) (zg (zi (σ.1 (p1 + 28) a2.toNatClampNeg) 16) (zg (zi (σ.1 (p1 + 28) a2.toNatClampNeg) 16) (zlet (zsI σ 90 (σ.1 (p1 + 28) a2.toNatClampNeg).toNatClampNeg ((σ.1 90 (σ.1 (p1 + 28) a2.toNatClampNeg).toNatClampNeg) + a3)) fun σ6 => zlet (zsI σ6 89 1 ((σ6.1 89 1) + a3)) fun σ7 => some σ7))))
/-! EventCounters$Samples.take -/
def L_X6_take_47 (p1 : Nat) (a2 : Int32) (a3 : Int32) (a5 : Int32) : Nat → Int32 → Int32 → zS → Option zS
  | 0, _, _, _ => none
  | n + 1, w6_47, w7_47, σ_47 =>
    zlet (L_X6_take_47 p1 a2 a3 a5 n) fun r_47 => if (σ_47.1 p1 15) ≤ w7_47 then (some σ_47) else (zg (zi w7_47 6000) (zg (zi (σ_47.1 (p1 + 28) w7_47.toNatClampNeg) 16) (zg (zi a2 8) (zlet (w6_47 + (σ_47.1 ((p1 + 4) + 1 + (σ_47.1 (p1 + 28) w7_47.toNatClampNeg).toNatClampNeg) a2.toNatClampNeg)) fun v8 => if v8 < a3 then (zlet (w7_47 + (1 : Int32)) fun v10 => r_47 v8 v10 σ_47) else (zn a3 (zb (J_X6_show p1 (w7_47 + a5) (v8 / a3) σ_47) fun σ13 => zn a3 (zlet (v8 - v8 / a3 * a3) fun v15 => zlet (w7_47 + (1 : Int32)) fun v16 => r_47 v15 v16 σ13)))))))
def D_X6_take_24 (p1 : Nat) (a2 : Int32) (a3 : Int32) (a4 : Int32) (a5 : Int32) (σ_24 : zS) : Option zS :=
  zlet (zsI σ_24 89 1 (0 : Int32)) fun σ1 => zlet (zsI σ1 89 2 (0 : Int32)) fun σ2 => if (1 : Int32) ≤ a3 then (L_X6_take_47 p1 a2 a3 a5 4294967296 a4 (0 : Int32) σ2) else (some σ2)
def L_X6_take_3 (k24 : zS → Option zS) : Nat → Int32 → zS → Option zS
  | 0, _, _ => none
  | n + 1, w6_3, σ_3 =>
    zlet (L_X6_take_3 k24 n) fun r_3 => if (16 : Int32) ≤ w6_3 then (k24 σ_3) else (zg (zi w6_3 16) (zlet (zsI σ_3 90 w6_3.toNatClampNeg (0 : Int32)) fun σ19 => zlet (w6_3 + (1 : Int32)) fun v20 => r_3 v20 σ19))
def J_X6_take (p1 : Nat) (a2 : Int32) (a3 : Int32) (a4 : Int32) (a5 : Int32) (σ : zS) : Option zS :=
  zlet (D_X6_take_24 p1 a2 a3 a4 a5) fun k24 => L_X6_take_3 k24 4294967296 (0 : Int32) σ
/-! EventCounters.beats -/
def J_X10_beats (a1 : Int32) (a2 : Int32) (a3 : Int32) (a4 : Int32) (σ : zS) : Option (Int32 × zS) :=
  zb (J_X10_areSamples a1 a2 a3 (0 : Int32) σ) fun r1 => if r1 = (0 : Int32) then (some ((-1 : Int32), σ)) else (if a4 < (0 : Int32) then (some ((-1 : Int32), σ)) else (if a4 ≤ (2 : Int32) then (zlet (σ.2.2 0 1) fun p5 => zg (zP p5) (zb (J_X3_total p5 a1 σ) fun r7 => zb (J_X10_commonDivisor (r7.toInt64) (a2.toInt64) σ) fun r8 => zlet (r8.toInt32) fun v9 => if r7 < (1 : Int32) then (some ((0 : Int32), σ)) else (if (1 : Int32) ≤ v9 then (if a4 = (2 : Int32) then (zn v9 (some ((a2 / v9), σ))) else (zlet (σ.2.2 0 1) fun p13 => zg (zP p13) (zn v9 (zb (J_X6_take p13 a1 v9 (a3 - a3 / v9 * v9) (0 : Int32) σ) fun σ17 => zb (J_X6_linesShown σ17) fun r18 => if a4 = (0 : Int32) then (some (r18, σ17)) else (zlet (σ17.2.2 0 1) fun p20 => zg (zP p20) (zb (J_X3_linesThatMake p20 a1 σ17) fun r22 => some ((r22 &&& (r18 ^^^ (-1 : Int32))), σ17))))))) else (some ((0 : Int32), σ))))) else (some ((-1 : Int32), σ))))
/-! EventCounters$Program.made -/
def J_X3_made (p0 : Nat) (a1 : Int32) (a2 : Int32) (σ : zS) : Option Int32 :=
  if (σ.1 p0 0) ≤ a1 then (some (0 : Int32)) else (zg (zi a1 16) (zg (zi a1 16) (zg (zi a2 8) (some ((σ.1 (p0 + 2) a1.toNatClampNeg) * (σ.1 ((p0 + 4) + 1 + a1.toNatClampNeg) a2.toNatClampNeg))))))
/-! EventCounters$Kept.difference -/
def J_X1_difference (p1 : Nat) (a2 : Int32) (a3 : Int32) (σ : zS) : Option Int32 :=
  zb (J_X3_made p1 a2 a3 σ) fun r1 => zg (zi a2 16) (zg (zi a3 8) (some (r1 - (σ.1 (65 + 1 + a2.toNatClampNeg) a3.toNatClampNeg))))
/-! EventCounters$Kept.farthestLine -/
def L_X1_farthestLine_9 (p1 : Nat) (a2 : Int32) (σ : zS) : Nat → Int32 → Int32 → Int32 → Option Int32
  | 0, _, _, _ => none
  | n + 1, w3_9, w4_9, w5_9 =>
    zlet (L_X1_farthestLine_9 p1 a2 σ n) fun r_9 => if (16 : Int32) ≤ w5_9 then (some w3_9) else (zb (J_X1_difference p1 w5_9 a2 σ) fun r2 => zlet (if 0 ≤ r2 then r2 else 0 - r2) fun v3 => zlet (if v3 ≤ w4_9 then w3_9 else w5_9) fun v4 => zlet (if v3 ≤ w4_9 then w4_9 else v3) fun v5 => zlet (w5_9 + (1 : Int32)) fun v6 => r_9 v4 v5 v6)
def J_X1_farthestLine (p1 : Nat) (a2 : Int32) (σ : zS) : Option Int32 :=
  L_X1_farthestLine_9 p1 a2 σ 4294967296 (-4 : Int32) (0 : Int32) (0 : Int32)
/-! EventCounters$Kept.linesThatDiffer -/
def L_X1_linesThatDiffer_6 (p1 : Nat) (a2 : Int32) (a3 : Int32) (σ : zS) : Nat → Int32 → Int32 → Option Int32
  | 0, _, _ => none
  | n + 1, w4_6, w5_6 =>
    zlet (L_X1_linesThatDiffer_6 p1 a2 a3 σ n) fun r_6 => if (16 : Int32) ≤ w5_6 then (some w4_6) else (zb (J_X1_difference p1 w5_6 a2 σ) fun r2 => zlet (if (r2 * a3) ≤ (0 : Int32) then w4_6 else (w4_6 ||| ((1 : Int32) <<< (w5_6 &&& 31)))) fun v3 => zlet (w5_6 + (1 : Int32)) fun v4 => r_6 v3 v4)
def J_X1_linesThatDiffer (p1 : Nat) (a2 : Int32) (a3 : Int32) (σ : zS) : Option Int32 :=
  L_X1_linesThatDiffer_6 p1 a2 a3 σ 4294967296 (0 : Int32) (0 : Int32)
/-! EventCounters$Kept.total -/
def L_X1_total_4 (a1 : Int32) (σ : zS) : Nat → Int32 → Int32 → Option Int32
  | 0, _, _ => none
  | n + 1, w2_4, w3_4 =>
    zlet (L_X1_total_4 a1 σ n) fun r_4 => if (16 : Int32) ≤ w3_4 then (some w2_4) else (zg (zi w3_4 16) (zg (zi a1 8) (zlet (w2_4 + (σ.1 (65 + 1 + w3_4.toNatClampNeg) a1.toNatClampNeg)) fun v4 => zlet (w3_4 + (1 : Int32)) fun v5 => r_4 v4 v5)))
def J_X1_total (a1 : Int32) (σ : zS) : Option Int32 :=
  L_X1_total_4 a1 σ 4294967296 (0 : Int32) (0 : Int32)
/-! EventCounters.beside -/
def J_X10_beside (a1 : Int32) (a2 : Int32) (σ : zS) : Option Int32 :=
  zb (J_X10_isEvent a1 σ) fun r1 => if r1 = (0 : Int32) then (some (-1 : Int32)) else (if a2 = (0 : Int32) then (zlet (σ.2.2 0 1) fun p4 => zg (zP p4) (zb (J_X3_total p4 a1 σ) fun r6 => some r6)) else if a2 = (1 : Int32) then (zb (J_X1_total a1 σ) fun r8 => some r8) else if a2 = (2 : Int32) then (zlet (σ.2.2 0 1) fun p10 => zg (zP p10) (zb (J_X1_linesThatDiffer p10 a1 (1 : Int32) σ) fun r12 => some r12)) else if a2 = (3 : Int32) then (zlet (σ.2.2 0 1) fun p14 => zg (zP p14) (zb (J_X1_linesThatDiffer p14 a1 (-1 : Int32) σ) fun r16 => some r16)) else if a2 = (4 : Int32) then (zlet (σ.2.2 0 1) fun p18 => zg (zP p18) (zb (J_X1_farthestLine p18 a1 σ) fun r20 => some r20)) else (some (-1 : Int32)))
/-! EventCounters.count -/
def J_X10_count (a1 : Int32) (σ : zS) : Option Int32 :=
  zb (J_X0_has (a1 - (10 : Int32)) σ) fun r1 => if r1 = (0 : Int32) then (zb (J_X0_has (a1 - (20 : Int32)) σ) fun r3 => if r3 = (0 : Int32) then (if a1 = (0 : Int32) then (zlet (σ.2.2 0 1) fun p6 => zg (zP p6) (some (σ.1 p6 0))) else if a1 = (1 : Int32) then (some (σ.1 82 0)) else if a1 = (2 : Int32) then (some (σ.1 92 0)) else if a1 = (3 : Int32) then (some (σ.1 1 1)) else if a1 = (4 : Int32) then (zg (zi (0 : Int32) 4) (if (0 : Int32) ≤ (σ.1 99 (0 : Int32).toNatClampNeg) then (zg (zi (0 : Int32) 4) (some (σ.1 99 (0 : Int32).toNatClampNeg))) else (some (-4 : Int32)))) else if a1 = (5 : Int32) then (zlet (σ.2.2 0 1) fun p16 => zg (zP p16) (some (σ.1 p16 5))) else (some (-1 : Int32))) else (zg (zi (a1 - (20 : Int32)) 4) (some (σ.1 84 (a1 - (20 : Int32)).toNatClampNeg)))) else (zg (zi (a1 - (10 : Int32)) 4) (some (σ.1 83 (a1 - (10 : Int32)).toNatClampNeg)))
/-! EventCounters.counters -/
def J_X10_counters (a1 : Int32) (σ : zS) : Option (Int32 × zS) :=
  if a1 < (1 : Int32) then (some ((-1 : Int32), σ)) else (if a1 ≤ (4 : Int32) then (zlet (σ.1 82 0) fun v3 => zb (J_X0_begin a1 σ) fun σ5 => zlet (zsI σ5 92 0 (0 : Int32)) fun σ6 => some (v3, σ6)) else (some ((-1 : Int32), σ)))
/-! EventCounters.end -/
def J_X10_end (a1 : Int32) (σ : zS) : Option (Int32 × zS) :=
  if a1 < (0 : Int32) then (some ((-1 : Int32), σ)) else (if a1 ≤ (σ.1 1 1) then (zlet (σ.1 1 1) fun v3 => zlet (zsI σ 1 1 a1) fun σ4 => some (v3, σ4)) else (some ((-1 : Int32), σ)))
/-! EventCounters.inLowestTerms -/
def J_X10_inLowestTerms (a0 : Int64) (a2 : Int64) (a4 : Int32) (σ : zS) : Option Int64 :=
  zlet (if 0 < a0 then a0 else -a0) fun v1 => zb (J_X10_commonDivisor v1 a2 σ) fun r2 => if (0 : Int32) ≤ (lg_cmp r2 (1 : Int64)) then (if a4 = (0 : Int32) then (znl r2 (some (a2 / r2))) else (znl r2 (some (a0 / r2)))) else (some (0 : Int64))
/-! EventCounters.isEither -/
def J_X10_isEither (a0 : Int32) (σ : zS) : Option Int32 :=
  if a0 = (0 : Int32) then (some (1 : Int32)) else (if a0 = (1 : Int32) then (some (1 : Int32)) else (some (0 : Int32)))
/-! EventCounters$Samples.farFrom -/
def L_X6_farFrom_13 (p1 : Nat) (a2 : Int32) (σ : zS) (v2 : Int64) : Nat → Int64 → Int32 → Option Int64
  | 0, _, _ => none
  | n + 1, w5_13, w7_13 =>
    zlet (L_X6_farFrom_13 p1 a2 σ v2 n) fun r_13 => if (16 : Int32) ≤ w7_13 then (some w5_13) else (zg (zi w7_13 16) (zb (J_X3_made p1 w7_13 a2 σ) fun r5 => zlet (if 0 < ((((σ.1 90 w7_13.toNatClampNeg).toInt64) * v2) - ((r5.toInt64) * ((σ.1 89 1).toInt64))) then ((((σ.1 90 w7_13.toNatClampNeg).toInt64) * v2) - ((r5.toInt64) * ((σ.1 89 1).toInt64))) else -((((σ.1 90 w7_13.toNatClampNeg).toInt64) * v2) - ((r5.toInt64) * ((σ.1 89 1).toInt64)))) fun v6 => zlet (w5_13 + v6) fun v7 => zlet (w7_13 + (1 : Int32)) fun v8 => r_13 v7 v8))
def J_X6_farFrom (p1 : Nat) (a2 : Int32) (σ : zS) : Option Int64 :=
  zb (J_X3_total p1 a2 σ) fun r1 => zlet (r1.toInt64) fun v2 => L_X6_farFrom_13 p1 a2 σ v2 4294967296 (0 : Int64) (0 : Int32)
/-! EventCounters.far -/
def J_X10_far (a1 : Int32) (a2 : Int32) (a3 : Int32) (a4 : Int32) (a5 : Int32) (σ : zS) : Option (Int64 × zS) :=
  zb (J_X10_areSamples a1 a2 a3 a4 σ) fun r1 => if r1 = (0 : Int32) then (some ((-1 : Int64), σ)) else (zb (J_X10_isEither a5 σ) fun r3 => if r3 = (0 : Int32) then (some ((-1 : Int64), σ)) else (zlet (σ.2.2 0 1) fun p5 => zg (zP p5) (zb (J_X6_take p5 a1 a2 a3 a4 σ) fun σ8 => zlet (σ8.2.2 0 1) fun p9 => zg (zP p9) (zb (J_X3_total p9 a1 σ8) fun r11 => zlet (((σ8.1 89 1).toInt64) * (r11.toInt64)) fun v12 => if (0 : Int32) ≤ (lg_cmp v12 (1 : Int64)) then (zlet (σ8.2.2 0 1) fun p14 => zg (zP p14) (zb (J_X6_farFrom p14 a1 σ8) fun r16 => zlet (if a5 = (0 : Int32) then (1 : Int32) else (0 : Int32)) fun v17 => zb (J_X10_inLowestTerms r16 v12 v17 σ8) fun r18 => some (r18, σ8))) else (some ((-4 : Int64), σ8))))))
/-! EventCounters.fault -/
def J_X10_fault (σ : zS) : Option Int32 :=
  some (σ.1 0 11)
/-! EventCounters$Tape.addEight -/
def L_X8_addEight_18 (a1 : Int64) : Nat → Int32 → zS → Option (Int32 × zS)
  | 0, _, _ => none
  | n + 1, w3_18, σ_18 =>
    zlet (L_X8_addEight_18 a1 n) fun r_18 => if w3_18 < (0 : Int32) then (some ((1 : Int32), σ_18)) else (zg (zi (σ_18.1 1 1) 320) (zlet (zsI σ_18 2 (σ_18.1 1 1).toNatClampNeg (vp_nar .byte (((a1 >>> (w3_18.toInt64 &&& 63)).toInt32).toInt8.toInt32))) fun σ4 => zlet (zsI σ4 1 1 ((σ4.1 1 1) + (1 : Int32))) fun σ5 => zlet (w3_18 + (-8 : Int32)) fun v6 => r_18 v6 σ5))
def J_X8_addEight (a1 : Int64) (σ : zS) : Option (Int32 × zS) :=
  if ((σ.1 1 1) + (8 : Int32)) ≤ (320 : Int32) then (L_X8_addEight_18 a1 4294967296 (56 : Int32) σ) else (some ((0 : Int32), σ))
/-! EventCounters.feed -/
def J_X10_feed (a1 : Int64) (σ : zS) : Option (Int32 × zS) :=
  zb2 (J_X8_addEight a1 σ) fun r1 σ2 => if r1 = (0 : Int32) then (some ((-3 : Int32), σ2)) else (some ((σ2.1 1 1), σ2))
/-! EventCounters$Program.bestLine -/
def L_X3_bestLine_6 (p0 : Nat) (a1 : Int32) (a2 : Int32) (a3 : Int32) (σ : zS) : Nat → Int32 → Int32 → Option Int32
  | 0, _, _ => none
  | n + 1, w4_6, w5_6 =>
    zlet (L_X3_bestLine_6 p0 a1 a2 a3 σ n) fun r_6 => if a2 ≤ w5_6 then (some w4_6) else (if ((a3 >>> (w5_6 &&& 31)) &&& (1 : Int32)) = (0 : Int32) then (if w4_6 < (0 : Int32) then (zlet (w5_6 + (1 : Int32)) fun v5 => r_6 w5_6 v5) else (zb (J_X3_made p0 w5_6 a1 σ) fun r6 => zb (J_X3_made p0 w4_6 a1 σ) fun r7 => if r6 ≤ r7 then (zlet (w5_6 + (1 : Int32)) fun v9 => r_6 w4_6 v9) else (zlet (w5_6 + (1 : Int32)) fun v10 => r_6 w5_6 v10))) else (zlet (w5_6 + (1 : Int32)) fun v3 => r_6 w4_6 v3))
def J_X3_bestLine (p0 : Nat) (a1 : Int32) (a2 : Int32) (a3 : Int32) (σ : zS) : Option Int32 :=
  L_X3_bestLine_6 p0 a1 a2 a3 σ 4294967296 (-1 : Int32) (0 : Int32)
/-! EventCounters$Program.mostOf -/
def L_X3_mostOf_9 (p0 : Nat) (a1 : Int32) (a2 : Int32) (a3 : Int32) (σ : zS) : Nat → Int32 → Int32 → Int32 → Option Int32
  | 0, _, _, _ => none
  | n + 1, w4_9, w5_9, w6_9 =>
    zlet (L_X3_mostOf_9 p0 a1 a2 a3 σ n) fun r_9 => if a3 ≤ w6_9 then (some w4_9) else (zb (J_X3_bestLine p0 a1 a2 w5_9 σ) fun r2 => if r2 < (0 : Int32) then (zlet (w6_9 + (1 : Int32)) fun v4 => r_9 w4_9 w5_9 v4) else (zlet (w5_9 ||| ((1 : Int32) <<< (r2 &&& 31))) fun v5 => zb (J_X3_made p0 r2 a1 σ) fun r6 => zlet (w4_9 + r6) fun v7 => zlet (w6_9 + (1 : Int32)) fun v8 => r_9 v7 v5 v8))
def J_X3_mostOf (p0 : Nat) (a1 : Int32) (a2 : Int32) (a3 : Int32) (σ : zS) : Option Int32 :=
  L_X3_mostOf_9 p0 a1 a2 a3 σ 4294967296 (0 : Int32) (0 : Int32) (0 : Int32)
/-! EventCounters.fewestLines -/
def L_X10_fewestLines_2 (a1 : Int32) (a2 : Int32) (σ : zS) : Nat → Int32 → Option Int32
  | 0, _ => none
  | n + 1, w3_2 =>
    zlet (L_X10_fewestLines_2 a1 a2 σ n) fun r_2 => zlet (σ.2.2 0 1) fun p1 => zg (zP p1) (if (σ.1 p1 0) ≤ w3_2 then (zlet (σ.2.2 0 1) fun p4 => zg (zP p4) (some (σ.1 p4 0))) else (zlet (σ.2.2 0 1) fun p6 => zg (zP p6) (zlet (σ.2.2 0 1) fun p8 => zg (zP p8) (zb (J_X3_mostOf p6 a1 (σ.1 p8 0) w3_2 σ) fun r10 => if r10 < a2 then (zlet (w3_2 + (1 : Int32)) fun v12 => r_2 v12) else (some w3_2)))))
def J_X10_fewestLines (a1 : Int32) (a2 : Int32) (σ : zS) : Option Int32 :=
  L_X10_fewestLines_2 a1 a2 σ 4294967296 (1 : Int32)
/-! EventCounters.isRange -/
def J_X10_isRange (a0 : Int32) (a1 : Int32) (σ : zS) : Option Int32 :=
  if a1 < a0 then (some (0 : Int32)) else (if (200 : Int32) ≤ (a1 - a0) then (some (0 : Int32)) else (some (1 : Int32)))
/-! EventCounters.isSlice -/
def J_X10_isSlice (a0 : Int32) (σ : zS) : Option Int32 :=
  if a0 < (1 : Int32) then (some (0 : Int32)) else (if (999 : Int32) < a0 then (some (0 : Int32)) else (some (1 : Int32)))
/-! EventCounters$Program.allTicks -/
def J_X3_allTicks (p0 : Nat) (σ : zS) : Option Int32 :=
  zg (zi (σ.1 p0 15) 6001) (some (σ.1 (p0 + 29) (σ.1 p0 15).toNatClampNeg))
/-! EventCounters$Turns.scaledUp -/
def J_X9_scaledUp (p1 : Nat) (σ : zS) : Option Int64 :=
  zb (J_X3_allTicks p1 σ) fun r1 => some (((σ.1 88 0).toInt64) * (r1.toInt64))
/-! EventCounters$Turns.off -/
def J_X9_off (p1 : Nat) (a2 : Int32) (σ : zS) : Option Int64 :=
  zb (J_X9_scaledUp p1 σ) fun r1 => zb (J_X3_total p1 a2 σ) fun r2 => some (r1 - ((r2.toInt64) * ((σ.1 88 1).toInt64)))
/-! EventCounters$Program.sliceOf -/
def J_X3_sliceOf (p0 : Nat) (a1 : Int32) (a2 : Int32) (σ : zS) : Option Int32 :=
  if (1 : Int32) ≤ a2 then (zg (zi a1 6001) (zn a2 (some ((σ.1 (p0 + 29) a1.toNatClampNeg) / a2)))) else (some (0 : Int32))
/-! EventCounters$Turns.take -/
def L_X9_take_19 (p1 : Nat) (a2 : Int32) (a3 : Int32) (a4 : Int32) (a5 : Int32) : Nat → Int32 → zS → Option zS
  | 0, _, _ => none
  | n + 1, w6_19, σ_19 =>
    zlet (L_X9_take_19 p1 a2 a3 a4 a5 n) fun r_19 => if (σ_19.1 p1 15) ≤ w6_19 then (some σ_19) else (zb (J_X3_sliceOf p1 w6_19 a2 σ_19) fun r5 => zn a3 (if (r5 - r5 / a3 * a3) = a4 then (zg (zi w6_19 6000) (zlet (σ_19.1 (p1 + 28) w6_19.toNatClampNeg) fun v10 => zg (zi v10 16) (zg (zi a5 8) (zlet (zsI σ_19 88 0 ((σ_19.1 88 0) + (σ_19.1 ((p1 + 4) + 1 + v10.toNatClampNeg) a5.toNatClampNeg))) fun σ13 => zg (zi v10 16) (zlet (zsI σ13 88 1 ((σ13.1 88 1) + (σ13.1 (p1 + 1) v10.toNatClampNeg))) fun σ15 => zlet (w6_19 + (1 : Int32)) fun v16 => r_19 v16 σ15))))) else (zlet (w6_19 + (1 : Int32)) fun v8 => r_19 v8 σ_19)))
def J_X9_take (p1 : Nat) (a2 : Int32) (a3 : Int32) (a4 : Int32) (a5 : Int32) (σ : zS) : Option zS :=
  zlet (zsI σ 88 0 (0 : Int32)) fun σ1 => zlet (zsI σ1 88 1 (0 : Int32)) fun σ2 => if (1 : Int32) ≤ a3 then (L_X9_take_19 p1 a2 a3 a4 a5 4294967296 (0 : Int32) σ2) else (some σ2)
/-! EventCounters.nearestSlice -/
def L_X10_nearestSlice_25 (a2 : Int32) (a3 : Int32) (a4 : Int32) (r1 : Int32) : Nat → Int32 → Int64 → Int64 → Int32 → zS → Option (Int32 × zS)
  | 0, _, _, _, _, _ => none
  | n + 1, w6_25, w7_25, w9_25, w11_25, σ_25 =>
    zlet (L_X10_nearestSlice_25 a2 a3 a4 r1 n) fun r_25 => if a2 < w11_25 then (some (w6_25, σ_25)) else (zlet (σ_25.2.2 0 1) fun p3 => zg (zP p3) (zb (J_X9_take p3 w11_25 a3 r1 a4 σ_25) fun σ6 => zlet (σ6.2.2 0 1) fun p7 => zg (zP p7) (zb (J_X9_off p7 a4 σ6) fun r9 => zlet (if 0 < r9 then r9 else -r9) fun v10 => zlet (if (σ6.1 88 1) ≤ (0 : Int32) then w6_25 else (if w6_25 = (-4 : Int32) then w11_25 else (if (0 : Int32) ≤ (lg_cmp (v10 * w9_25) (w7_25 * ((σ6.1 88 1).toInt64))) then w6_25 else w11_25))) fun v11 => zlet (if (σ6.1 88 1) ≤ (0 : Int32) then w7_25 else (if w6_25 = (-4 : Int32) then v10 else (if (0 : Int32) ≤ (lg_cmp (v10 * w9_25) (w7_25 * ((σ6.1 88 1).toInt64))) then w7_25 else v10))) fun v12 => zlet (if (σ6.1 88 1) ≤ (0 : Int32) then w9_25 else (if w6_25 = (-4 : Int32) then ((σ6.1 88 1).toInt64) else (if (0 : Int32) ≤ (lg_cmp (v10 * w9_25) (w7_25 * ((σ6.1 88 1).toInt64))) then w9_25 else ((σ6.1 88 1).toInt64)))) fun v13 => zlet (w11_25 + (1 : Int32)) fun v14 => r_25 v11 v12 v13 v14 σ6)))
def J_X10_nearestSlice (a1 : Int32) (a2 : Int32) (a3 : Int32) (a4 : Int32) (σ : zS) : Option (Int32 × zS) :=
  zb (J_X0_roundOf a4 a3 σ) fun r1 => L_X10_nearestSlice_25 a2 a3 a4 r1 4294967296 (-4 : Int32) (0 : Int64) (1 : Int64) a1 σ
/-! EventCounters.finest -/
def J_X10_finest (a1 : Int32) (a2 : Int32) (a3 : Int32) (a4 : Int32) (σ : zS) : Option (Int32 × zS) :=
  zb (J_X10_isOneOf a4 a1 σ) fun r1 => if r1 = (0 : Int32) then (some ((-1 : Int32), σ)) else (zb (J_X10_isSlice a2 σ) fun r3 => if r3 = (0 : Int32) then (some ((-1 : Int32), σ)) else (zb (J_X10_isSlice a3 σ) fun r5 => if r5 = (0 : Int32) then (some ((-1 : Int32), σ)) else (zb (J_X10_isRange a2 a3 σ) fun r7 => if r7 = (0 : Int32) then (some ((-1 : Int32), σ)) else (zb2 (J_X0_divide a1 σ) fun r9 σ10 => if (1 : Int32) ≤ r9 then (zb2 (J_X10_nearestSlice a2 a3 r9 a4 σ10) fun r12 σ13 => some (r12, σ13)) else (some ((-4 : Int32), σ10))))))
/-! EventCounters.forget -/
def J_X10_forget (σ : zS) : Option (Int32 × zS) :=
  zlet (σ.1 92 0) fun v1 => zlet (zsI σ 92 0 (0 : Int32)) fun σ2 => some (v1, σ2)
/-! EventCounters.goes -/
def J_X10_goes (a1 : Int32) (a2 : Int32) (σ : zS) : Option Int32 :=
  zb (J_X10_isOneOf a2 a1 σ) fun r1 => if r1 = (0 : Int32) then (some (-1 : Int32)) else (zb (J_X0_counterFor a1 a2 σ) fun r3 => some r3)
/-! EventCounters.leastLines -/
def L_X10_leastLines_20 (a1 : Int32) (a2 : Int32) (σ : zS) : Nat → Int32 → Int32 → Int32 → Int32 → Option Int32
  | 0, _, _, _, _ => none
  | n + 1, w4_20, w5_20, w6_20, w7_20 =>
    zlet (L_X10_leastLines_20 a1 a2 σ n) fun r_20 => if w7_20 < (0 : Int32) then (some w4_20) else (if w6_20 ≤ (0 : Int32) then (some w4_20) else (zlet (σ.2.2 0 1) fun p6 => zg (zP p6) (zb (J_X3_mostOf p6 a1 w7_20 w6_20 σ) fun r8 => if a2 ≤ (w5_20 + r8) then (zlet (w7_20 + (-1 : Int32)) fun v10 => r_20 w4_20 w5_20 w6_20 v10) else (zlet (w4_20 ||| ((1 : Int32) <<< (w7_20 &&& 31))) fun v11 => zlet (σ.2.2 0 1) fun p12 => zg (zP p12) (zb (J_X3_made p12 w7_20 a1 σ) fun r14 => zlet (w5_20 + r14) fun v15 => zlet (w6_20 + (-1 : Int32)) fun v16 => zlet (w7_20 + (-1 : Int32)) fun v17 => r_20 v11 v15 v16 v17)))))
def J_X10_leastLines (a1 : Int32) (a2 : Int32) (a3 : Int32) (σ : zS) : Option Int32 :=
  zlet (σ.2.2 0 1) fun p1 => zg (zP p1) (zlet ((σ.1 p1 0) - (1 : Int32)) fun v3 => L_X10_leastLines_20 a1 a2 σ 4294967296 (0 : Int32) (0 : Int32) a3 v3)
/-! EventCounters.hot -/
def J_X10_hot (a1 : Int32) (a2 : Int32) (a3 : Int32) (σ : zS) : Option Int32 :=
  zb (J_X10_isEvent a1 σ) fun r1 => if r1 = (0 : Int32) then (some (-1 : Int32)) else (if a2 < (1 : Int32) then (some (-1 : Int32)) else (if (100 : Int32) < a2 then (some (-1 : Int32)) else (zb (J_X10_isEither a3 σ) fun r5 => if r5 = (0 : Int32) then (some (-1 : Int32)) else (zlet (σ.2.2 0 1) fun p7 => zg (zP p7) (zb (J_X3_total p7 a1 σ) fun r9 => if (1 : Int32) ≤ r9 then (zlet (((a2 * r9) + (99 : Int32)) / (100 : Int32)) fun v11 => zb (J_X10_fewestLines a1 v11 σ) fun r12 => if a3 = (0 : Int32) then (some r12) else (zb (J_X10_leastLines a1 v11 r12 σ) fun r14 => some r14)) else (some (-4 : Int32)))))))
/-! EventCounters$Kept.take -/
def D_X1_take_36 (r_2 : Int32 → zS → Option zS) (w2_2 : Int32) (σ_36 : zS) : Option zS :=
  zlet (w2_2 + (1 : Int32)) fun v2 => r_2 v2 σ_36
def L_X1_take_10 (p1 : Nat) (w2_2 : Int32) (k36 : zS → Option zS) : Nat → Int32 → zS → Option zS
  | 0, _, _ => none
  | n + 1, w3_10, σ_10 =>
    zlet (L_X1_take_10 p1 w2_2 k36 n) fun r_10 => if (8 : Int32) ≤ w3_10 then (k36 σ_10) else (zg (zi w2_2 16) (zb (J_X3_made p1 w2_2 w3_10 σ_10) fun r5 => zg (zi w3_10 8) (zlet (zsI σ_10 (65 + 1 + w2_2.toNatClampNeg) w3_10.toNatClampNeg r5) fun σ7 => zlet (w3_10 + (1 : Int32)) fun v8 => r_10 v8 σ7)))
def L_X1_take_2 (p1 : Nat) : Nat → Int32 → zS → Option zS
  | 0, _, _ => none
  | n + 1, w2_2, σ_2 =>
    zlet (L_X1_take_2 p1 n) fun r_2 => if (16 : Int32) ≤ w2_2 then (some σ_2) else (zlet (D_X1_take_36 r_2 w2_2) fun k36 => L_X1_take_10 p1 w2_2 k36 4294967296 (0 : Int32) σ_2)
def J_X1_take (p1 : Nat) (σ : zS) : Option zS :=
  L_X1_take_2 p1 4294967296 (0 : Int32) σ
/-! EventCounters.keep -/
def J_X10_keep (σ : zS) : Option (Int32 × zS) :=
  zlet (σ.2.2 0 1) fun p1 => zg (zP p1) (zb (J_X1_take p1 σ) fun σ4 => zlet (σ4.2.2 0 1) fun p5 => zg (zP p5) (some ((σ4.1 p5 0), σ4)))
/-! EventCounters$Sheets.has -/
def J_X7_has (a1 : Int32) (σ : zS) : Option Int32 :=
  if a1 < (0 : Int32) then (some (0 : Int32)) else (if (4 : Int32) ≤ a1 then (some (0 : Int32)) else (some (1 : Int32)))
/-! EventCounters$Sheets.lowestBits -/
def J_X7_lowestBits (a0 : Int32) (a1 : Int32) (σ : zS) : Option Int32 :=
  if a0 = (0 : Int32) then (some (a1.toInt8.toInt32)) else (if a0 = (1 : Int32) then (some (a1.toInt16.toInt32)) else (some a1))
/-! EventCounters$Sheets.put -/
def J_X7_put (a1 : Int32) (a2 : Int32) (a3 : Int32) (σ : zS) : Option (Int32 × zS) :=
  zg (zi a1 4) (if (0 : Int32) ≤ (σ.1 99 a1.toNatClampNeg) then (if a2 < (0 : Int32) then (some ((-12 : Int32), σ)) else (zg (zi a1 4) (if a2 < (σ.1 99 a1.toNatClampNeg) then (zg (zi a1 4) (zg (zi a1 4) (zb (J_X7_lowestBits (σ.1 98 a1.toNatClampNeg) a3 σ) fun r8 => zg (zi a2 40) (zlet (zsI σ (100 + 1 + a1.toNatClampNeg) a2.toNatClampNeg r8) fun σ10 => some ((1 : Int32), σ10))))) else (some ((-12 : Int32), σ))))) else (some ((-11 : Int32), σ)))
/-! EventCounters.lay -/
def J_X10_lay (a1 : Int32) (a2 : Int32) (a3 : Int32) (σ : zS) : Option (Int32 × zS) :=
  zb (J_X7_has a1 σ) fun r1 => if r1 = (0 : Int32) then (some ((-1 : Int32), σ)) else (zb2 (J_X7_put a1 a2 a3 σ) fun r3 σ4 => some (r3, σ4))
/-! EventCounters$Program.hasLine -/
def J_X3_hasLine (p0 : Nat) (a1 : Int32) (σ : zS) : Option Int32 :=
  if a1 < (0 : Int32) then (some (0 : Int32)) else (if (σ.1 p0 0) ≤ a1 then (some (0 : Int32)) else (some (1 : Int32)))
/-! EventCounters.line -/
def J_X10_line (a1 : Int32) (a2 : Int32) (σ : zS) : Option Int32 :=
  zlet (σ.2.2 0 1) fun p1 => zg (zP p1) (zb (J_X3_hasLine p1 a1 σ) fun r3 => if r3 = (0 : Int32) then (some (-1 : Int32)) else (zb (J_X10_isEvent (a2 - (10 : Int32)) σ) fun r5 => if r5 = (0 : Int32) then (if a2 = (0 : Int32) then (zlet (σ.2.2 0 1) fun p8 => zg (zP p8) (zg (zi a1 16) (some (σ.1 (p8 + 1) a1.toNatClampNeg)))) else if a2 = (1 : Int32) then (zlet (σ.2.2 0 1) fun p12 => zg (zP p12) (zg (zi a1 16) (some (σ.1 (p12 + 2) a1.toNatClampNeg)))) else if a2 = (2 : Int32) then (zlet (σ.2.2 0 1) fun p16 => zg (zP p16) (zg (zi a1 16) (some (σ.1 (p16 + 3) a1.toNatClampNeg)))) else (some (-1 : Int32))) else (zlet (σ.2.2 0 1) fun p19 => zg (zP p19) (zg (zi a1 16) (zg (zi (a2 - (10 : Int32)) 8) (some (σ.1 ((p19 + 4) + 1 + a1.toNatClampNeg) (a2 - (10 : Int32)).toNatClampNeg)))))))
/-! EventCounters$Looks.take -/
def D_X2_take_100 (a4 : Int32) (w6_100 : Int32) (σ_100 : zS) : Option zS :=
  zlet (zsI σ_100 91 0 ((σ_100.1 91 0) + (w6_100 &&& a4))) fun σ3 => zlet (zsI σ3 91 1 ((σ3.1 91 1) + (1 : Int32))) fun σ4 => some σ4
def D_X2_take_75 (p1 : Nat) (a2 : Int32) (r_19 : Int32 → Int32 → Int32 → zS → Option zS) (w7_19 : Int32) (w5_75 : Int32) (w6_75 : Int32) (σ_75 : zS) : Option zS :=
  zg (zi w7_19 6000) (zg (zi (σ_75.1 (p1 + 28) w7_19.toNatClampNeg) 16) (zg (zi a2 8) (zlet (w6_75 + (σ_75.1 ((p1 + 4) + 1 + (σ_75.1 (p1 + 28) w7_19.toNatClampNeg).toNatClampNeg) a2.toNatClampNeg)) fun v10 => zlet (w7_19 + (1 : Int32)) fun v11 => r_19 w5_75 v10 v11 σ_75)))
def L_X2_take_19 (p1 : Nat) (a2 : Int32) (a3 : Int32) (a4 : Int32) (k100 : Int32 → zS → Option zS) : Nat → Int32 → Int32 → Int32 → zS → Option zS
  | 0, _, _, _, _ => none
  | n + 1, w5_19, w6_19, w7_19, σ_19 =>
    zlet (L_X2_take_19 p1 a2 a3 a4 k100 n) fun r_19 => if (σ_19.1 p1 15) ≤ w7_19 then (k100 w6_19 σ_19) else (zb (J_X3_sliceOf p1 w7_19 a3 σ_19) fun r6 => zlet (D_X2_take_75 p1 a2 r_19 w7_19) fun k75 => if r6 = w5_19 then (k75 w5_19 w6_19 σ_19) else (zlet (zsI σ_19 91 0 ((σ_19.1 91 0) + (w6_19 &&& a4))) fun σ13 => zlet (zsI σ13 91 1 ((σ13.1 91 1) + (1 : Int32))) fun σ14 => k75 r6 (0 : Int32) σ14))
def J_X2_take (p1 : Nat) (a2 : Int32) (a3 : Int32) (a4 : Int32) (σ : zS) : Option zS :=
  zlet (zsI σ 91 0 (0 : Int32)) fun σ1 => zlet (zsI σ1 91 1 (0 : Int32)) fun σ2 => zlet (D_X2_take_100 a4) fun k100 => L_X2_take_19 p1 a2 a3 a4 k100 4294967296 (0 : Int32) (0 : Int32) (0 : Int32) σ2
/-! EventCounters.looked -/
def J_X10_looked (a1 : Int32) (a2 : Int32) (a3 : Int32) (a4 : Int32) (σ : zS) : Option (Int32 × zS) :=
  zb (J_X0_counts a1 a2 σ) fun r1 => if r1 = (0 : Int32) then (some ((-1 : Int32), σ)) else (zb (J_X10_isSlice a3 σ) fun r3 => if r3 = (0 : Int32) then (some ((-1 : Int32), σ)) else (if a4 < (0 : Int32) then (some ((-1 : Int32), σ)) else (if a4 ≤ (2 : Int32) then (zlet (σ.2.2 0 1) fun p7 => zg (zP p7) (zb (J_X0_greatest a1 σ) fun r9 => zb (J_X2_take p7 a2 a3 r9 σ) fun σ11 => if a4 = (0 : Int32) then (some ((σ11.1 91 0), σ11)) else if a4 = (1 : Int32) then (zlet (σ11.2.2 0 1) fun p14 => zg (zP p14) (zb (J_X3_total p14 a2 σ11) fun r16 => some ((r16 - (σ11.1 91 0)), σ11))) else (some ((σ11.1 91 1), σ11)))) else (some ((-1 : Int32), σ)))))
/-! EventCounters$Program.hasLoop -/
def J_X3_hasLoop (p0 : Nat) (a1 : Int32) (σ : zS) : Option Int32 :=
  if a1 < (0 : Int32) then (some (0 : Int32)) else (if (σ.1 p0 5) ≤ a1 then (some (0 : Int32)) else (some (1 : Int32)))
/-! EventCounters$Program.linesIn -/
def J_X3_linesIn (p0 : Nat) (a1 : Int32) (σ : zS) : Option Int32 :=
  zg (zi a1 40) (zg (zi a1 40) (some (((1 : Int32) <<< ((σ.1 (p0 + 25) a1.toNatClampNeg) &&& 31)) - ((1 : Int32) <<< ((σ.1 (p0 + 24) a1.toNatClampNeg) &&& 31)))))
/-! EventCounters$Program.stepsIn -/
def L_X3_stepsIn_9 (p0 : Nat) (a1 : Int32) (σ : zS) : Nat → Int32 → Int32 → Option Int32
  | 0, _, _ => none
  | n + 1, w2_9, w3_9 =>
    zlet (L_X3_stepsIn_9 p0 a1 σ n) fun r_9 => zg (zi a1 40) (if (σ.1 (p0 + 25) a1.toNatClampNeg) ≤ w3_9 then (some w2_9) else (zg (zi w3_9 16) (zlet (w2_9 + (σ.1 (p0 + 2) w3_9.toNatClampNeg)) fun v6 => zlet (w3_9 + (1 : Int32)) fun v7 => r_9 v6 v7)))
def J_X3_stepsIn (p0 : Nat) (a1 : Int32) (σ : zS) : Option Int32 :=
  zg (zi a1 40) (zlet (σ.1 (p0 + 24) a1.toNatClampNeg) fun v2 => L_X3_stepsIn_9 p0 a1 σ 4294967296 (0 : Int32) v2)
/-! EventCounters.loop -/
def J_X10_loop (a1 : Int32) (a2 : Int32) (σ : zS) : Option Int32 :=
  zlet (σ.2.2 0 1) fun p1 => zg (zP p1) (zb (J_X3_hasLoop p1 a1 σ) fun r3 => if r3 = (0 : Int32) then (some (-1 : Int32)) else (if a2 = (0 : Int32) then (zlet (σ.2.2 0 1) fun p6 => zg (zP p6) (zg (zi a1 40) (some (σ.1 (p6 + 21) a1.toNatClampNeg)))) else if a2 = (1 : Int32) then (zlet (σ.2.2 0 1) fun p10 => zg (zP p10) (zg (zi a1 40) (some (σ.1 (p10 + 22) a1.toNatClampNeg)))) else if a2 = (2 : Int32) then (zlet (σ.2.2 0 1) fun p14 => zg (zP p14) (zb (J_X3_linesIn p14 a1 σ) fun r16 => some r16)) else if a2 = (3 : Int32) then (zlet (σ.2.2 0 1) fun p18 => zg (zP p18) (zg (zi a1 40) (some (σ.1 (p18 + 23) a1.toNatClampNeg)))) else if a2 = (4 : Int32) then (zlet (σ.2.2 0 1) fun p22 => zg (zP p22) (zb (J_X3_stepsIn p22 a1 σ) fun r24 => some r24)) else (some (-1 : Int32))))
/-! EventCounters.mask -/
def J_X10_mask (a1 : Int32) (a2 : Int32) (σ : zS) : Option (Int32 × zS) :=
  zb (J_X0_has a1 σ) fun r1 => if r1 = (0 : Int32) then (some ((-1 : Int32), σ)) else (zb (J_X10_isSet a2 σ) fun r3 => if r3 = (0 : Int32) then (some ((-1 : Int32), σ)) else (zg (zi a1 4) (zlet (σ.1 83 a1.toNatClampNeg) fun v6 => zg (zi a1 4) (zlet (zsI σ 83 a1.toNatClampNeg a2) fun σ8 => zlet (zsI σ8 82 6 (0 : Int32)) fun σ9 => some (v6, σ9)))))
/-! EventCounters.over -/
def J_X10_over (a1 : Int32) (a2 : Int32) (a3 : Int32) (a4 : Int32) (σ : zS) : Option Int32 :=
  zb (J_X0_counts a1 a2 σ) fun r1 => if r1 = (0 : Int32) then (some (-1 : Int32)) else (if a3 < (0 : Int32) then (some (-1 : Int32)) else (zb (J_X0_greatest a1 σ) fun r4 => if r4 < a3 then (some (-1 : Int32)) else (zb (J_X10_isEither a4 σ) fun r6 => if r6 = (0 : Int32) then (some (-1 : Int32)) else (zlet (σ.2.2 0 1) fun p8 => zg (zP p8) (zb (J_X3_total p8 a2 σ) fun r10 => zlet (a3 + r10) fun v11 => if a4 = (0 : Int32) then (zb (J_X0_greatest a1 σ) fun r14 => some (v11 &&& r14)) else (zg (zi a1 4) (some (v11 >>> ((σ.1 84 a1.toNatClampNeg) &&& 31)))))))))
/-! EventCounters$Program.timeSteps -/
def L_X3_timeSteps_9 (p0 : Nat) : Nat → Int32 → zS → Option zS
  | 0, _, _ => none
  | n + 1, w1_9, σ_9 =>
    zlet (L_X3_timeSteps_9 p0 n) fun r_9 => if (σ_9.1 p0 15) ≤ w1_9 then (some σ_9) else (zg (zi w1_9 6001) (zg (zi w1_9 6000) (zg (zi (σ_9.1 (p0 + 28) w1_9.toNatClampNeg) 16) (zg (zi (w1_9 + (1 : Int32)) 6001) (zlet (zsI σ_9 (p0 + 29) (w1_9 + (1 : Int32)).toNatClampNeg ((σ_9.1 (p0 + 29) w1_9.toNatClampNeg) + (σ_9.1 (p0 + 1) (σ_9.1 (p0 + 28) w1_9.toNatClampNeg).toNatClampNeg))) fun σ8 => zlet (w1_9 + (1 : Int32)) fun v9 => r_9 v9 σ8)))))
def J_X3_timeSteps (p0 : Nat) (σ : zS) : Option zS :=
  zg (zi (0 : Int32) 6001) (zlet (zsI σ (p0 + 29) (0 : Int32).toNatClampNeg (0 : Int32)) fun σ2 => L_X3_timeSteps_9 p0 4294967296 (0 : Int32) σ2)
/-! EventCounters$Program.begin -/
def J_X3_begin (p0 : Nat) (σ : zS) : Option zS :=
  zlet (zsI σ p0 0 (0 : Int32)) fun σ1 => zlet (zsI σ1 p0 5 (0 : Int32)) fun σ2 => zlet (zsI σ2 p0 13 (0 : Int32)) fun σ3 => zlet (zsI σ3 p0 14 (1 : Int32)) fun σ4 => zlet (zsI σ4 p0 15 (0 : Int32)) fun σ5 => zlet (zsI σ5 p0 16 (0 : Int32)) fun σ6 => some σ6
/-! EventCounters$Program.repeatSteps -/
def L_X3_repeatSteps_34 (p0 : Nat) (v1 : Int32) (v2 : Int32) : Nat → Int32 → zS → Option zS
  | 0, _, _ => none
  | n + 1, w5_34, σ_34 =>
    zlet (L_X3_repeatSteps_34 p0 v1 v2 n) fun r_34 => if v2 ≤ w5_34 then (zlet (zsI σ_34 p0 15 v2) fun σ6 => some σ6) else (zg (zi (w5_34 - v1) 6000) (zg (zi w5_34 6000) (zlet (zsI σ_34 (p0 + 28) w5_34.toNatClampNeg (vp_nar .byte (σ_34.1 (p0 + 28) (w5_34 - v1).toNatClampNeg))) fun σ9 => zlet (w5_34 + (1 : Int32)) fun v10 => r_34 v10 σ9)))
def J_X3_repeatSteps (p0 : Nat) (a1 : Int32) (a2 : Int32) (σ : zS) : Option zS :=
  zlet ((σ.1 p0 15) - a1) fun v1 => zlet (a1 + (v1 * a2)) fun v2 => if v2 ≤ (6000 : Int32) then (zlet (σ.1 p0 15) fun v4 => L_X3_repeatSteps_34 p0 v1 v2 4294967296 v4 σ) else (zlet (zsI σ p0 16 (1 : Int32)) fun σ11 => some σ11)
/-! EventCounters$Program.closeLoop -/
def J_X3_closeLoop (p0 : Nat) (σ : zS) : Option zS :=
  if (1 : Int32) ≤ (σ.1 p0 13) then (zlet (zsI σ p0 13 ((σ.1 p0 13) - (1 : Int32))) fun σ2 => zg (zi (σ2.1 p0 13) 4) (zlet (σ2.1 (p0 + 27) (σ2.1 p0 13).toNatClampNeg) fun v4 => zg (zi v4 40) (zlet (zsI σ2 p0 14 (σ2.1 (p0 + 23) v4.toNatClampNeg)) fun σ6 => zg (zi v4 40) (zlet (zsI σ6 (p0 + 25) v4.toNatClampNeg (σ6.1 p0 0)) fun σ8 => zg (zi v4 40) (zg (zi v4 40) (zb (J_X3_repeatSteps p0 (σ8.1 (p0 + 26) v4.toNatClampNeg) (σ8.1 (p0 + 21) v4.toNatClampNeg) σ8) fun σ12 => some σ12)))))) else (some σ)
/-! EventCounters$Reader.fail -/
def J_X4_fail (a1 : Int32) (σ : zS) : Option zS :=
  zlet (zsI σ 63 6 a1) fun σ1 => zlet (zsI σ1 63 7 (σ1.1 63 4)) fun σ2 => some σ2
/-! EventCounters$Reader.finish -/
def D_X4_finish_22 (σ_22 : zS) : Option zS :=
  if (σ_22.1 63 6) = (0 : Int32) then (zlet (σ_22.2.2 63 1) fun p2 => zg (zP p2) (if (σ_22.1 p2 16) = (0 : Int32) then (some σ_22) else (zb (J_X4_fail (6 : Int32) σ_22) fun σ6 => some σ6))) else (some σ_22)
def J_X4_finish (σ : zS) : Option zS :=
  zlet (D_X4_finish_22) fun k22 => if (σ.1 63 6) = (0 : Int32) then (zlet (σ.2.2 63 1) fun p8 => zg (zP p8) (if (σ.1 p8 13) ≤ (0 : Int32) then (k22 σ) else (zb (J_X4_fail (2 : Int32) σ) fun σ12 => k22 σ12))) else (k22 σ)
/-! EventCounters$Reader.isWord -/
def L_X4_isWord_27 (k1 : Nat) (σ : zS) : Nat → Int32 → Option Int32
  | 0, _ => none
  | n + 1, w2_27 =>
    zlet (L_X4_isWord_27 k1 σ n) fun r_27 => if (zwlen k1) ≤ w2_27 then (some (1 : Int32)) else (zg (zi ((σ.1 63 4) + w2_27) 320) (zg (zi w2_27 (zwn k1)) (if (σ.1 2 ((σ.1 63 4) + w2_27).toNatClampNeg) = (zwc k1 w2_27.toNatClampNeg) then (zlet (w2_27 + (1 : Int32)) fun v7 => r_27 v7) else (some (0 : Int32)))))
def J_X4_isWord (k1 : Nat) (σ : zS) : Option Int32 :=
  if (σ.1 63 3) = (0 : Int32) then (if ((σ.1 63 2) - (σ.1 63 4)) = (zwlen k1) then (L_X4_isWord_27 k1 σ 4294967296 (0 : Int32)) else (some (0 : Int32))) else (some (0 : Int32))
/-! EventCounters$Program.addLine -/
def D_X3_addLine_114 (p0 : Nat) (σ_114 : zS) : Option zS :=
  zlet (zsI σ_114 p0 0 ((σ_114.1 p0 0) + (1 : Int32))) fun σ8 => some σ8
def D_X3_addLine_72 (p0 : Nat) (σ_72 : zS) : Option zS :=
  zlet (D_X3_addLine_114 p0) fun k114 => if (6000 : Int32) ≤ (σ_72.1 p0 15) then (zlet (zsI σ_72 p0 16 (1 : Int32)) fun σ10 => k114 σ10) else (zg (zi (σ_72.1 p0 15) 6000) (zlet (zsI σ_72 (p0 + 28) (σ_72.1 p0 15).toNatClampNeg (vp_nar .byte ((σ_72.1 p0 0).toInt8.toInt32))) fun σ12 => zlet (zsI σ12 p0 15 ((σ12.1 p0 15) + (1 : Int32))) fun σ13 => k114 σ13))
def L_X3_addLine_48 (p0 : Nat) (k72 : zS → Option zS) : Nat → Int32 → zS → Option zS
  | 0, _, _ => none
  | n + 1, w2_48, σ_48 =>
    zlet (L_X3_addLine_48 p0 k72 n) fun r_48 => if (8 : Int32) ≤ w2_48 then (k72 σ_48) else (zg (zi (σ_48.1 p0 0) 16) (zg (zi w2_48 8) (zlet (zsI σ_48 ((p0 + 4) + 1 + (σ_48.1 p0 0).toNatClampNeg) w2_48.toNatClampNeg (0 : Int32)) fun σ17 => zlet (w2_48 + (1 : Int32)) fun v18 => r_48 v18 σ17)))
def J_X3_addLine (p0 : Nat) (a1 : Int32) (σ : zS) : Option zS :=
  if (σ.1 p0 0) < (16 : Int32) then (zg (zi (σ.1 p0 0) 16) (zlet (zsI σ (p0 + 1) (σ.1 p0 0).toNatClampNeg a1) fun σ3 => zg (zi (σ3.1 p0 0) 16) (zlet (zsI σ3 (p0 + 2) (σ3.1 p0 0).toNatClampNeg (σ3.1 p0 14)) fun σ5 => zg (zi (σ5.1 p0 0) 16) (zlet (zsI σ5 (p0 + 3) (σ5.1 p0 0).toNatClampNeg (σ5.1 p0 13)) fun σ7 => zlet (D_X3_addLine_72 p0) fun k72 => L_X3_addLine_48 p0 k72 4294967296 (0 : Int32) σ7)))) else (some σ)
/-! EventCounters$Program.setEvent -/
def J_X3_setEvent (p0 : Nat) (a1 : Int32) (a2 : Int32) (σ : zS) : Option zS :=
  if (σ.1 p0 0) ≤ (0 : Int32) then (some σ) else (zg (zi ((σ.1 p0 0) - (1 : Int32)) 16) (zg (zi a1 8) (zlet (zsI σ ((p0 + 4) + 1 + ((σ.1 p0 0) - (1 : Int32)).toNatClampNeg) a1.toNatClampNeg a2) fun σ4 => some σ4)))
/-! EventCounters$Reader.eventNamed -/
def D_X4_eventNamed_70 (σ : zS) (x0_34 : Int32) : Option (Int32 × zS) :=
  zb (J_X4_fail (3 : Int32) σ) fun σ3 => some (x0_34, σ3)
def D_X4_eventNamed_34 (a1 : Int32) (σ : zS) (x0_34 : Int32) : Option (Int32 × zS) :=
  if (σ.1 63 3) = (0 : Int32) then (zlet (D_X4_eventNamed_70 σ x0_34) fun k70 => if ((σ.1 63 2) - (σ.1 63 4)) = (1 : Int32) then (zb (J_X10_isEvent x0_34 σ) fun r5 => if r5 = (0 : Int32) then (k70) else (zb (J_X10_isOneOf x0_34 a1 σ) fun r7 => if r7 = (0 : Int32) then (some (x0_34, σ)) else (zb (J_X4_fail (4 : Int32) σ) fun σ10 => some (x0_34, σ10)))) else (k70)) else (zb (J_X4_fail (2 : Int32) σ) fun σ12 => some (x0_34, σ12))
def J_X4_eventNamed (a1 : Int32) (σ : zS) : Option (Int32 × zS) :=
  zlet (D_X4_eventNamed_34 a1 σ) fun k34 => if (σ.1 1 1) ≤ (σ.1 63 4) then (k34 (-4 : Int32)) else (zg (zi (σ.1 63 4) 320) (k34 ((σ.1 2 (σ.1 63 4).toNatClampNeg) - (97 : Int32))))
/-! EventCounters$Reader.isFigure -/
def J_X4_isFigure (a0 : Int32) (σ : zS) : Option Int32 :=
  if a0 < (48 : Int32) then (some (0 : Int32)) else (if (57 : Int32) < a0 then (some (0 : Int32)) else (some (1 : Int32)))
/-! EventCounters$Reader.isLetter -/
def J_X4_isLetter (a0 : Int32) (σ : zS) : Option Int32 :=
  if a0 < (97 : Int32) then (some (0 : Int32)) else (if (122 : Int32) < a0 then (some (0 : Int32)) else (some (1 : Int32)))
/-! EventCounters$Reader.takeFigures -/
def D_X4_takeFigures_95 (σ_95 : zS) : Option zS :=
  if ((σ_95.1 63 2) - (σ_95.1 63 4)) ≤ (2 : Int32) then (some σ_95) else (zb (J_X4_fail (1 : Int32) σ_95) fun σ5 => some σ5)
def D_X4_takeFigures_82 (r_10 : zS → Option zS) (σ_82 : zS) : Option zS :=
  zlet (zsI σ_82 63 2 ((σ_82.1 63 2) + (1 : Int32))) fun σ10 => r_10 σ10
def L_X4_takeFigures_10 (k95 : zS → Option zS) : Nat → zS → Option zS
  | 0, _ => none
  | n + 1, σ_10 =>
    zlet (L_X4_takeFigures_10 k95 n) fun r_10 => if (σ_10.1 1 1) ≤ (σ_10.1 63 2) then (k95 σ_10) else (zg (zi (σ_10.1 63 2) 320) (zb (J_X4_isFigure (σ_10.1 2 (σ_10.1 63 2).toNatClampNeg) σ_10) fun r8 => if r8 = (0 : Int32) then (k95 σ_10) else (zlet (D_X4_takeFigures_82 r_10) fun k82 => if (2 : Int32) ≤ ((σ_10.1 63 2) - (σ_10.1 63 4)) then (k82 σ_10) else (zg (zi (σ_10.1 63 2) 320) (zlet (zsI σ_10 63 5 ((((σ_10.1 63 5) * (10 : Int32)) + (σ_10.1 2 (σ_10.1 63 2).toNatClampNeg)) - (48 : Int32))) fun σ13 => k82 σ13)))))
def J_X4_takeFigures (σ : zS) : Option zS :=
  zlet (zsI σ 63 3 (1 : Int32)) fun σ1 => zlet (zsI σ1 63 5 (0 : Int32)) fun σ2 => zlet (D_X4_takeFigures_95) fun k95 => L_X4_takeFigures_10 k95 4294967296 σ2
/-! EventCounters$Reader.takeLetters -/
def L_X4_takeLetters_5 : Nat → zS → Option zS
  | 0, _ => none
  | n + 1, σ_5 =>
    zlet (L_X4_takeLetters_5 n) fun r_5 => if (σ_5.1 1 1) ≤ (σ_5.1 63 2) then (some σ_5) else (zg (zi (σ_5.1 63 2) 320) (zb (J_X4_isLetter (σ_5.1 2 (σ_5.1 63 2).toNatClampNeg) σ_5) fun r4 => if r4 = (0 : Int32) then (some σ_5) else (zlet (zsI σ_5 63 2 ((σ_5.1 63 2) + (1 : Int32))) fun σ6 => r_5 σ6)))
def J_X4_takeLetters (σ : zS) : Option zS :=
  zlet (zsI σ 63 3 (0 : Int32)) fun σ1 => L_X4_takeLetters_5 4294967296 σ1
/-! EventCounters$Reader.takeToken -/
def D_X4_takeToken_44 (σ_44 : zS) : Option zS :=
  zlet (zsI σ_44 63 4 (σ_44.1 63 2)) fun σ1 => if (σ1.1 63 2) < (σ1.1 1 1) then (zg (zi (σ1.1 63 2) 320) (zb (J_X4_isLetter (σ1.1 2 (σ1.1 63 2).toNatClampNeg) σ1) fun r4 => if r4 = (0 : Int32) then (zg (zi (σ1.1 63 2) 320) (zb (J_X4_isFigure (σ1.1 2 (σ1.1 63 2).toNatClampNeg) σ1) fun r7 => if r7 = (0 : Int32) then (zg (zi (σ1.1 63 2) 320) (if (σ1.1 2 (σ1.1 63 2).toNatClampNeg) = (59 : Int32) then (zlet (zsI σ1 63 3 (2 : Int32)) fun σ13 => zlet (zsI σ13 63 2 ((σ13.1 63 2) + (1 : Int32))) fun σ14 => some σ14) else (zb (J_X4_fail (1 : Int32) σ1) fun σ12 => some σ12))) else (zb (J_X4_takeFigures σ1) fun σ16 => some σ16))) else (zb (J_X4_takeLetters σ1) fun σ18 => some σ18))) else (zlet (zsI σ1 63 3 (3 : Int32)) fun σ19 => some σ19)
def L_X4_takeToken_0 (k44 : zS → Option zS) : Nat → zS → Option zS
  | 0, _ => none
  | n + 1, σ_0 =>
    zlet (L_X4_takeToken_0 k44 n) fun r_0 => if (σ_0.1 1 1) ≤ (σ_0.1 63 2) then (k44 σ_0) else (zg (zi (σ_0.1 63 2) 320) (if (σ_0.1 2 (σ_0.1 63 2).toNatClampNeg) = (32 : Int32) then (zlet (zsI σ_0 63 2 ((σ_0.1 63 2) + (1 : Int32))) fun σ23 => r_0 σ23) else (k44 σ_0)))
def J_X4_takeToken (σ : zS) : Option zS :=
  zlet (D_X4_takeToken_44) fun k44 => L_X4_takeToken_0 k44 4294967296 σ
/-! EventCounters$Reader.takeNumber -/
def D_X4_takeNumber_50 (σ2 : zS) : Option zS :=
  zb (J_X4_fail (3 : Int32) σ2) fun σ5 => some σ5
def D_X4_takeNumber_27 (a1 : Int32) (a2 : Int32) (σ2 : zS) : Option zS :=
  if (σ2.1 63 6) = (0 : Int32) then (zlet (D_X4_takeNumber_50 σ2) fun k50 => if (σ2.1 63 5) < a1 then (k50) else (if (σ2.1 63 5) ≤ a2 then (some σ2) else (k50))) else (some σ2)
def J_X4_takeNumber (a1 : Int32) (a2 : Int32) (σ : zS) : Option zS :=
  zb (J_X4_takeToken σ) fun σ2 => zlet (D_X4_takeNumber_27 a1 a2 σ2) fun k27 => if (σ2.1 63 6) = (0 : Int32) then (if (σ2.1 63 3) = (1 : Int32) then (k27) else (zb (J_X4_fail (2 : Int32) σ2) fun σ11 => some σ11)) else (k27)
/-! EventCounters$Reader.readLine -/
def D_X4_readLine_111 (r_52 : Int32 → Int32 → zS → Option zS) (w2_52 : Int32) (w1_111 : Int32) (σ_111 : zS) : Option zS :=
  if (σ_111.1 63 6) = (0 : Int32) then (zb (J_X4_takeToken σ_111) fun σ21 => zlet (w2_52 + (1 : Int32)) fun v22 => r_52 w1_111 v22 σ21) else (zlet (w2_52 + (1 : Int32)) fun v19 => r_52 w1_111 v19 σ_111)
def L_X4_readLine_52 : Nat → Int32 → Int32 → zS → Option zS
  | 0, _, _, _ => none
  | n + 1, w1_52, w2_52, σ_52 =>
    zlet (L_X4_readLine_52 n) fun r_52 => if (8 : Int32) < w2_52 then (some σ_52) else (if (σ_52.1 63 6) = (0 : Int32) then (if (σ_52.1 63 3) = (2 : Int32) then (some σ_52) else (zb2 (J_X4_eventNamed w1_52 σ_52) fun r16 σ17 => zlet (D_X4_readLine_111 r_52 w2_52) fun k111 => if (σ17.1 63 6) = (0 : Int32) then (zlet (w1_52 ||| ((1 : Int32) <<< (r16 &&& 31))) fun v24 => zb (J_X4_takeNumber (0 : Int32) (99 : Int32) σ17) fun σ26 => zlet (σ26.2.2 63 1) fun p27 => zg (zP p27) (zb (J_X3_setEvent p27 r16 (σ26.1 63 5) σ26) fun σ30 => k111 v24 σ30)) else (k111 w1_52 σ17))) else (some σ_52))
def J_X4_readLine (σ : zS) : Option zS :=
  zlet (σ.2.2 63 1) fun p1 => zg (zP p1) (if (σ.1 p1 0) < (16 : Int32) then (zb (J_X4_takeNumber (1 : Int32) (20 : Int32) σ) fun σ5 => if (σ5.1 63 6) = (0 : Int32) then (zlet (σ5.2.2 63 1) fun p7 => zg (zP p7) (zb (J_X3_addLine p7 (σ5.1 63 5) σ5) fun σ10 => zb (J_X4_takeToken σ10) fun σ12 => L_X4_readLine_52 4294967296 (0 : Int32) (0 : Int32) σ12)) else (some σ5)) else (zb (J_X4_fail (5 : Int32) σ) fun σ32 => some σ32))
/-! EventCounters$Program.openLoop -/
def J_X3_openLoop (p0 : Nat) (a1 : Int32) (σ : zS) : Option zS :=
  if (40 : Int32) ≤ (σ.1 p0 5) then (some σ) else (if (σ.1 p0 13) < (4 : Int32) then (zg (zi (σ.1 p0 5) 40) (zlet (zsI σ (p0 + 21) (σ.1 p0 5).toNatClampNeg a1) fun σ4 => zg (zi (σ4.1 p0 5) 40) (zlet (zsI σ4 (p0 + 22) (σ4.1 p0 5).toNatClampNeg (σ4.1 p0 13)) fun σ6 => zg (zi (σ6.1 p0 5) 40) (zlet (zsI σ6 (p0 + 23) (σ6.1 p0 5).toNatClampNeg (σ6.1 p0 14)) fun σ8 => zg (zi (σ8.1 p0 5) 40) (zlet (zsI σ8 (p0 + 24) (σ8.1 p0 5).toNatClampNeg (σ8.1 p0 0)) fun σ10 => zg (zi (σ10.1 p0 5) 40) (zlet (zsI σ10 (p0 + 25) (σ10.1 p0 5).toNatClampNeg (σ10.1 p0 0)) fun σ12 => zg (zi (σ12.1 p0 5) 40) (zlet (zsI σ12 (p0 + 26) (σ12.1 p0 5).toNatClampNeg (σ12.1 p0 15)) fun σ14 => zg (zi (σ14.1 p0 13) 4) (zlet (zsI σ14 (p0 + 27) (σ14.1 p0 13).toNatClampNeg (σ14.1 p0 5)) fun σ16 => zlet (zsI σ16 p0 13 ((σ16.1 p0 13) + (1 : Int32))) fun σ17 => zlet (zsI σ17 p0 14 ((σ17.1 p0 14) * a1)) fun σ18 => zlet (zsI σ18 p0 5 ((σ18.1 p0 5) + (1 : Int32))) fun σ19 => some σ19)))))))) else (some σ))
/-! EventCounters$Reader.takeKind -/
def J_X4_takeKind (a1 : Int32) (σ : zS) : Option zS :=
  zb (J_X4_takeToken σ) fun σ2 => if (σ2.1 63 6) = (0 : Int32) then (if (σ2.1 63 3) = a1 then (some σ2) else (zb (J_X4_fail (2 : Int32) σ2) fun σ6 => some σ6)) else (some σ2)
/-! EventCounters$Reader.readLoop -/
def J_X4_readLoop (σ : zS) : Option zS :=
  zlet (σ.2.2 63 1) fun p1 => zg (zP p1) (if (σ.1 p1 13) < (4 : Int32) then (zb (J_X4_takeNumber (1 : Int32) (99 : Int32) σ) fun σ5 => if (σ5.1 63 6) = (0 : Int32) then (zlet (σ5.2.2 63 1) fun p7 => zg (zP p7) (zb (J_X3_openLoop p7 (σ5.1 63 5) σ5) fun σ10 => zb (J_X4_takeKind (2 : Int32) σ10) fun σ12 => some σ12)) else (some σ5)) else (zb (J_X4_fail (5 : Int32) σ) fun σ14 => some σ14))
/-! EventCounters$Reader.readInto -/
def D_X4_readInto_143 (σ_143 : zS) : Option zS :=
  zb (J_X4_finish σ_143) fun σ12 => some σ12
def D_X4_readInto_126 (r_33 : Int32 → zS → Option zS) (w2_33 : Int32) (σ_126 : zS) : Option zS :=
  if (σ_126.1 63 6) = (0 : Int32) then (zb (J_X4_takeToken σ_126) fun σ20 => zlet (w2_33 + (1 : Int32)) fun v21 => r_33 v21 σ20) else (zlet (w2_33 + (1 : Int32)) fun v18 => r_33 v18 σ_126)
def D_X4_readInto_121 (σ_33 : zS) (k126 : zS → Option zS) : Option zS :=
  zb (J_X4_fail (2 : Int32) σ_33) fun σ27 => k126 σ27
def L_X4_readInto_33 (k143 : zS → Option zS) : Nat → Int32 → zS → Option zS
  | 0, _, _ => none
  | n + 1, w2_33, σ_33 =>
    zlet (L_X4_readInto_33 k143 n) fun r_33 => if (320 : Int32) < w2_33 then (k143 σ_33) else (if (σ_33.1 63 6) = (0 : Int32) then (if (σ_33.1 63 3) = (3 : Int32) then (k143 σ_33) else (zb (J_X4_isWord 0 σ_33) fun r16 => zlet (D_X4_readInto_126 r_33 w2_33) fun k126 => if r16 = (0 : Int32) then (zb (J_X4_isWord 1 σ_33) fun r23 => if r23 = (0 : Int32) then (zb (J_X4_isWord 2 σ_33) fun r25 => zlet (D_X4_readInto_121 σ_33 k126) fun k121 => if r25 = (0 : Int32) then (k121) else (zlet (σ_33.2.2 63 1) fun p29 => zg (zP p29) (if (σ_33.1 p29 13) ≤ (0 : Int32) then (k121) else (zb (J_X4_takeKind (2 : Int32) σ_33) fun σ33 => zlet (σ33.2.2 63 1) fun p34 => zg (zP p34) (zb (J_X3_closeLoop p34 σ33) fun σ37 => k126 σ37))))) else (zb (J_X4_readLoop σ_33) fun σ39 => k126 σ39)) else (zb (J_X4_readLine σ_33) fun σ41 => k126 σ41))) else (k143 σ_33))
def J_X4_readInto (p1 : Nat) (σ : zS) : Option zS :=
  zlet (zsR σ 63 1 p1) fun σ1 => zlet (σ1.2.2 63 1) fun p2 => zg (zP p2) (zb (J_X3_begin p2 σ1) fun σ5 => zlet (zsI σ5 63 2 (0 : Int32)) fun σ6 => zlet (zsI σ6 63 6 (0 : Int32)) fun σ7 => zlet (zsI σ7 63 7 (0 : Int32)) fun σ8 => zb (J_X4_takeToken σ8) fun σ10 => zlet (D_X4_readInto_143) fun k143 => L_X4_readInto_33 k143 4294967296 (0 : Int32) σ10)
/-! EventCounters.program -/
def J_X10_program (σ : zS) : Option (Int32 × zS) :=
  zlet (σ.2.2 0 2) fun p1 => zg (zP p1) (zb (J_X4_readInto p1 σ) fun σ4 => zlet (zsI σ4 0 11 (σ4.1 63 6)) fun σ5 => zlet (zsI σ5 1 1 (0 : Int32)) fun σ6 => if (σ6.1 0 11) = (0 : Int32) then (zlet (σ6.2.2 0 2) fun p8 => zg (zP p8) (zlet (σ6.2.2 0 1) fun p10 => zg (zP p10) (zlet (zsR σ6 0 2 p10) fun σ12 => zlet (zsR σ12 0 1 p8) fun σ13 => zlet (σ13.2.2 0 1) fun p14 => zg (zP p14) (zb (J_X3_timeSteps p14 σ13) fun σ17 => zlet (zsI σ17 92 0 (0 : Int32)) fun σ18 => zlet (σ18.2.2 0 1) fun p19 => zg (zP p19) (some ((σ18.1 p19 0), σ18)))))) else (some (((-10 : Int32) - (σ6.1 63 7)), σ6)))
/-! EventCounters.ratio -/
def D_X10_ratio_99 (a4 : Int32) (σ : zS) (x0_69 : Int32) (x0_99 : Int32) : Option Int32 :=
  if (1 : Int32) ≤ x0_99 then (zlet (if a4 = (0 : Int32) then (1 : Int32) else (0 : Int32)) fun v8 => zlet (x0_99.toInt64) fun v9 => zlet (x0_69.toInt64) fun v10 => zb (J_X10_inLowestTerms v10 v9 v8 σ) fun r11 => some (r11.toInt32)) else (some (-4 : Int32))
def D_X10_ratio_69 (a1 : Int32) (a3 : Int32) (a4 : Int32) (σ : zS) (x0_69 : Int32) : Option Int32 :=
  zlet (D_X10_ratio_99 a4 σ x0_69) fun k99 => if a1 = (-4 : Int32) then (zlet (σ.2.2 0 1) fun p19 => zg (zP p19) (zb (J_X3_total p19 a3 σ) fun r21 => k99 r21)) else (zlet (σ.2.2 0 1) fun p15 => zg (zP p15) (zg (zi a1 16) (zg (zi a3 8) (k99 (σ.1 ((p15 + 4) + 1 + a1.toNatClampNeg) a3.toNatClampNeg)))))
def D_X10_ratio_17 (a1 : Int32) (a2 : Int32) (a3 : Int32) (a4 : Int32) (σ : zS) : Option Int32 :=
  zb (J_X10_isEvent a2 σ) fun r1 => if r1 = (0 : Int32) then (some (-1 : Int32)) else (zb (J_X10_isEvent a3 σ) fun r3 => if r3 = (0 : Int32) then (some (-1 : Int32)) else (zb (J_X10_isEither a4 σ) fun r5 => if r5 = (0 : Int32) then (some (-1 : Int32)) else (zlet (D_X10_ratio_69 a1 a3 a4 σ) fun k69 => if a1 = (-4 : Int32) then (zlet (σ.2.2 0 1) fun p27 => zg (zP p27) (zb (J_X3_total p27 a2 σ) fun r29 => k69 r29)) else (zlet (σ.2.2 0 1) fun p23 => zg (zP p23) (zg (zi a1 16) (zg (zi a2 8) (k69 (σ.1 ((p23 + 4) + 1 + a1.toNatClampNeg) a2.toNatClampNeg))))))))
def J_X10_ratio (a1 : Int32) (a2 : Int32) (a3 : Int32) (a4 : Int32) (σ : zS) : Option Int32 :=
  zlet (D_X10_ratio_17 a1 a2 a3 a4 σ) fun k17 => if a1 = (-4 : Int32) then (k17) else (zlet (σ.2.2 0 1) fun p31 => zg (zP p31) (zb (J_X3_hasLine p31 a1 σ) fun r33 => if r33 = (0 : Int32) then (some (-1 : Int32)) else (k17)))
/-! EventCounters.rounds -/
def D_X10_rounds_23 (a1 : Int32) (a2 : Int32) (σ : zS) : Option (Int32 × zS) :=
  zb2 (J_X0_divide a1 σ) fun r3 σ4 => if (0 : Int32) ≤ r3 then (if a2 = (0 : Int32) then (some (r3, σ4)) else (if r3 ≤ (a2 - (10 : Int32)) then (some ((-1 : Int32), σ4)) else (zg (zi (a2 - (10 : Int32)) 8) (some ((σ4.1 85 (a2 - (10 : Int32)).toNatClampNeg), σ4))))) else (some ((-4 : Int32), σ4))
def J_X10_rounds (a1 : Int32) (a2 : Int32) (σ : zS) : Option (Int32 × zS) :=
  zb (J_X10_isSet a1 σ) fun r1 => if r1 = (0 : Int32) then (some ((-1 : Int32), σ)) else (zlet (D_X10_rounds_23 a1 a2 σ) fun k23 => if a2 = (0 : Int32) then (k23) else (zb (J_X10_isEvent (a2 - (10 : Int32)) σ) fun r10 => if r10 = (0 : Int32) then (some ((-1 : Int32), σ)) else (k23)))
/-! EventCounters$Runs.add -/
def J_X5_add (a1 : Int32) (a2 : Int32) (a3 : Int32) (σ : zS) : Option (Int32 × zS) :=
  if (σ.1 92 0) < (12 : Int32) then (zg (zi (σ.1 92 0) 12) (zlet (zsI σ 93 (σ.1 92 0).toNatClampNeg a1) fun σ3 => zg (zi (σ3.1 92 0) 12) (zlet (zsI σ3 94 (σ3.1 92 0).toNatClampNeg a2) fun σ5 => zg (zi (σ5.1 92 0) 12) (zlet (zsI σ5 95 (σ5.1 92 0).toNatClampNeg a3) fun σ7 => zlet (zsI σ7 92 0 ((σ7.1 92 0) + (1 : Int32))) fun σ8 => some ((1 : Int32), σ8))))) else (some ((0 : Int32), σ))
/-! EventCounters.run -/
def J_X10_run (a1 : Int32) (a2 : Int32) (a3 : Int32) (σ : zS) : Option (Int32 × zS) :=
  zb (J_X0_has a1 σ) fun r1 => if r1 = (0 : Int32) then (some ((-1 : Int32), σ)) else (zb (J_X10_isEvent a2 σ) fun r3 => if r3 = (0 : Int32) then (some ((-1 : Int32), σ)) else (if a3 < (0 : Int32) then (some ((-1 : Int32), σ)) else (if a3 ≤ (999999 : Int32) then (zb2 (J_X5_add a1 a2 a3 σ) fun r7 σ8 => if r7 = (0 : Int32) then (some ((-3 : Int32), σ8)) else (some ((σ8.1 92 0), σ8))) else (some ((-1 : Int32), σ)))))
/-! EventCounters$Sheets.compare -/
def D_X7_compare_98 (a5 : Int32) (w6_98 : Int32) (w7_98 : Int32) (w8_98 : Int32) (w9_98 : Int32) : Option Int32 :=
  if a5 = (0 : Int32) then (some w6_98) else if a5 = (1 : Int32) then (some w7_98) else if a5 = (2 : Int32) then (some w8_98) else (some w9_98)
def L_X7_compare_16 (a1 : Int32) (a2 : Int32) (p3 : Nat) (a4 : Int32) (σ : zS) (k98 : Int32 → Int32 → Int32 → Int32 → Option Int32) : Nat → Int32 → Int32 → Int32 → Int32 → Int32 → Option Int32
  | 0, _, _, _, _, _ => none
  | n + 1, w6_16, w7_16, w8_16, w9_16, w10_16 =>
    zlet (L_X7_compare_16 a1 a2 p3 a4 σ k98 n) fun r_16 => if (σ.1 p3 0) ≤ w10_16 then (k98 w6_16 w7_16 w8_16 w9_16) else (zg (zi a1 4) (zg (zi (a2 + w10_16) 40) (zb (J_X3_made p3 w10_16 a4 σ) fun r7 => zlet ((σ.1 (100 + 1 + a1.toNatClampNeg) (a2 + w10_16).toNatClampNeg) - r7) fun v8 => zlet (if v8 = (0 : Int32) then (w6_16 + (1 : Int32)) else (if w7_16 = (-4 : Int32) then w6_16 else w6_16)) fun v9 => zlet (if v8 = (0 : Int32) then w7_16 else (if w7_16 = (-4 : Int32) then w10_16 else w7_16)) fun v10 => zlet (if v8 < (0 : Int32) then (0 : Int32) else v8) fun v11 => zlet (w8_16 + v11) fun v12 => zlet (if (-v8) < (0 : Int32) then (0 : Int32) else (-v8)) fun v13 => zlet (w9_16 + v13) fun v14 => zlet (w10_16 + (1 : Int32)) fun v15 => r_16 v9 v10 v12 v14 v15)))
def J_X7_compare (a1 : Int32) (a2 : Int32) (p3 : Nat) (a4 : Int32) (a5 : Int32) (σ : zS) : Option Int32 :=
  zlet (D_X7_compare_98 a5) fun k98 => L_X7_compare_16 a1 a2 p3 a4 σ k98 4294967296 (0 : Int32) (-4 : Int32) (0 : Int32) (0 : Int32) (0 : Int32)
/-! EventCounters$Sheets.faultOf -/
def L_X7_faultOf_28 (a1 : Int32) (a3 : Int32) (a4 : Int32) (σ : zS) : Nat → Int32 → Option Int32
  | 0, _ => none
  | n + 1, w5_28 =>
    zlet (L_X7_faultOf_28 a1 a3 a4 σ n) fun r_28 => if a4 ≤ w5_28 then (some (0 : Int32)) else (zlet ((a3.toInt64) + (w5_28.toInt64)) fun v6 => if (lg_cmp v6 (0 : Int64)) < (0 : Int32) then (some (-12 : Int32)) else (zg (zi a1 4) (if (lg_cmp v6 ((σ.1 99 a1.toNatClampNeg).toInt64)) < (0 : Int32) then (zg (zi a1 4) (zg (zi (v6.toInt32) 40) (if (σ.1 (100 + 1 + a1.toNatClampNeg) (v6.toInt32).toNatClampNeg) < (0 : Int32) then (some ((-20 : Int32) - w5_28)) else (zg (zi a1 4) (zg (zi (v6.toInt32) 40) (if (σ.1 (100 + 1 + a1.toNatClampNeg) (v6.toInt32).toNatClampNeg) ≤ (999999 : Int32) then (zlet (w5_28 + (1 : Int32)) fun v16 => r_28 v16) else (some ((-20 : Int32) - w5_28)))))))) else (some (-12 : Int32)))))
def J_X7_faultOf (a1 : Int32) (a2 : Int32) (a3 : Int32) (a4 : Int32) (σ : zS) : Option Int32 :=
  zg (zi a1 4) (if (0 : Int32) ≤ (σ.1 99 a1.toNatClampNeg) then (zg (zi a1 4) (if (σ.1 98 a1.toNatClampNeg) = a2 then (L_X7_faultOf_28 a1 a3 a4 σ 4294967296 (0 : Int32)) else (some (-13 : Int32)))) else (some (-11 : Int32)))
/-! EventCounters$Sheets.hasLane -/
def J_X7_hasLane (a1 : Int32) (σ : zS) : Option Int32 :=
  if a1 < (0 : Int32) then (some (0 : Int32)) else (if (2 : Int32) < a1 then (some (0 : Int32)) else (some (1 : Int32)))
/-! EventCounters.said -/
def J_X10_said (a1 : Int32) (a2 : Int32) (a3 : Int32) (a4 : Int32) (a5 : Int32) (σ : zS) : Option Int32 :=
  zb (J_X7_has a1 σ) fun r1 => if r1 = (0 : Int32) then (some (-1 : Int32)) else (zb (J_X7_hasLane a2 σ) fun r3 => if r3 = (0 : Int32) then (some (-1 : Int32)) else (zb (J_X10_isEvent a4 σ) fun r5 => if r5 = (0 : Int32) then (some (-1 : Int32)) else (if a5 < (0 : Int32) then (some (-1 : Int32)) else (if a5 ≤ (3 : Int32) then (zlet (σ.2.2 0 1) fun p9 => zg (zP p9) (zb (J_X7_faultOf a1 a2 a3 (σ.1 p9 0) σ) fun r11 => if r11 = (0 : Int32) then (zlet (σ.2.2 0 1) fun p13 => zg (zP p13) (zb (J_X7_compare a1 a3 p13 a4 a5 σ) fun r15 => some r15)) else (some r11))) else (some (-1 : Int32))))))
/-! EventCounters$Samples.lineShownMost -/
def L_X6_lineShownMost_7 (σ : zS) : Nat → Int32 → Int32 → Int32 → Option Int32
  | 0, _, _, _ => none
  | n + 1, w1_7, w2_7, w3_7 =>
    zlet (L_X6_lineShownMost_7 σ n) fun r_7 => if (16 : Int32) ≤ w3_7 then (some w1_7) else (zg (zi w3_7 16) (if (σ.1 90 w3_7.toNatClampNeg) ≤ w2_7 then (zlet (w3_7 + (1 : Int32)) fun v4 => r_7 w1_7 w2_7 v4) else (zg (zi w3_7 16) (zlet (σ.1 90 w3_7.toNatClampNeg) fun v6 => zlet (w3_7 + (1 : Int32)) fun v7 => r_7 w3_7 v6 v7))))
def J_X6_lineShownMost (σ : zS) : Option Int32 :=
  L_X6_lineShownMost_7 σ 4294967296 (-4 : Int32) (0 : Int32) (0 : Int32)
/-! EventCounters.samples -/
def J_X10_samples (a1 : Int32) (a2 : Int32) (a3 : Int32) (a4 : Int32) (a5 : Int32) (σ : zS) : Option (Int32 × zS) :=
  zb (J_X10_areSamples a1 a2 a3 a4 σ) fun r1 => if r1 = (0 : Int32) then (some ((-1 : Int32), σ)) else (if a5 < (0 : Int32) then (some ((-1 : Int32), σ)) else (if a5 ≤ (5 : Int32) then (zlet (σ.2.2 0 1) fun p5 => zg (zP p5) (zb (J_X6_take p5 a1 a2 a3 a4 σ) fun σ8 => if a5 = (0 : Int32) then (some (((σ8.1 89 2) + (σ8.1 89 1)), σ8)) else if a5 = (1 : Int32) then (some ((σ8.1 89 2), σ8)) else if a5 = (2 : Int32) then (zb (J_X6_linesShown σ8) fun r12 => some (r12, σ8)) else if a5 = (3 : Int32) then (zlet (σ8.2.2 0 1) fun p14 => zg (zP p14) (zb (J_X3_linesThatMake p14 a1 σ8) fun r16 => zb (J_X6_linesShown σ8) fun r17 => some ((r16 &&& (r17 ^^^ (-1 : Int32))), σ8))) else if a5 = (4 : Int32) then (zb (J_X6_linesShown σ8) fun r19 => zlet (σ8.2.2 0 1) fun p20 => zg (zP p20) (zb (J_X3_linesThatMake p20 a1 σ8) fun r22 => some ((r19 &&& (r22 ^^^ (-1 : Int32))), σ8))) else (zb (J_X6_lineShownMost σ8) fun r23 => some (r23, σ8)))) else (some ((-1 : Int32), σ))))
/-! EventCounters.scaled -/
def D_X10_scaled_122 (a4 : Int32) (σ14 : zS) (x0_122 : Int64) : Option (Int64 × zS) :=
  zlet (if (a4 - a4 / (2 : Int32) * (2 : Int32)) = (0 : Int32) then (1 : Int32) else (0 : Int32)) fun v16 => zlet ((σ14.1 88 1).toInt64) fun v17 => zb (J_X10_inLowestTerms x0_122 v17 v16 σ14) fun r18 => some (r18, σ14)
def J_X10_scaled (a1 : Int32) (a2 : Int32) (a3 : Int32) (a4 : Int32) (σ : zS) : Option (Int64 × zS) :=
  zb (J_X10_isOneOf a3 a1 σ) fun r1 => if r1 = (0 : Int32) then (some ((-1000000000000 : Int64), σ)) else (zb (J_X10_isSlice a2 σ) fun r3 => if r3 = (0 : Int32) then (some ((-1000000000000 : Int64), σ)) else (if a4 < (0 : Int32) then (some ((-1000000000000 : Int64), σ)) else (if a4 ≤ (3 : Int32) then (zb2 (J_X0_divide a1 σ) fun r7 σ8 => if (1 : Int32) ≤ r7 then (zlet (σ8.2.2 0 1) fun p10 => zg (zP p10) (zb (J_X0_roundOf a3 r7 σ8) fun r12 => zb (J_X9_take p10 a2 r7 r12 a3 σ8) fun σ14 => if (1 : Int32) ≤ (σ14.1 88 1) then (zlet (D_X10_scaled_122 a4 σ14) fun k122 => if (2 : Int32) ≤ a4 then (zlet (σ14.2.2 0 1) fun p22 => zg (zP p22) (zb (J_X9_off p22 a3 σ14) fun r24 => k122 r24)) else (zlet (σ14.2.2 0 1) fun p25 => zg (zP p25) (zb (J_X9_scaledUp p25 σ14) fun r27 => k122 r27))) else (some ((-1000000000004 : Int64), σ14)))) else (some ((-1000000000004 : Int64), σ8))) else (some ((-1000000000000 : Int64), σ)))))
/-! EventCounters$Looks.loses -/
def D_X2_loses_79 (σ : zS) (w7_79 : Int32) (w8_79 : Int32) : Option (Int32 × zS) :=
  zlet (zsI σ 91 2 w7_79) fun σ1 => zlet (zsI σ1 91 3 w8_79) fun σ2 => some ((1 : Int32), σ2)
def L_X2_loses_12 (p1 : Nat) (a2 : Int32) (a3 : Int32) (a4 : Int32) (σ : zS) (k79 : Int32 → Int32 → Option (Int32 × zS)) : Nat → Int32 → Int32 → Int32 → Int32 → Option (Int32 × zS)
  | 0, _, _, _, _ => none
  | n + 1, w5_12, w6_12, w7_12, w8_12 =>
    zlet (L_X2_loses_12 p1 a2 a3 a4 σ k79 n) fun r_12 => if (σ.1 p1 15) ≤ w8_12 then (some ((0 : Int32), σ)) else (zb (J_X3_sliceOf p1 w8_12 a3 σ) fun r4 => zlet (if r4 = w5_12 then w5_12 else r4) fun v5 => zlet (if r4 = w5_12 then w6_12 else (0 : Int32)) fun v6 => zlet (if v6 = (0 : Int32) then w8_12 else w7_12) fun v7 => zg (zi w8_12 6000) (zg (zi (σ.1 (p1 + 28) w8_12.toNatClampNeg) 16) (zg (zi a2 8) (zlet (v6 + (σ.1 ((p1 + 4) + 1 + (σ.1 (p1 + 28) w8_12.toNatClampNeg).toNatClampNeg) a2.toNatClampNeg)) fun v11 => if v11 ≤ a4 then (zlet (w8_12 + (1 : Int32)) fun v13 => r_12 v5 v11 v7 v13) else (k79 v7 w8_12)))))
def J_X2_loses (p1 : Nat) (a2 : Int32) (a3 : Int32) (a4 : Int32) (σ : zS) : Option (Int32 × zS) :=
  zlet (D_X2_loses_79 σ) fun k79 => L_X2_loses_12 p1 a2 a3 a4 σ k79 4294967296 (0 : Int32) (0 : Int32) (0 : Int32) (0 : Int32)
/-! EventCounters$Looks.longestWithoutLoss -/
def D_X2_longestWithoutLoss_47 (p1 : Nat) (a2 : Int32) (a3 : Int32) (r_8 : Int32 → Int32 → zS → Option (Int32 × zS)) (w5_8 : Int32) (σ_8 : zS) (x0_47 : Int32) : Option (Int32 × zS) :=
  if x0_47 = (0 : Int32) then (zb2 (J_X2_loses p1 a2 w5_8 a3 σ_8) fun r4 σ5 => if r4 = (0 : Int32) then (some (w5_8, σ5)) else (zlet (w5_8 + (-1 : Int32)) fun v7 => r_8 (1 : Int32) v7 σ5)) else (zlet (w5_8 + (-1 : Int32)) fun v3 => r_8 (1 : Int32) v3 σ_8)
def L_X2_longestWithoutLoss_8 (p1 : Nat) (a2 : Int32) (a3 : Int32) : Nat → Int32 → Int32 → zS → Option (Int32 × zS)
  | 0, _, _, _ => none
  | n + 1, w4_8, w5_8, σ_8 =>
    zlet (L_X2_longestWithoutLoss_8 p1 a2 a3 n) fun r_8 => if w5_8 < (1 : Int32) then (some ((-4 : Int32), σ_8)) else (zlet (D_X2_longestWithoutLoss_47 p1 a2 a3 r_8 w5_8 σ_8) fun k47 => if w4_8 = (0 : Int32) then (k47 (0 : Int32)) else (zb (J_X3_sliceOf p1 (σ_8.1 91 2) w5_8 σ_8) fun r9 => zb (J_X3_sliceOf p1 (σ_8.1 91 3) w5_8 σ_8) fun r10 => if r9 = r10 then (k47 (1 : Int32)) else (k47 (0 : Int32))))
def J_X2_longestWithoutLoss (p1 : Nat) (a2 : Int32) (a3 : Int32) (σ : zS) : Option (Int32 × zS) :=
  L_X2_longestWithoutLoss_8 p1 a2 a3 4294967296 (0 : Int32) (999 : Int32) σ
/-! EventCounters.seldom -/
def J_X10_seldom (a1 : Int32) (a2 : Int32) (σ : zS) : Option (Int32 × zS) :=
  zb (J_X0_counts a1 a2 σ) fun r1 => if r1 = (0 : Int32) then (some ((-1 : Int32), σ)) else (zlet (σ.2.2 0 1) fun p3 => zg (zP p3) (zb (J_X0_greatest a1 σ) fun r5 => zb2 (J_X2_longestWithoutLoss p3 a2 r5 σ) fun r6 σ7 => some (r6, σ7)))
/-! EventCounters$Sheets.renew -/
def L_X7_renew_17 (a1 : Int32) : Nat → Int32 → zS → Option zS
  | 0, _, _ => none
  | n + 1, w4_17, σ_17 =>
    zlet (L_X7_renew_17 a1 n) fun r_17 => if (40 : Int32) ≤ w4_17 then (some σ_17) else (zg (zi a1 4) (zg (zi w4_17 40) (zlet (zsI σ_17 (100 + 1 + a1.toNatClampNeg) w4_17.toNatClampNeg (0 : Int32)) fun σ8 => zlet (w4_17 + (1 : Int32)) fun v9 => r_17 v9 σ8)))
def J_X7_renew (a1 : Int32) (a2 : Int32) (a3 : Int32) (σ : zS) : Option zS :=
  zg (zi a1 4) (zlet (zsI σ 98 a1.toNatClampNeg a2) fun σ2 => zg (zi a1 4) (zlet (zsI σ2 99 a1.toNatClampNeg a3) fun σ4 => L_X7_renew_17 a1 4294967296 (0 : Int32) σ4))
/-! EventCounters.sheet -/
def J_X10_sheet (a1 : Int32) (a2 : Int32) (a3 : Int32) (σ : zS) : Option (Int32 × zS) :=
  zb (J_X7_has a1 σ) fun r1 => if r1 = (0 : Int32) then (some ((-1 : Int32), σ)) else (zb (J_X7_hasLane a2 σ) fun r3 => if r3 = (0 : Int32) then (some ((-1 : Int32), σ)) else (if a3 ≤ (40 : Int32) then (if (0 : Int32) ≤ a3 then (zb (J_X7_renew a1 a2 a3 σ) fun σ8 => some ((1 : Int32), σ8)) else (some ((-14 : Int32), σ))) else (some ((-1 : Int32), σ))))
/-! EventCounters.shows -/
def J_X10_shows (a1 : Int32) (a2 : Int32) (a3 : Int32) (a4 : Int32) (a5 : Int32) (σ : zS) : Option (Int32 × zS) :=
  zb (J_X10_areSamples a1 a2 a3 a4 σ) fun r1 => if r1 = (0 : Int32) then (some ((-1 : Int32), σ)) else (zlet (σ.2.2 0 1) fun p3 => zg (zP p3) (zb (J_X3_hasLine p3 a5 σ) fun r5 => if r5 = (0 : Int32) then (some ((-1 : Int32), σ)) else (zlet (σ.2.2 0 1) fun p7 => zg (zP p7) (zb (J_X6_take p7 a1 a2 a3 a4 σ) fun σ10 => zg (zi a5 16) (some ((σ10.1 90 a5.toNatClampNeg), σ10))))))
/-! EventCounters.sliced -/
def J_X10_sliced (a1 : Int32) (a2 : Int32) (a3 : Int32) (a4 : Int32) (σ : zS) : Option (Int32 × zS) :=
  zb (J_X10_isOneOf a3 a1 σ) fun r1 => if r1 = (0 : Int32) then (some ((-1 : Int32), σ)) else (zb (J_X10_isSlice a2 σ) fun r3 => if r3 = (0 : Int32) then (some ((-1 : Int32), σ)) else (zb (J_X10_isEither a4 σ) fun r5 => if r5 = (0 : Int32) then (some ((-1 : Int32), σ)) else (zb2 (J_X0_divide a1 σ) fun r7 σ8 => if (1 : Int32) ≤ r7 then (zlet (σ8.2.2 0 1) fun p10 => zg (zP p10) (zb (J_X0_roundOf a3 r7 σ8) fun r12 => zb (J_X9_take p10 a2 r7 r12 a3 σ8) fun σ14 => if a4 = (0 : Int32) then (some ((σ14.1 88 0), σ14)) else (some ((σ14.1 88 1), σ14)))) else (some ((-4 : Int32), σ8)))))
/-! EventCounters.step -/
def J_X10_step (a1 : Int32) (σ : zS) : Option Int32 :=
  if a1 < (0 : Int32) then (some (-1 : Int32)) else (zlet (σ.2.2 0 1) fun p2 => zg (zP p2) (if (σ.1 p2 15) ≤ a1 then (some (-1 : Int32)) else (zlet (σ.2.2 0 1) fun p5 => zg (zP p5) (zg (zi a1 6000) (some (σ.1 (p5 + 28) a1.toNatClampNeg))))))
/-! EventCounters.together -/
def J_X10_together (a1 : Int32) (σ : zS) : Option Int32 :=
  zb (J_X10_isSet a1 σ) fun r1 => if r1 = (0 : Int32) then (some (-1 : Int32)) else (zb (J_X0_canPlace 7 a1 (0 : Int32) σ) fun r3 => if r3 = (0 : Int32) then (some (0 : Int32)) else (some (1 : Int32)))
/-! EventCounters.truest -/
def L_X10_truest_41 (a1 : Int32) (a3 : Int32) (a4 : Int32) : Nat → Int32 → Int64 → Int64 → Int32 → zS → Option (Int32 × zS)
  | 0, _, _, _, _, _ => none
  | n + 1, w5_41, w6_41, w8_41, w10_41, σ_41 =>
    zlet (L_X10_truest_41 a1 a3 a4 n) fun r_41 => if a3 < w10_41 then (some (w5_41, σ_41)) else (zlet (σ_41.2.2 0 1) fun p7 => zg (zP p7) (zb (J_X6_take p7 a1 w10_41 (0 : Int32) a4 σ_41) fun σ10 => zlet (σ10.2.2 0 1) fun p11 => zg (zP p11) (zb (J_X6_farFrom p11 a1 σ10) fun r13 => zlet (if (σ10.1 89 1) ≤ (0 : Int32) then w5_41 else (if w5_41 = (-4 : Int32) then w10_41 else (if (0 : Int32) ≤ (lg_cmp (r13 * w8_41) (w6_41 * ((σ10.1 89 1).toInt64))) then w5_41 else w10_41))) fun v14 => zlet (if (σ10.1 89 1) ≤ (0 : Int32) then w6_41 else (if w5_41 = (-4 : Int32) then r13 else (if (0 : Int32) ≤ (lg_cmp (r13 * w8_41) (w6_41 * ((σ10.1 89 1).toInt64))) then w6_41 else r13))) fun v15 => zlet (if (σ10.1 89 1) ≤ (0 : Int32) then w8_41 else (if w5_41 = (-4 : Int32) then ((σ10.1 89 1).toInt64) else (if (0 : Int32) ≤ (lg_cmp (r13 * w8_41) (w6_41 * ((σ10.1 89 1).toInt64))) then w8_41 else ((σ10.1 89 1).toInt64)))) fun v16 => zlet (w10_41 + (1 : Int32)) fun v17 => r_41 v14 v15 v16 v17 σ10)))
def J_X10_truest (a1 : Int32) (a2 : Int32) (a3 : Int32) (a4 : Int32) (σ : zS) : Option (Int32 × zS) :=
  zb (J_X10_areSamples a1 a2 (0 : Int32) a4 σ) fun r1 => if r1 = (0 : Int32) then (some ((-1 : Int32), σ)) else (if (9999 : Int32) < a3 then (some ((-1 : Int32), σ)) else (zb (J_X10_isRange a2 a3 σ) fun r4 => if r4 = (0 : Int32) then (some ((-1 : Int32), σ)) else (L_X10_truest_41 a1 a3 a4 4294967296 (-4 : Int32) (0 : Int64) (1 : Int64) a2 σ)))
/-! EventCounters$Program.totalIn -/
def J_X3_totalIn (p0 : Nat) (a1 : Int32) (a2 : Int32) (σ : zS) : Option Int32 :=
  zg (zi a1 40) (zg (zi a1 40) (zb (J_X3_totalBetween p0 (σ.1 (p0 + 24) a1.toNatClampNeg) (σ.1 (p0 + 25) a1.toNatClampNeg) a2 σ) fun r3 => some r3))
/-! EventCounters.went -/
def D_X10_went_131 (v15 : Int32) (x0_82 : Int32) (x0_131 : Int32) : Option Int32 :=
  if x0_131 = (0 : Int32) then (some (-4 : Int32)) else (zn x0_82 (some (v15 / x0_82)))
def D_X10_went_82 (v15 : Int32) (x0_82 : Int32) : Option Int32 :=
  if (1 : Int32) ≤ x0_82 then (zlet (D_X10_went_131 v15 x0_82) fun k131 => if v15 < (0 : Int32) then (k131 (0 : Int32)) else (zn x0_82 (if (v15 - v15 / x0_82 * x0_82) = (0 : Int32) then (zn x0_82 (if (9999 : Int32) < (v15 / x0_82) then (k131 (0 : Int32)) else (k131 (1 : Int32)))) else (k131 (0 : Int32))))) else (if v15 = (0 : Int32) then (some (0 : Int32)) else (some (-4 : Int32)))
def J_X10_went (a1 : Int32) (a2 : Int32) (a3 : Int32) (σ : zS) : Option Int32 :=
  zlet (σ.2.2 0 1) fun p1 => zg (zP p1) (zb (J_X3_hasLoop p1 a1 σ) fun r3 => if r3 = (0 : Int32) then (some (-1 : Int32)) else (zb (J_X10_isEvent a2 σ) fun r5 => if r5 = (0 : Int32) then (some (-1 : Int32)) else (if a3 < (0 : Int32) then (some (-1 : Int32)) else (if a3 ≤ (999999 : Int32) then (zlet (σ.2.2 0 1) fun p9 => zg (zP p9) (zb (J_X3_totalIn p9 a1 a2 σ) fun r11 => zlet (σ.2.2 0 1) fun p12 => zg (zP p12) (zb (J_X3_total p12 a2 σ) fun r14 => zlet (a3 - (r14 - r11)) fun v15 => zlet (σ.2.2 0 1) fun p16 => zg (zP p16) (zg (zi a1 40) (zlet (σ.1 (p16 + 21) a1.toNatClampNeg) fun v19 => zlet (D_X10_went_82 v15) fun k82 => if (1 : Int32) ≤ v19 then (zn v19 (k82 (r11 / v19))) else (k82 (0 : Int32))))))) else (some (-1 : Int32))))))
/-! EventCounters.whole -/
def J_X10_whole (a1 : Int32) (σ : zS) : Option Int32 :=
  if a1 = (0 : Int32) then (zlet (σ.2.2 0 1) fun p11 => zg (zP p11) (some (σ.1 p11 15))) else (if a1 = (1 : Int32) then (zlet (σ.2.2 0 1) fun p8 => zg (zP p8) (zb (J_X3_allTicks p8 σ) fun r10 => some r10)) else (zb (J_X10_isEvent (a1 - (10 : Int32)) σ) fun r3 => if r3 = (0 : Int32) then (some (-1 : Int32)) else (zlet (σ.2.2 0 1) fun p5 => zg (zP p5) (zb (J_X3_total p5 (a1 - (10 : Int32)) σ) fun r7 => some r7))))
/-! EventCounters.width -/
def J_X10_width (a1 : Int32) (a2 : Int32) (σ : zS) : Option (Int32 × zS) :=
  zb (J_X0_has a1 σ) fun r1 => if r1 = (0 : Int32) then (some ((-1 : Int32), σ)) else (if a2 < (2 : Int32) then (some ((-1 : Int32), σ)) else (if a2 ≤ (16 : Int32) then (zg (zi a1 4) (zlet (σ.1 84 a1.toNatClampNeg) fun v6 => zg (zi a1 4) (zlet (zsI σ 84 a1.toNatClampNeg a2) fun σ8 => some (v6, σ8)))) else (some ((-1 : Int32), σ))))
/-! EventCounters$Runs.addGuess -/
def J_X5_addGuess (a1 : Int32) (σ : zS) : Option zS :=
  if (36 : Int32) ≤ (σ.1 92 4) then (some σ) else (zg (zi (σ.1 92 4) 36) (zlet (zsI σ 96 (σ.1 92 4).toNatClampNeg a1) fun σ3 => zlet (zsI σ3 92 4 ((σ3.1 92 4) + (1 : Int32))) fun σ4 => some σ4))
/-! EventCounters$Runs.isOf -/
def J_X5_isOf (a1 : Int32) (a2 : Int32) (a3 : Int32) (σ : zS) : Option Int32 :=
  zg (zi a1 12) (if (σ.1 93 a1.toNatClampNeg) = a2 then (zg (zi a1 12) (if (σ.1 94 a1.toNatClampNeg) = a3 then (some (1 : Int32)) else (some (0 : Int32)))) else (some (0 : Int32)))
/-! EventCounters$Runs.allShowed -/
def L_X5_allShowed_3 (a1 : Int32) (a2 : Int32) (a3 : Int32) (σ : zS) : Nat → Int32 → Option Int32
  | 0, _ => none
  | n + 1, w4_3 =>
    zlet (L_X5_allShowed_3 a1 a2 a3 σ n) fun r_3 => if (σ.1 92 0) ≤ w4_3 then (some (1 : Int32)) else (zb (J_X5_isOf w4_3 a1 a2 σ) fun r2 => if r2 = (0 : Int32) then (zlet (w4_3 + (1 : Int32)) fun v4 => r_3 v4) else (zg (zi w4_3 12) (if (σ.1 95 w4_3.toNatClampNeg) = a3 then (zlet (w4_3 + (1 : Int32)) fun v7 => r_3 v7) else (some (0 : Int32)))))
def J_X5_allShowed (a1 : Int32) (a2 : Int32) (a3 : Int32) (σ : zS) : Option Int32 :=
  L_X5_allShowed_3 a1 a2 a3 σ 4294967296 (0 : Int32)
/-! EventCounters$Runs.totalOf -/
def L_X5_totalOf_4 (p0 : Nat) (a1 : Int32) (σ : zS) : Nat → Int32 → Int32 → Option Int32
  | 0, _, _ => none
  | n + 1, w2_4, w3_4 =>
    zlet (L_X5_totalOf_4 p0 a1 σ n) fun r_4 => if (8 : Int32) ≤ w3_4 then (some w2_4) else (zb (J_X10_isOneOf w3_4 a1 σ) fun r2 => if r2 = (0 : Int32) then (zlet (w3_4 + (1 : Int32)) fun v4 => r_4 w2_4 v4) else (zb (J_X3_total p0 w3_4 σ) fun r5 => zlet (w2_4 + r5) fun v6 => zlet (w3_4 + (1 : Int32)) fun v7 => r_4 v6 v7))
def J_X5_totalOf (p0 : Nat) (a1 : Int32) (σ : zS) : Option Int32 :=
  L_X5_totalOf_4 p0 a1 σ 4294967296 (0 : Int32) (0 : Int32)
/-! EventCounters$Runs.guess -/
def D_X5_guess_62 (r_8 : Int32 → zS → Option zS) (w4_8 : Int32) (σ_62 : zS) : Option zS :=
  zlet (w4_8 + (1 : Int32)) fun v3 => r_8 v3 σ_62
def L_X5_guess_17 (p1 : Nat) (a2 : Int32) (a3 : Int32) (w4_8 : Int32) (k62 : zS → Option zS) : Nat → Int32 → zS → Option zS
  | 0, _, _ => none
  | n + 1, w5_17, σ_17 =>
    zlet (L_X5_guess_17 p1 a2 a3 w4_8 k62 n) fun r_17 => if (256 : Int32) ≤ w5_17 then (k62 σ_17) else (zb (J_J6_bitCount_0f7a4 w5_17 σ_17) fun r5 => if r5 = w4_8 then (zb (J_X5_totalOf p1 w5_17 σ_17) fun r8 => zb (J_X5_allShowed a2 a3 r8 σ_17) fun r9 => if r9 = (0 : Int32) then (zlet (w5_17 + (1 : Int32)) fun v11 => r_17 v11 σ_17) else (zb (J_X5_addGuess w5_17 σ_17) fun σ13 => zlet (w5_17 + (1 : Int32)) fun v14 => r_17 v14 σ13)) else (zlet (w5_17 + (1 : Int32)) fun v7 => r_17 v7 σ_17))
def L_X5_guess_8 (p1 : Nat) (a2 : Int32) (a3 : Int32) : Nat → Int32 → zS → Option zS
  | 0, _, _ => none
  | n + 1, w4_8, σ_8 =>
    zlet (L_X5_guess_8 p1 a2 a3 n) fun r_8 => if (2 : Int32) < w4_8 then (some σ_8) else (zlet (D_X5_guess_62 r_8 w4_8) fun k62 => L_X5_guess_17 p1 a2 a3 w4_8 k62 4294967296 (1 : Int32) σ_8)
def J_X5_guess (p1 : Nat) (a2 : Int32) (a3 : Int32) (σ : zS) : Option zS :=
  zlet (zsI σ 92 4 (0 : Int32)) fun σ1 => L_X5_guess_8 p1 a2 a3 4294967296 (1 : Int32) σ1
/-! EventCounters$Runs.hasOneOf -/
def L_X5_hasOneOf_2 (a1 : Int32) (a2 : Int32) (σ : zS) : Nat → Int32 → Option Int32
  | 0, _ => none
  | n + 1, w3_2 =>
    zlet (L_X5_hasOneOf_2 a1 a2 σ n) fun r_2 => if (σ.1 92 0) ≤ w3_2 then (some (0 : Int32)) else (zb (J_X5_isOf w3_2 a1 a2 σ) fun r2 => if r2 = (0 : Int32) then (zlet (w3_2 + (1 : Int32)) fun v4 => r_2 v4) else (some (1 : Int32)))
def J_X5_hasOneOf (a1 : Int32) (a2 : Int32) (σ : zS) : Option Int32 :=
  L_X5_hasOneOf_2 a1 a2 σ 4294967296 (0 : Int32)
/-! EventCounters.wired -/
def D_X10_wired_30 (a1 : Int32) (a2 : Int32) (a3 : Int32) (σ : zS) : Option (Int32 × zS) :=
  zb (J_X5_hasOneOf a1 a2 σ) fun r5 => if r5 = (0 : Int32) then (if a3 = (0 : Int32) then (some ((-4 : Int32), σ)) else (some ((-1 : Int32), σ))) else (zlet (σ.2.2 0 1) fun p7 => zg (zP p7) (zb (J_X5_guess p7 a1 a2 σ) fun σ10 => if a3 = (0 : Int32) then (some ((σ10.1 92 4), σ10)) else (if (σ10.1 92 4) ≤ (a3 - (10 : Int32)) then (some ((-1 : Int32), σ10)) else (zg (zi (a3 - (10 : Int32)) 36) (some ((σ10.1 96 (a3 - (10 : Int32)).toNatClampNeg), σ10))))))
def J_X10_wired (a1 : Int32) (a2 : Int32) (a3 : Int32) (σ : zS) : Option (Int32 × zS) :=
  zb (J_X0_has a1 σ) fun r1 => if r1 = (0 : Int32) then (some ((-1 : Int32), σ)) else (zb (J_X10_isEvent a2 σ) fun r3 => if r3 = (0 : Int32) then (some ((-1 : Int32), σ)) else (zlet (D_X10_wired_30 a1 a2 a3 σ) fun k30 => if a3 = (0 : Int32) then (k30) else (if (10 : Int32) ≤ a3 then (k30) else (some ((-1 : Int32), σ)))))
/-! EventCountersModel.in -/
def J_X11_in (a0 : Int64) (a2 : Int64) (a4 : Int64) (σ : zS) : Option Int32 :=
  if (lg_cmp a0 a2) < (0 : Int32) then (some (0 : Int32)) else (if (0 : Int32) < (lg_cmp a0 a4) then (some (0 : Int32)) else (some (1 : Int32)))
/-! EventCountersModel.areEvents -/
def J_X11_areEvents (a0 : Int32) (σ : zS) : Option Int32 :=
  zb (J_X11_in (a0.toInt64) (0 : Int64) (255 : Int64) σ) fun r1 => zg (zbl r1) (some r1)
/-! EventCountersModel.size -/
def J_X11_size (a0 : Int64) (σ : zS) : Option Int64 :=
  if (0 : Int32) ≤ (lg_cmp a0 (0 : Int64)) then (some a0) else (some (-a0))
/-! EventCountersModel.common -/
def D_X11_common_31 (σ : zS) (w4_31 : Int64) : Option Int64 :=
  zb (J_X11_size w4_31 σ) fun r1 => some r1
def L_X11_common_6 (k31 : Int64 → Option Int64) : Nat → Int64 → Int64 → Option Int64
  | 0, _, _ => none
  | n + 1, w4_6, w6_6 =>
    zlet (L_X11_common_6 k31 n) fun r_6 => if (lg_cmp w6_6 (0 : Int64)) = (0 : Int32) then (k31 w4_6) else (znl w6_6 (zlet (w4_6 - w4_6 / w6_6 * w6_6) fun v4 => r_6 w6_6 v4))
def J_X11_common (a0 : Int64) (a2 : Int64) (σ : zS) : Option Int64 :=
  zlet (D_X11_common_31 σ) fun k31 => L_X11_common_6 k31 4294967296 a0 a2
/-! EventCountersModel.isEvent -/
def J_X11_isEvent (a0 : Int32) (σ : zS) : Option Int32 :=
  zb (J_X11_in (a0.toInt64) (0 : Int64) (7 : Int64) σ) fun r1 => zg (zbl r1) (some r1)
/-! EventCountersModel.isSampling -/
def J_X11_isSampling (a0 : Int32) (a1 : Int32) (a2 : Int32) (a3 : Int32) (σ : zS) : Option Int32 :=
  zb (J_X11_isEvent a0 σ) fun r1 => if r1 = (0 : Int32) then (some (0 : Int32)) else (zb (J_X11_in (a1.toInt64) (1 : Int64) (9999 : Int64) σ) fun r3 => if r3 = (0 : Int32) then (some (0 : Int32)) else (zb (J_X11_in (a2.toInt64) (0 : Int64) ((a1 - (1 : Int32)).toInt64) σ) fun r5 => if r5 = (0 : Int32) then (some (0 : Int32)) else (zb (J_X11_in (a3.toInt64) (0 : Int64) (9 : Int64) σ) fun r7 => if r7 = (0 : Int32) then (some (0 : Int32)) else (some (1 : Int32)))))
/-! EventCountersModel.made -/
def J_X11_made (a1 : Int32) (a2 : Int32) (σ : zS) : Option Int32 :=
  zg (zi (((8 : Int32) * a1) + a2) 128) (some (σ.1 107 (((8 : Int32) * a1) + a2).toNatClampNeg))
/-! EventCountersModel.total -/
def L_X11_total_4 (a1 : Int32) (σ : zS) : Nat → Int32 → Int32 → Option Int32
  | 0, _, _ => none
  | n + 1, w2_4, w3_4 =>
    zlet (L_X11_total_4 a1 σ n) fun r_4 => if (σ.1 105 0) ≤ w3_4 then (some w2_4) else (zg (zi w3_4 16) (zb (J_X11_made w3_4 a1 σ) fun r3 => zlet (w2_4 + ((σ.1 112 w3_4.toNatClampNeg) * r3)) fun v4 => zlet (w3_4 + (1 : Int32)) fun v5 => r_4 v4 v5))
def J_X11_total (a1 : Int32) (σ : zS) : Option Int32 :=
  L_X11_total_4 a1 σ 4294967296 (0 : Int32) (0 : Int32)
/-! EventCountersModel.beats -/
def D_X11_beats_162 (a2 : Int32) (a4 : Int32) (v8 : Int32) (w7_162 : Int32) (w8_162 : Int32) : Option Int32 :=
  if a4 = (0 : Int32) then (some w7_162) else (if a4 = (1 : Int32) then (some (w8_162 &&& (w7_162 ^^^ (-1 : Int32)))) else (zn v8 (some (a2 / v8))))
def D_X11_beats_141 (a1 : Int32) (σ : zS) (r_62 : Int32 → Int32 → Int32 → Int32 → Option Int32) (w7_62 : Int32) (w9_62 : Int32) (w10_62 : Int32) (v14 : Int32) (v17 : Int32) (x0_141 : Int32) : Option Int32 :=
  zlet (w7_62 ||| x0_141) fun v19 => zb (J_X11_made v14 a1 σ) fun r20 => zlet (w9_62 + r20) fun v21 => zlet (w10_62 + (1 : Int32)) fun v22 => r_62 v19 v17 v21 v22
def L_X11_beats_62 (a1 : Int32) (σ : zS) (v8 : Int32) (k162 : Int32 → Int32 → Option Int32) : Nat → Int32 → Int32 → Int32 → Int32 → Option Int32
  | 0, _, _, _, _ => none
  | n + 1, w7_62, w8_62, w9_62, w10_62 =>
    zlet (L_X11_beats_62 a1 σ v8 k162 n) fun r_62 => if (σ.1 105 7) ≤ w10_62 then (k162 w7_62 w8_62) else (zg (zi w10_62 6000) (zlet (σ.1 111 w10_62.toNatClampNeg) fun v14 => zb (J_X11_made v14 a1 σ) fun r15 => zlet (if r15 ≤ (0 : Int32) then (0 : Int32) else ((1 : Int32) <<< (v14 &&& 31))) fun v16 => zlet (w8_62 ||| v16) fun v17 => zb (J_X11_made v14 a1 σ) fun r18 => zlet (D_X11_beats_141 a1 σ r_62 w7_62 w9_62 w10_62 v14 v17) fun k141 => if r18 ≤ (0 : Int32) then (k141 (0 : Int32)) else (zb (J_X11_made v14 a1 σ) fun r24 => zn v8 (if r24 < (v8 - (w9_62 - w9_62 / v8 * v8)) then (k141 (0 : Int32)) else (k141 ((1 : Int32) <<< (v14 &&& 31)))))))
def J_X11_beats (a1 : Int32) (a2 : Int32) (a3 : Int32) (a4 : Int32) (σ : zS) : Option Int32 :=
  zb (J_X11_isSampling a1 a2 a3 (0 : Int32) σ) fun r1 => if r1 = (0 : Int32) then (some (-1 : Int32)) else (zb (J_X11_in (a4.toInt64) (0 : Int64) (2 : Int64) σ) fun r3 => if r3 = (0 : Int32) then (some (-1 : Int32)) else (zb (J_X11_total a1 σ) fun r5 => if r5 = (0 : Int32) then (some (0 : Int32)) else (zb (J_X11_common (a2.toInt64) (r5.toInt64) σ) fun r7 => zlet (r7.toInt32) fun v8 => zlet (D_X11_beats_162 a2 a4 v8) fun k162 => L_X11_beats_62 a1 σ v8 k162 4294967296 (0 : Int32) (0 : Int32) a3 (0 : Int32))))
/-! EventCountersModel.beside -/
def D_X11_beside_195 (a1 : Int32) (a2 : Int32) (σ : zS) (w3_195 : Int32) (w4_195 : Int32) (w5_195 : Int32) (w6_195 : Int32) : Option Int32 :=
  if a2 = (0 : Int32) then (zb (J_X11_total a1 σ) fun r9 => some r9) else (if a2 = (1 : Int32) then (some w3_195) else (if a2 = (2 : Int32) then (some w4_195) else (if a2 = (3 : Int32) then (some w5_195) else (some w6_195))))
def D_X11_beside_74 (a1 : Int32) (σ : zS) (r_39 : Int32 → Int32 → Int32 → Int32 → Int32 → Int32 → Option Int32) (w3_39 : Int32) (w4_39 : Int32) (w5_39 : Int32) (w6_39 : Int32) (w7_39 : Int32) (w8_39 : Int32) (x0_74 : Int32) : Option Int32 :=
  zg (zi (((8 : Int32) * w8_39) + a1) 128) (zlet (x0_74 - (σ.1 124 (((8 : Int32) * w8_39) + a1).toNatClampNeg)) fun v12 => zg (zi (((8 : Int32) * w8_39) + a1) 128) (zlet (w3_39 + (σ.1 124 (((8 : Int32) * w8_39) + a1).toNatClampNeg)) fun v14 => zlet (if v12 ≤ (0 : Int32) then (0 : Int32) else ((1 : Int32) <<< (w8_39 &&& 31))) fun v15 => zlet (w4_39 ||| v15) fun v16 => zlet (if (0 : Int32) ≤ v12 then (0 : Int32) else ((1 : Int32) <<< (w8_39 &&& 31))) fun v17 => zlet (w5_39 ||| v17) fun v18 => zb (J_X11_size (v12.toInt64) σ) fun r19 => zlet (if (lg_cmp r19 (w7_39.toInt64)) ≤ (0 : Int32) then w6_39 else w8_39) fun v20 => zb (J_X11_size (v12.toInt64) σ) fun r21 => if (lg_cmp r21 (w7_39.toInt64)) ≤ (0 : Int32) then (zlet (w8_39 + (1 : Int32)) fun v23 => r_39 v14 v16 v18 v20 w7_39 v23) else (zb (J_X11_size (v12.toInt64) σ) fun r24 => zlet (r24.toInt32) fun v25 => zlet (w8_39 + (1 : Int32)) fun v26 => r_39 v14 v16 v18 v20 v25 v26)))
def L_X11_beside_39 (a1 : Int32) (σ : zS) (k195 : Int32 → Int32 → Int32 → Int32 → Option Int32) : Nat → Int32 → Int32 → Int32 → Int32 → Int32 → Int32 → Option Int32
  | 0, _, _, _, _, _, _ => none
  | n + 1, w3_39, w4_39, w5_39, w6_39, w7_39, w8_39 =>
    zlet (L_X11_beside_39 a1 σ k195 n) fun r_39 => if (16 : Int32) ≤ w8_39 then (k195 w3_39 w4_39 w5_39 w6_39) else (zlet (D_X11_beside_74 a1 σ r_39 w3_39 w4_39 w5_39 w6_39 w7_39 w8_39) fun k74 => if (σ.1 105 0) ≤ w8_39 then (k74 (0 : Int32)) else (zg (zi w8_39 16) (zb (J_X11_made w8_39 a1 σ) fun r35 => k74 ((σ.1 112 w8_39.toNatClampNeg) * r35))))
def J_X11_beside (a1 : Int32) (a2 : Int32) (σ : zS) : Option Int32 :=
  zb (J_X11_isEvent a1 σ) fun r1 => if r1 = (0 : Int32) then (some (-1 : Int32)) else (zb (J_X11_in (a2.toInt64) (0 : Int64) (4 : Int64) σ) fun r3 => if r3 = (0 : Int32) then (some (-1 : Int32)) else (zlet (D_X11_beside_195 a1 a2 σ) fun k195 => L_X11_beside_39 a1 σ k195 4294967296 (0 : Int32) (0 : Int32) (0 : Int32) (-4 : Int32) (0 : Int32) (0 : Int32)))
/-! EventCountersModel.isCounter -/
def J_X11_isCounter (a1 : Int32) (σ : zS) : Option Int32 :=
  zb (J_X11_in (a1.toInt64) (0 : Int64) (((σ.1 105 36) - (1 : Int32)).toInt64) σ) fun r1 => zg (zbl r1) (some r1)
/-! EventCountersModel.canCount -/
def J_X11_canCount (a1 : Int32) (a2 : Int32) (σ : zS) : Option Int32 :=
  zb (J_X11_isCounter a1 σ) fun r1 => if r1 = (0 : Int32) then (some (0 : Int32)) else (zb (J_X11_isEvent a2 σ) fun r3 => if r3 = (0 : Int32) then (some (0 : Int32)) else (zg (zi a1 4) (if (((σ.1 125 a1.toNatClampNeg) >>> (a2 &&& 31)) &&& (1 : Int32)) = (1 : Int32) then (some (1 : Int32)) else (some (0 : Int32)))))
/-! EventCountersModel.count -/
def J_X11_count (a1 : Int32) (σ : zS) : Option Int32 :=
  zb (J_X11_in (a1.toInt64) (10 : Int64) (((9 : Int32) + (σ.1 105 36)).toInt64) σ) fun r1 => if r1 = (0 : Int32) then (zb (J_X11_in (a1.toInt64) (20 : Int64) (((19 : Int32) + (σ.1 105 36)).toInt64) σ) fun r3 => if r3 = (0 : Int32) then (if a1 = (0 : Int32) then (some (σ.1 105 0)) else if a1 = (1 : Int32) then (some (σ.1 105 36)) else if a1 = (2 : Int32) then (some (σ.1 105 49)) else if a1 = (3 : Int32) then (some (σ.1 105 25)) else if a1 = (4 : Int32) then (zg (zi (0 : Int32) 4) (if (σ.1 134 (0 : Int32).toNatClampNeg) = (-4 : Int32) then (some (-4 : Int32)) else (zg (zi (0 : Int32) 4) (some (σ.1 135 (0 : Int32).toNatClampNeg))))) else if a1 = (5 : Int32) then (some (σ.1 105 4)) else (some (-1 : Int32))) else (zg (zi (a1 - (20 : Int32)) 4) (some (σ.1 126 (a1 - (20 : Int32)).toNatClampNeg)))) else (zg (zi (a1 - (10 : Int32)) 4) (some (σ.1 125 (a1 - (10 : Int32)).toNatClampNeg)))
/-! EventCountersModel.countOf -/
def L_X11_countOf_4 (a0 : Int32) : Nat → Int32 → Int32 → Option Int32
  | 0, _, _ => none
  | n + 1, w1_4, w2_4 =>
    zlet (L_X11_countOf_4 a0 n) fun r_4 => if (16 : Int32) ≤ w2_4 then (some w1_4) else (zlet (w1_4 + ((a0 >>> (w2_4 &&& 31)) &&& (1 : Int32))) fun v2 => zlet (w2_4 + (1 : Int32)) fun v3 => r_4 v2 v3)
def J_X11_countOf (a0 : Int32) (σ : zS) : Option Int32 :=
  L_X11_countOf_4 a0 4294967296 (0 : Int32) (0 : Int32)
/-! EventCountersModel.freshCounters -/
def L_X11_freshCounters_2 : Nat → Int32 → zS → Option zS
  | 0, _, _ => none
  | n + 1, w1_2, σ_2 =>
    zlet (L_X11_freshCounters_2 n) fun r_2 => if (4 : Int32) ≤ w1_2 then (some σ_2) else (zg (zi w1_2 4) (zlet (zsI σ_2 125 w1_2.toNatClampNeg (255 : Int32)) fun σ3 => zg (zi w1_2 4) (zlet (zsI σ3 126 w1_2.toNatClampNeg (8 : Int32)) fun σ5 => zlet (w1_2 + (1 : Int32)) fun v6 => r_2 v6 σ5)))
def J_X11_freshCounters (σ : zS) : Option zS :=
  L_X11_freshCounters_2 4294967296 (0 : Int32) σ
/-! EventCountersModel.counters -/
def J_X11_counters (a1 : Int32) (σ : zS) : Option (Int32 × zS) :=
  zb (J_X11_in (a1.toInt64) (1 : Int64) (4 : Int64) σ) fun r1 => if r1 = (0 : Int32) then (some ((-1 : Int32), σ)) else (zlet (σ.1 105 36) fun v3 => zlet (zsI σ 105 36 a1) fun σ4 => zb (J_X11_freshCounters σ4) fun σ6 => zlet (zsI σ6 105 49 (0 : Int32)) fun σ7 => some (v3, σ7))
/-! EventCountersModel.countsIn -/
def D_X11_countsIn_103 (r_37 : Int32 → Int32 → zS → Option zS) (w4_37 : Int32) (w5_37 : Int32) (σ_103 : zS) : Option zS :=
  zg (zi w5_37 6000) (zg (zi (σ_103.1 111 w5_37.toNatClampNeg) 16) (zlet (w4_37 + (σ_103.1 106 (σ_103.1 111 w5_37.toNatClampNeg).toNatClampNeg)) fun v10 => zlet (w5_37 + (1 : Int32)) fun v11 => r_37 v10 v11 σ_103))
def L_X11_countsIn_37 (a1 : Int32) (a2 : Int32) (w3_21 : Int32) : Nat → Int32 → Int32 → zS → Option zS
  | 0, _, _, _ => none
  | n + 1, w4_37, w5_37, σ_37 =>
    zlet (L_X11_countsIn_37 a1 a2 w3_21 n) fun r_37 => if (σ_37.1 105 7) ≤ w5_37 then (some σ_37) else (zn a1 (zlet (w4_37 / a1) fun v5 => zlet (σ_37.1 105 41) fun v6 => zn v6 (zlet (D_X11_countsIn_103 r_37 w4_37 w5_37) fun k103 => if (v5 - v5 / v6 * v6) = w3_21 then (zg (zi w5_37 6000) (zb (J_X11_made (σ_37.1 111 w5_37.toNatClampNeg) a2 σ_37) fun r14 => zlet (zsL σ_37 105 43 ((σ_37.2.1 105 43) + (r14.toInt64))) fun σ15 => zg (zi w5_37 6000) (zg (zi (σ15.1 111 w5_37.toNatClampNeg) 16) (zlet (zsL σ15 105 44 ((σ15.2.1 105 44) + ((σ15.1 106 (σ15.1 111 w5_37.toNatClampNeg).toNatClampNeg).toInt64))) fun σ18 => k103 σ18)))) else (k103 σ_37))))
def D_X11_countsIn_21 (a1 : Int32) (a2 : Int32) (σ : zS) (w3_21 : Int32) : Option zS :=
  zlet (zsL σ 105 43 (0 : Int64)) fun σ1 => zlet (zsL σ1 105 44 (0 : Int64)) fun σ2 => L_X11_countsIn_37 a1 a2 w3_21 4294967296 (0 : Int32) (0 : Int32) σ2
def L_X11_countsIn_2 (a2 : Int32) (σ : zS) (k21 : Int32 → Option zS) : Nat → Int32 → Option zS
  | 0, _ => none
  | n + 1, w3_2 =>
    zlet (L_X11_countsIn_2 a2 σ k21 n) fun r_2 => zg (zi w3_2 8) (if (((σ.1 129 w3_2.toNatClampNeg) >>> (a2 &&& 31)) &&& (1 : Int32)) = (0 : Int32) then (zlet (w3_2 + (1 : Int32)) fun v21 => r_2 v21) else (k21 w3_2))
def J_X11_countsIn (a1 : Int32) (a2 : Int32) (σ : zS) : Option zS :=
  zlet (D_X11_countsIn_21 a1 a2 σ) fun k21 => L_X11_countsIn_2 a2 σ k21 4294967296 (0 : Int32)
/-! EventCountersModel.wayOf -/
def D_X11_wayOf_131 (r_18 : Int32 → Option Int32) (w3_18 : Int32) (w6_131 : Int32) : Option Int32 :=
  if w6_131 = (0 : Int32) then (zlet (w3_18 + (1 : Int32)) fun v5 => r_18 v5) else (some w3_18)
def D_X11_wayOf_114 (r_39 : Int32 → Int32 → Int32 → Int32 → Option Int32) (w4_39 : Int32) (w7_39 : Int32) (v9 : Int32) (v10 : Int32) (x0_114 : Int32) : Option Int32 :=
  zlet (w4_39 ||| ((1 : Int32) <<< (v10 &&& 31))) fun v11 => zlet (w7_39 + (1 : Int32)) fun v12 => r_39 v11 v9 x0_114 v12
def L_X11_wayOf_39 (a1 : Int32) (σ : zS) (w3_18 : Int32) (k131 : Int32 → Option Int32) : Nat → Int32 → Int32 → Int32 → Int32 → Option Int32
  | 0, _, _, _, _ => none
  | n + 1, w4_39, w5_39, w6_39, w7_39 =>
    zlet (L_X11_wayOf_39 a1 σ w3_18 k131 n) fun r_39 => if (8 : Int32) ≤ w7_39 then (k131 w6_39) else (if ((a1 >>> (w7_39 &&& 31)) &&& (1 : Int32)) = (1 : Int32) then (zlet (w5_39 + (-1 : Int32)) fun v9 => zlet ((w3_18 >>> (((2 : Int32) * v9) &&& 31)) &&& (3 : Int32)) fun v10 => zlet (D_X11_wayOf_114 r_39 w4_39 w7_39 v9 v10) fun k114 => if w6_39 = (0 : Int32) then (k114 (0 : Int32)) else (if (σ.1 105 36) ≤ v10 then (k114 (0 : Int32)) else (if ((w4_39 >>> (v10 &&& 31)) &&& (1 : Int32)) = (0 : Int32) then (zg (zi v10 4) (if (((σ.1 125 v10.toNatClampNeg) >>> (w7_39 &&& 31)) &&& (1 : Int32)) = (1 : Int32) then (k114 (1 : Int32)) else (k114 (0 : Int32)))) else (k114 (0 : Int32))))) else (zlet (w7_39 + (1 : Int32)) fun v8 => r_39 w4_39 w5_39 w6_39 v8))
def L_X11_wayOf_18 (a1 : Int32) (σ : zS) (r1 : Int32) : Nat → Int32 → Option Int32
  | 0, _ => none
  | n + 1, w3_18 =>
    zlet (L_X11_wayOf_18 a1 σ r1 n) fun r_18 => if ((1 : Int32) <<< (((2 : Int32) * r1) &&& 31)) ≤ w3_18 then (some (-4 : Int32)) else (zlet (D_X11_wayOf_131 r_18 w3_18) fun k131 => L_X11_wayOf_39 a1 σ w3_18 k131 4294967296 (0 : Int32) r1 (1 : Int32) (0 : Int32))
def J_X11_wayOf (a1 : Int32) (σ : zS) : Option Int32 :=
  zb (J_X11_countOf a1 σ) fun r1 => if r1 ≤ (σ.1 105 36) then (L_X11_wayOf_18 a1 σ r1 4294967296 (0 : Int32)) else (some (-4 : Int32))
/-! EventCountersModel.findRounds -/
def D_X11_findRounds_269 (r_210 : Int32 → zS → Option zS) (w2_210 : Int32) (σ_210 : zS) (w3_269 : Int32) : Option zS :=
  zg (zi (σ_210.1 105 41) 8) (zlet (zsI σ_210 129 (σ_210.1 105 41).toNatClampNeg w3_269) fun σ9 => zlet (zsI σ9 105 41 ((σ9.1 105 41) + (1 : Int32))) fun σ10 => zlet (w2_210 &&& (w3_269 ^^^ (-1 : Int32))) fun v11 => r_210 v11 σ10)
def L_X11_findRounds_216 (w2_210 : Int32) (σ_210 : zS) (k269 : Int32 → Option zS) : Nat → Int32 → Option zS
  | 0, _ => none
  | n + 1, w3_216 =>
    zlet (L_X11_findRounds_216 w2_210 σ_210 k269 n) fun r_216 => if (w3_216 &&& (w2_210 ^^^ (-1 : Int32))) = (0 : Int32) then (if (w3_216 &&& (w2_210 &&& (-w2_210))) = (0 : Int32) then (zlet (w3_216 + (1 : Int32)) fun v15 => r_216 v15) else (zg (zi w3_216 256) (if (σ_210.1 128 w3_216.toNatClampNeg) = (0 : Int32) then (zlet (w3_216 + (1 : Int32)) fun v18 => r_216 v18) else (zg (zi (w2_210 &&& (w3_216 ^^^ (-1 : Int32))) 256) (zg (zi w2_210 256) (if ((σ_210.1 127 (w2_210 &&& (w3_216 ^^^ (-1 : Int32))).toNatClampNeg) + (1 : Int32)) = (σ_210.1 127 w2_210.toNatClampNeg) then (k269 w3_216) else (zlet (w3_216 + (1 : Int32)) fun v22 => r_216 v22))))))) else (zlet (w3_216 + (1 : Int32)) fun v13 => r_216 v13)
def L_X11_findRounds_210 : Nat → Int32 → zS → Option zS
  | 0, _, _ => none
  | n + 1, w2_210, σ_210 =>
    zlet (L_X11_findRounds_210 n) fun r_210 => if w2_210 = (0 : Int32) then (some σ_210) else (zlet (D_X11_findRounds_269 r_210 w2_210 σ_210) fun k269 => L_X11_findRounds_216 w2_210 σ_210 k269 4294967296 (1 : Int32))
def D_X11_findRounds_174 (a1 : Int32) (σ_174 : zS) : Option zS :=
  zg (zi a1 256) (zlet (if (σ_174.1 127 a1.toNatClampNeg) < (99 : Int32) then (0 : Int32) else (-4 : Int32)) fun v4 => zlet (zsI σ_174 105 41 v4) fun σ5 => zlet (if (σ5.1 105 41) = (-4 : Int32) then (0 : Int32) else a1) fun v6 => L_X11_findRounds_210 4294967296 v6 σ5)
def D_X11_findRounds_168 (r_45 : Int32 → zS → Option zS) (w2_45 : Int32) (σ_168 : zS) : Option zS :=
  zlet (w2_45 + (1 : Int32)) fun v31 => r_45 v31 σ_168
def D_X11_findRounds_155 (w2_45 : Int32) (r_68 : Int32 → zS → Option zS) (w4_68 : Int32) (σ_68 : zS) : Option zS :=
  zg (zi w2_45 256) (zg (zi w2_45 256) (zlet (zsI σ_68 127 w2_45.toNatClampNeg (σ_68.1 127 w2_45.toNatClampNeg)) fun σ35 => zlet (w4_68 + (1 : Int32)) fun v36 => r_68 v36 σ35))
def D_X11_findRounds_105 (w2_45 : Int32) (r_68 : Int32 → zS → Option zS) (w4_68 : Int32) (σ_68 : zS) (x0_105 : Int32) : Option zS :=
  zlet (D_X11_findRounds_155 w2_45 r_68 w4_68 σ_68) fun k155 => if x0_105 = (0 : Int32) then (k155) else (zg (zi (w2_45 &&& (w4_68 ^^^ (-1 : Int32))) 256) (zg (zi w2_45 256) (if (σ_68.1 127 w2_45.toNatClampNeg) ≤ ((σ_68.1 127 (w2_45 &&& (w4_68 ^^^ (-1 : Int32))).toNatClampNeg) + (1 : Int32)) then (k155) else (zg (zi (w2_45 &&& (w4_68 ^^^ (-1 : Int32))) 256) (zg (zi w2_45 256) (zlet (zsI σ_68 127 w2_45.toNatClampNeg ((σ_68.1 127 (w2_45 &&& (w4_68 ^^^ (-1 : Int32))).toNatClampNeg) + (1 : Int32))) fun σ43 => zlet (w4_68 + (1 : Int32)) fun v44 => r_68 v44 σ43))))))
def L_X11_findRounds_68 (w2_45 : Int32) (v30 : Int32) (k168 : zS → Option zS) : Nat → Int32 → zS → Option zS
  | 0, _, _ => none
  | n + 1, w4_68, σ_68 =>
    zlet (L_X11_findRounds_68 w2_45 v30 k168 n) fun r_68 => if w2_45 < w4_68 then (k168 σ_68) else (zlet (D_X11_findRounds_105 w2_45 r_68 w4_68 σ_68) fun k105 => if (w4_68 &&& (w2_45 ^^^ (-1 : Int32))) = (0 : Int32) then (if (w4_68 &&& v30) = (0 : Int32) then (k105 (0 : Int32)) else (zg (zi w4_68 256) (if (σ_68.1 128 w4_68.toNatClampNeg) = (0 : Int32) then (k105 (0 : Int32)) else (k105 (1 : Int32))))) else (k105 (0 : Int32)))
def L_X11_findRounds_45 (k174 : zS → Option zS) : Nat → Int32 → zS → Option zS
  | 0, _, _ => none
  | n + 1, w2_45, σ_45 =>
    zlet (L_X11_findRounds_45 k174 n) fun r_45 => if (256 : Int32) ≤ w2_45 then (k174 σ_45) else (zg (zi w2_45 256) (zlet (zsI σ_45 127 w2_45.toNatClampNeg (99 : Int32)) fun σ29 => zlet (w2_45 &&& (-w2_45)) fun v30 => zlet (D_X11_findRounds_168 r_45 w2_45) fun k168 => L_X11_findRounds_68 w2_45 v30 k168 4294967296 (1 : Int32) σ29))
def D_X11_findRounds_36 (a1 : Int32) (σ_36 : zS) : Option zS :=
  zg (zi (0 : Int32) 256) (zlet (zsI σ_36 127 (0 : Int32).toNatClampNeg (0 : Int32)) fun σ2 => zlet (D_X11_findRounds_174 a1) fun k174 => L_X11_findRounds_45 k174 4294967296 (1 : Int32) σ2)
def L_X11_findRounds_2 (k36 : zS → Option zS) : Nat → Int32 → zS → Option zS
  | 0, _, _ => none
  | n + 1, w2_2, σ_2 =>
    zlet (L_X11_findRounds_2 k36 n) fun r_2 => if (256 : Int32) ≤ w2_2 then (k36 σ_2) else (zb (J_X11_wayOf w2_2 σ_2) fun r50 => zlet (if r50 = (-4 : Int32) then (0 : Int32) else (1 : Int32)) fun v51 => zg (zi w2_2 256) (zlet (zsI σ_2 128 w2_2.toNatClampNeg (vp_nar .boolean v51)) fun σ53 => zlet (w2_2 + (1 : Int32)) fun v54 => r_2 v54 σ53))
def J_X11_findRounds (a1 : Int32) (σ : zS) : Option zS :=
  zlet (D_X11_findRounds_36 a1) fun k36 => L_X11_findRounds_2 k36 4294967296 (0 : Int32) σ
/-! EventCountersModel.countsBy -/
def J_X11_countsBy (a1 : Int32) (a2 : Int32) (a3 : Int32) (σ : zS) : Option (Int32 × zS) :=
  zb (J_X11_findRounds a1 σ) fun σ2 => if (σ2.1 105 41) = (-4 : Int32) then (some ((0 : Int32), σ2)) else (zb (J_X11_countsIn a2 a3 σ2) fun σ5 => some ((1 : Int32), σ5))
/-! EventCountersModel.dTimes -/
def L_X11_dTimes_10 (σ : zS) : Nat → Int64 → Int32 → Option Int64
  | 0, _, _ => none
  | n + 1, w2_10, w4_10 =>
    zlet (L_X11_dTimes_10 σ n) fun r_10 => if w4_10 = (-4 : Int32) then (some w2_10) else (zg (zi w4_10 40) (zlet (w2_10 * ((σ.1 116 w4_10.toNatClampNeg).toInt64)) fun v5 => zg (zi w4_10 40) (zlet (σ.1 117 w4_10.toNatClampNeg) fun v7 => r_10 v5 v7)))
def J_X11_dTimes (a1 : Int32) (σ : zS) : Option Int64 :=
  zg (zi a1 16) (zlet (σ.1 115 a1.toNatClampNeg) fun v2 => L_X11_dTimes_10 σ 4294967296 (1 : Int64) v2)
/-! EventCountersModel.depthOf -/
def L_X11_depthOf_4 (σ : zS) : Nat → Int32 → Int32 → Option Int32
  | 0, _, _ => none
  | n + 1, w2_4, w3_4 =>
    zlet (L_X11_depthOf_4 σ n) fun r_4 => if w3_4 = (-4 : Int32) then (some w2_4) else (zlet (w2_4 + (1 : Int32)) fun v2 => zg (zi w3_4 40) (zlet (σ.1 110 w3_4.toNatClampNeg) fun v4 => r_4 v2 v4))
def J_X11_depthOf (a1 : Int32) (σ : zS) : Option Int32 :=
  L_X11_depthOf_4 σ 4294967296 (0 : Int32) a1
/-! EventCountersModel.end -/
def J_X11_end (a1 : Int32) (σ : zS) : Option (Int32 × zS) :=
  zb (J_X11_in (a1.toInt64) (0 : Int64) ((σ.1 105 25).toInt64) σ) fun r1 => if r1 = (0 : Int32) then (some ((-1 : Int32), σ)) else (zlet (σ.1 105 25) fun v3 => zlet (zsI σ 105 25 a1) fun σ4 => some (v3, σ4))
/-! EventCountersModel.farNow -/
def L_X11_farNow_13 (a1 : Int32) (σ : zS) (v2 : Int64) : Nat → Int64 → Int32 → Option Int64
  | 0, _, _ => none
  | n + 1, w4_13, w6_13 =>
    zlet (L_X11_farNow_13 a1 σ v2 n) fun r_13 => if (σ.1 105 0) ≤ w6_13 then (some w4_13) else (zg (zi w6_13 16) (zg (zi w6_13 16) (zb (J_X11_made w6_13 a1 σ) fun r6 => zb (J_X11_size ((((σ.1 130 w6_13.toNatClampNeg).toInt64) * v2) - ((((σ.1 112 w6_13.toNatClampNeg).toInt64) * (r6.toInt64)) * (((σ.1 105 45) - (σ.1 105 46)).toInt64))) σ) fun r7 => zlet (w4_13 + r7) fun v8 => zlet (w6_13 + (1 : Int32)) fun v9 => r_13 v8 v9)))
def J_X11_farNow (a1 : Int32) (σ : zS) : Option Int64 :=
  zb (J_X11_total a1 σ) fun r1 => zlet (r1.toInt64) fun v2 => L_X11_farNow_13 a1 σ v2 4294967296 (0 : Int64) (0 : Int32)
/-! EventCountersModel.findSamples -/
def L_X11_findSamples_40 (a1 : Int32) (a2 : Int32) (a4 : Int32) : Nat → Int32 → Int32 → zS → Option zS
  | 0, _, _, _ => none
  | n + 1, w5_40, w6_40, σ_40 =>
    zlet (L_X11_findSamples_40 a1 a2 a4 n) fun r_40 => if (σ_40.1 105 7) ≤ w6_40 then (some σ_40) else (zg (zi w6_40 6000) (zb (J_X11_made (σ_40.1 111 w6_40.toNatClampNeg) a1 σ_40) fun r5 => zlet (w5_40 + r5) fun v6 => zn a2 (zlet (v6 / a2) fun v8 => zn a2 (zlet (v6 - v6 / a2 * a2) fun v10 => zlet (zsI σ_40 105 45 ((σ_40.1 105 45) + v8)) fun σ11 => if (σ11.1 105 7) ≤ (w6_40 + a4) then (zlet (zsI σ11 105 46 ((σ11.1 105 46) + v8)) fun σ13 => zlet (w6_40 + (1 : Int32)) fun v14 => r_40 v10 v14 σ13) else (zg (zi (w6_40 + a4) 6000) (zg (zi (σ11.1 111 (w6_40 + a4).toNatClampNeg) 16) (zg (zi (σ11.1 111 (w6_40 + a4).toNatClampNeg) 16) (zlet (zsI σ11 130 (σ11.1 111 (w6_40 + a4).toNatClampNeg).toNatClampNeg ((σ11.1 130 (σ11.1 111 (w6_40 + a4).toNatClampNeg).toNatClampNeg) + v8)) fun σ18 => zlet (w6_40 + (1 : Int32)) fun v19 => r_40 v10 v19 σ18))))))))
def D_X11_findSamples_34 (a1 : Int32) (a2 : Int32) (a3 : Int32) (a4 : Int32) (σ_34 : zS) : Option zS :=
  L_X11_findSamples_40 a1 a2 a4 4294967296 a3 (0 : Int32) σ_34
def L_X11_findSamples_13 (k34 : zS → Option zS) : Nat → Int32 → zS → Option zS
  | 0, _, _ => none
  | n + 1, w5_13, σ_13 =>
    zlet (L_X11_findSamples_13 k34 n) fun r_13 => if (16 : Int32) ≤ w5_13 then (k34 σ_13) else (zg (zi w5_13 16) (zlet (zsI σ_13 130 w5_13.toNatClampNeg (0 : Int32)) fun σ22 => zlet (w5_13 + (1 : Int32)) fun v23 => r_13 v23 σ22))
def J_X11_findSamples (a1 : Int32) (a2 : Int32) (a3 : Int32) (a4 : Int32) (σ : zS) : Option zS :=
  zlet (zsI σ 105 45 (0 : Int32)) fun σ1 => zlet (zsI σ1 105 46 (0 : Int32)) fun σ2 => zlet (D_X11_findSamples_34 a1 a2 a3 a4) fun k34 => L_X11_findSamples_13 k34 4294967296 (0 : Int32) σ2
/-! EventCountersModel.told -/
def J_X11_told (a0 : Int64) (a2 : Int64) (a4 : Int32) (σ : zS) : Option Int64 :=
  zb (J_X11_size a0 σ) fun r1 => zb (J_X11_common a2 r1 σ) fun r2 => if a4 = (0 : Int32) then (znl r2 (some (a0 / r2))) else (znl r2 (some (a2 / r2)))
/-! EventCountersModel.far -/
def J_X11_far (a1 : Int32) (a2 : Int32) (a3 : Int32) (a4 : Int32) (a5 : Int32) (σ : zS) : Option (Int64 × zS) :=
  zb (J_X11_isSampling a1 a2 a3 a4 σ) fun r1 => if r1 = (0 : Int32) then (some ((-1 : Int64), σ)) else (zb (J_X11_in (a5.toInt64) (0 : Int64) (1 : Int64) σ) fun r3 => if r3 = (0 : Int32) then (some ((-1 : Int64), σ)) else (zb (J_X11_findSamples a1 a2 a3 a4 σ) fun σ6 => if (σ6.1 105 45) = (σ6.1 105 46) then (some ((-4 : Int64), σ6)) else (zb (J_X11_farNow a1 σ6) fun r8 => zb (J_X11_total a1 σ6) fun r9 => zb (J_X11_told r8 ((((σ6.1 105 45) - (σ6.1 105 46)).toInt64) * (r9.toInt64)) a5 σ6) fun r10 => some (r10, σ6))))
/-! EventCountersModel.fault -/
def J_X11_fault (σ : zS) : Option Int32 :=
  some (σ.1 105 30)
/-! EventCountersModel.feed -/
def L_X11_feed_19 (a1 : Int64) : Nat → Int32 → zS → Option (Int32 × zS)
  | 0, _, _ => none
  | n + 1, w3_19, σ_19 =>
    zlet (L_X11_feed_19 a1 n) fun r_19 => if w3_19 < (0 : Int32) then (some ((σ_19.1 105 25), σ_19)) else (zg (zi (σ_19.1 105 25) 320) (zlet (zsI σ_19 121 (σ_19.1 105 25).toNatClampNeg (((a1 >>> (w3_19.toInt64 &&& 63)) &&& (255 : Int64)).toInt32)) fun σ4 => zlet (zsI σ4 105 25 ((σ4.1 105 25) + (1 : Int32))) fun σ5 => zlet (w3_19 + (-8 : Int32)) fun v6 => r_19 v6 σ5))
def J_X11_feed (a1 : Int64) (σ : zS) : Option (Int32 × zS) :=
  if ((σ.1 105 25) + (8 : Int32)) ≤ (320 : Int32) then (L_X11_feed_19 a1 4294967296 (56 : Int32) σ) else (some ((-3 : Int32), σ))
/-! EventCountersModel.isOf -/
def J_X11_isOf (a0 : Int32) (a1 : Int32) (σ : zS) : Option Int32 :=
  zb (J_X11_areEvents a0 σ) fun r1 => if r1 = (0 : Int32) then (some (0 : Int32)) else (zb (J_X11_isEvent a1 σ) fun r3 => if r3 = (0 : Int32) then (some (0 : Int32)) else (if ((a0 >>> (a1 &&& 31)) &&& (1 : Int32)) = (1 : Int32) then (some (1 : Int32)) else (some (0 : Int32))))
/-! EventCountersModel.finest -/
def L_X11_finest_63 (a3 : Int32) (a4 : Int32) : Nat → Int32 → Int64 → Int64 → Int32 → zS → Option (Int32 × zS)
  | 0, _, _, _, _, _ => none
  | n + 1, w5_63, w6_63, w8_63, w10_63, σ_63 =>
    zlet (L_X11_finest_63 a3 a4 n) fun r_63 => if a3 < w10_63 then (some (w5_63, σ_63)) else (if (σ_63.1 105 41) = (-4 : Int32) then (some (w5_63, σ_63)) else (zb (J_X11_countsIn w10_63 a4 σ_63) fun σ13 => zb (J_X11_total a4 σ13) fun r14 => zb (J_X11_size (((σ13.2.1 105 43) * ((σ13.1 105 10).toInt64)) - ((r14.toInt64) * (σ13.2.1 105 44))) σ13) fun r15 => zlet (if (lg_cmp (σ13.2.1 105 44) (0 : Int64)) ≤ (0 : Int32) then (0 : Int32) else (if w5_63 = (-4 : Int32) then (1 : Int32) else (if (0 : Int32) ≤ (lg_cmp (r15 * w8_63) (w6_63 * (σ13.2.1 105 44))) then (0 : Int32) else (1 : Int32)))) fun v16 => zlet (if v16 = (0 : Int32) then w5_63 else w10_63) fun v17 => zlet (if v16 = (0 : Int32) then w6_63 else r15) fun v18 => zlet (if v16 = (0 : Int32) then w8_63 else (σ13.2.1 105 44)) fun v19 => zlet (w10_63 + (1 : Int32)) fun v20 => r_63 v17 v18 v19 v20 σ13))
def J_X11_finest (a1 : Int32) (a2 : Int32) (a3 : Int32) (a4 : Int32) (σ : zS) : Option (Int32 × zS) :=
  zb (J_X11_isOf a1 a4 σ) fun r1 => if r1 = (0 : Int32) then (some ((-1 : Int32), σ)) else (zb (J_X11_in (a2.toInt64) (1 : Int64) (999 : Int64) σ) fun r3 => if r3 = (0 : Int32) then (some ((-1 : Int32), σ)) else (zb (J_X11_in (a3.toInt64) (a2.toInt64) (999 : Int64) σ) fun r5 => if r5 = (0 : Int32) then (some ((-1 : Int32), σ)) else (if (a3 - a2) ≤ (199 : Int32) then (zb (J_X11_findRounds a1 σ) fun σ9 => L_X11_finest_63 a3 a4 4294967296 (-4 : Int32) (0 : Int64) (1 : Int64) a2 σ9) else (some ((-1 : Int32), σ)))))
/-! EventCountersModel.fits -/
def D_X11_fits_98 (r_50 : Int32 → Int32 → Option Int32) (w6_50 : Int32) : Option Int32 :=
  zlet (w6_50 + (1 : Int32)) fun v6 => r_50 (1 : Int32) v6
def L_X11_fits_50 (a1 : Int32) (a2 : Int32) (σ : zS) (w4_44 : Int32) : Nat → Int32 → Int32 → Option Int32
  | 0, _, _ => none
  | n + 1, w5_50, w6_50 =>
    zlet (L_X11_fits_50 a1 a2 σ w4_44 n) fun r_50 => if (σ.1 105 49) ≤ w6_50 then (zg (zbl w5_50) (some w5_50)) else (if w5_50 = (0 : Int32) then (zlet (w6_50 + (1 : Int32)) fun v4 => r_50 (0 : Int32) v4) else (zg (zi w6_50 12) (zlet (D_X11_fits_98 r_50 w6_50) fun k98 => if (σ.1 131 w6_50.toNatClampNeg) = a1 then (zg (zi w6_50 12) (if (σ.1 132 w6_50.toNatClampNeg) = a2 then (zg (zi w6_50 12) (if (σ.1 133 w6_50.toNatClampNeg) = w4_44 then (k98) else (zlet (w6_50 + (1 : Int32)) fun v12 => r_50 (0 : Int32) v12))) else (k98))) else (k98))))
def D_X11_fits_44 (a1 : Int32) (a2 : Int32) (σ : zS) (w4_44 : Int32) : Option Int32 :=
  L_X11_fits_50 a1 a2 σ w4_44 4294967296 (1 : Int32) (0 : Int32)
def L_X11_fits_6 (a3 : Int32) (σ : zS) (k44 : Int32 → Option Int32) : Nat → Int32 → Int32 → Option Int32
  | 0, _, _ => none
  | n + 1, w4_6, w5_6 =>
    zlet (L_X11_fits_6 a3 σ k44 n) fun r_6 => if (8 : Int32) ≤ w5_6 then (k44 w4_6) else (if ((a3 >>> (w5_6 &&& 31)) &&& (1 : Int32)) = (1 : Int32) then (zb (J_X11_total w5_6 σ) fun r17 => zlet (w4_6 + r17) fun v18 => zlet (w5_6 + (1 : Int32)) fun v19 => r_6 v18 v19) else (zlet (w4_6 + (0 : Int32)) fun v15 => zlet (w5_6 + (1 : Int32)) fun v16 => r_6 v15 v16))
def J_X11_fits (a1 : Int32) (a2 : Int32) (a3 : Int32) (σ : zS) : Option Int32 :=
  zlet (D_X11_fits_44 a1 a2 σ) fun k44 => L_X11_fits_6 a3 σ k44 4294967296 (0 : Int32) (0 : Int32)
/-! EventCountersModel.forget -/
def J_X11_forget (σ : zS) : Option (Int32 × zS) :=
  zlet (σ.1 105 49) fun v1 => zlet (zsI σ 105 49 (0 : Int32)) fun σ2 => some (v1, σ2)
/-! EventCountersModel.goes -/
def J_X11_goes (a1 : Int32) (a2 : Int32) (σ : zS) : Option Int32 :=
  zb (J_X11_areEvents a1 σ) fun r1 => if r1 = (0 : Int32) then (some (-1 : Int32)) else (zb (J_X11_isEvent a2 σ) fun r3 => if r3 = (0 : Int32) then (some (-1 : Int32)) else (if ((a1 >>> (a2 &&& 31)) &&& (1 : Int32)) = (0 : Int32) then (some (-1 : Int32)) else (zb (J_X11_wayOf a1 σ) fun r6 => if r6 = (-4 : Int32) then (some (-4 : Int32)) else (zb (J_X11_countOf (a1 >>> ((a2 + (1 : Int32)) &&& 31)) σ) fun r8 => some ((r6 >>> (((2 : Int32) * r8) &&& 31)) &&& (3 : Int32))))))
/-! EventCountersModel.hasRun -/
def D_X11_hasRun_40 (r_5 : Int32 → Int32 → Option Int32) (w4_5 : Int32) : Option Int32 :=
  zlet (w4_5 + (1 : Int32)) fun v3 => r_5 (1 : Int32) v3
def L_X11_hasRun_5 (a1 : Int32) (a2 : Int32) (σ : zS) : Nat → Int32 → Int32 → Option Int32
  | 0, _, _ => none
  | n + 1, w3_5, w4_5 =>
    zlet (L_X11_hasRun_5 a1 a2 σ n) fun r_5 => if (σ.1 105 49) ≤ w4_5 then (zg (zbl w3_5) (some w3_5)) else (zlet (D_X11_hasRun_40 r_5 w4_5) fun k40 => if w3_5 = (0 : Int32) then (zg (zi w4_5 12) (if (σ.1 131 w4_5.toNatClampNeg) = a1 then (zg (zi w4_5 12) (if (σ.1 132 w4_5.toNatClampNeg) = a2 then (k40) else (zlet (w4_5 + (1 : Int32)) fun v10 => r_5 (0 : Int32) v10))) else (zlet (w4_5 + (1 : Int32)) fun v7 => r_5 (0 : Int32) v7))) else (k40))
def J_X11_hasRun (a1 : Int32) (a2 : Int32) (σ : zS) : Option Int32 :=
  L_X11_hasRun_5 a1 a2 σ 4294967296 (0 : Int32) (0 : Int32)
/-! EventCountersModel.hot -/
def D_X11_hot_169 (a3 : Int32) (σ : zS) (w5_169 : Int32) : Option Int32 :=
  if w5_169 = (-4 : Int32) then (some (-4 : Int32)) else (if a3 = (0 : Int32) then (zb (J_X11_countOf w5_169 σ) fun r10 => some r10) else (some w5_169))
def D_X11_hot_137 (a2 : Int32) (r7 : Int32) (r_45 : Int32 → Int32 → Option Int32) (w5_45 : Int32) (w6_45 : Int32) (w7_137 : Int32) : Option Int32 :=
  zlet (if (lg_cmp ((100 : Int64) * (w7_137.toInt64)) ((a2.toInt64) * (r7.toInt64))) < (0 : Int32) then w5_45 else w6_45) fun v13 => zlet (w6_45 + (1 : Int32)) fun v14 => r_45 v13 v14
def L_X11_hot_87 (a1 : Int32) (σ : zS) (w6_45 : Int32) (k137 : Int32 → Option Int32) : Nat → Int32 → Int32 → Option Int32
  | 0, _, _ => none
  | n + 1, w7_87, w8_87 =>
    zlet (L_X11_hot_87 a1 σ w6_45 k137 n) fun r_87 => if (σ.1 105 0) ≤ w8_87 then (k137 w7_87) else (if ((w6_45 >>> (w8_87 &&& 31)) &&& (1 : Int32)) = (1 : Int32) then (zg (zi w8_87 16) (zb (J_X11_made w8_87 a1 σ) fun r22 => zlet (w7_87 + ((σ.1 112 w8_87.toNatClampNeg) * r22)) fun v23 => zlet (w8_87 + (1 : Int32)) fun v24 => r_87 v23 v24)) else (zlet (w7_87 + (0 : Int32)) fun v19 => zlet (w8_87 + (1 : Int32)) fun v20 => r_87 v19 v20))
def D_X11_hot_81 (a1 : Int32) (a2 : Int32) (σ : zS) (r7 : Int32) (r_45 : Int32 → Int32 → Option Int32) (w5_45 : Int32) (w6_45 : Int32) : Option Int32 :=
  zlet (D_X11_hot_137 a2 r7 r_45 w5_45 w6_45) fun k137 => L_X11_hot_87 a1 σ w6_45 k137 4294967296 (0 : Int32) (0 : Int32)
def L_X11_hot_45 (a1 : Int32) (a2 : Int32) (σ : zS) (r7 : Int32) (k169 : Int32 → Option Int32) : Nat → Int32 → Int32 → Option Int32
  | 0, _, _ => none
  | n + 1, w5_45, w6_45 =>
    zlet (L_X11_hot_45 a1 a2 σ r7 k169 n) fun r_45 => if ((1 : Int32) <<< ((σ.1 105 0) &&& 31)) ≤ w6_45 then (k169 w5_45) else (if r7 ≤ (0 : Int32) then (k169 w5_45) else (zlet (D_X11_hot_81 a1 a2 σ r7 r_45 w5_45 w6_45) fun k81 => if w5_45 = (-4 : Int32) then (k81) else (zb (J_X11_countOf w6_45 σ) fun r26 => zb (J_X11_countOf w5_45 σ) fun r27 => if r27 ≤ r26 then (zlet (w6_45 + (1 : Int32)) fun v29 => r_45 w5_45 v29) else (k81))))
def J_X11_hot (a1 : Int32) (a2 : Int32) (a3 : Int32) (σ : zS) : Option Int32 :=
  zb (J_X11_isEvent a1 σ) fun r1 => if r1 = (0 : Int32) then (some (-1 : Int32)) else (zb (J_X11_in (a2.toInt64) (1 : Int64) (100 : Int64) σ) fun r3 => if r3 = (0 : Int32) then (some (-1 : Int32)) else (zb (J_X11_in (a3.toInt64) (0 : Int64) (1 : Int64) σ) fun r5 => if r5 = (0 : Int32) then (some (-1 : Int32)) else (zb (J_X11_total a1 σ) fun r7 => zlet (D_X11_hot_169 a3 σ) fun k169 => L_X11_hot_45 a1 a2 σ r7 k169 4294967296 (-4 : Int32) (1 : Int32))))
/-! EventCountersModel.look -/
def J_X11_look (a1 : Int32) (σ : zS) : Option Int32 :=
  if (σ.1 105 25) ≤ a1 then (some (-1 : Int32)) else (zg (zi a1 320) (some (σ.1 121 a1.toNatClampNeg)))
/-! EventCountersModel.is -/
def J_X11_is (a1 : Int32) (a2 : Int32) (a3 : Int32) (a4 : Int32) (a5 : Int32) (σ : zS) : Option Int32 :=
  if ((σ.1 105 26) - (σ.1 105 27)) = a1 then (zb (J_X11_look (σ.1 105 27) σ) fun r2 => if r2 = a2 then (zb (J_X11_look ((σ.1 105 27) + (1 : Int32)) σ) fun r4 => if r4 = a3 then (zb (J_X11_look ((σ.1 105 27) + (2 : Int32)) σ) fun r6 => if r6 = a4 then (if a1 < (4 : Int32) then (some (1 : Int32)) else (zb (J_X11_look ((σ.1 105 27) + (3 : Int32)) σ) fun r9 => if r9 = a5 then (some (1 : Int32)) else (some (0 : Int32)))) else (some (0 : Int32))) else (some (0 : Int32))) else (some (0 : Int32))) else (some (0 : Int32))
/-! EventCountersModel.isLine -/
def J_X11_isLine (a1 : Int32) (σ : zS) : Option Int32 :=
  zb (J_X11_in (a1.toInt64) (0 : Int64) (((σ.1 105 0) - (1 : Int32)).toInt64) σ) fun r1 => zg (zbl r1) (some r1)
/-! EventCountersModel.isSheet -/
def J_X11_isSheet (a0 : Int32) (a1 : Int32) (σ : zS) : Option Int32 :=
  zb (J_X11_in (a0.toInt64) (0 : Int64) (3 : Int64) σ) fun r1 => if r1 = (0 : Int32) then (some (0 : Int32)) else (zb (J_X11_in (a1.toInt64) (0 : Int64) (2 : Int64) σ) fun r3 => if r3 = (0 : Int32) then (some (0 : Int32)) else (some (1 : Int32)))
/-! EventCountersModel.isWithin -/
def L_X11_isWithin_5 (a2 : Int32) (σ : zS) : Nat → Int32 → Int32 → Option Int32
  | 0, _, _ => none
  | n + 1, w3_5, w4_5 =>
    zlet (L_X11_isWithin_5 a2 σ n) fun r_5 => if w4_5 = (-4 : Int32) then (zg (zbl w3_5) (some w3_5)) else (zlet (if w3_5 = (0 : Int32) then (if w4_5 = a2 then (1 : Int32) else (0 : Int32)) else (1 : Int32)) fun v3 => zg (zi w4_5 40) (zlet (σ.1 110 w4_5.toNatClampNeg) fun v5 => r_5 v3 v5))
def J_X11_isWithin (a1 : Int32) (a2 : Int32) (σ : zS) : Option Int32 :=
  L_X11_isWithin_5 a2 σ 4294967296 (0 : Int32) a1
/-! EventCountersModel.keep -/
def D_X11_keep_66 (r_10 : Int32 → zS → Option (Int32 × zS)) (w1_10 : Int32) (σ_66 : zS) : Option (Int32 × zS) :=
  zlet (w1_10 + (1 : Int32)) fun v3 => r_10 v3 σ_66
def L_X11_keep_18 (w1_10 : Int32) (k66 : zS → Option (Int32 × zS)) : Nat → Int32 → zS → Option (Int32 × zS)
  | 0, _, _ => none
  | n + 1, w2_18, σ_18 =>
    zlet (L_X11_keep_18 w1_10 k66 n) fun r_18 => if (8 : Int32) ≤ w2_18 then (k66 σ_18) else (if (σ_18.1 105 0) ≤ w1_10 then (zg (zi (((8 : Int32) * w1_10) + w2_18) 128) (zlet (zsI σ_18 124 (((8 : Int32) * w1_10) + w2_18).toNatClampNeg (0 : Int32)) fun σ7 => zlet (w2_18 + (1 : Int32)) fun v8 => r_18 v8 σ7)) else (zg (zi w1_10 16) (zb (J_X11_made w1_10 w2_18 σ_18) fun r10 => zg (zi (((8 : Int32) * w1_10) + w2_18) 128) (zlet (zsI σ_18 124 (((8 : Int32) * w1_10) + w2_18).toNatClampNeg ((σ_18.1 112 w1_10.toNatClampNeg) * r10)) fun σ12 => zlet (w2_18 + (1 : Int32)) fun v13 => r_18 v13 σ12))))
def L_X11_keep_10 : Nat → Int32 → zS → Option (Int32 × zS)
  | 0, _, _ => none
  | n + 1, w1_10, σ_10 =>
    zlet (L_X11_keep_10 n) fun r_10 => if (16 : Int32) ≤ w1_10 then (some ((σ_10.1 105 34), σ_10)) else (zlet (D_X11_keep_66 r_10 w1_10) fun k66 => L_X11_keep_18 w1_10 k66 4294967296 (0 : Int32) σ_10)
def J_X11_keep (σ : zS) : Option (Int32 × zS) :=
  zlet (zsI σ 105 34 (σ.1 105 0)) fun σ1 => L_X11_keep_10 4294967296 (0 : Int32) σ1
/-! EventCountersModel.linesIn -/
def L_X11_linesIn_4 (a1 : Int32) (σ : zS) : Nat → Int32 → Int32 → Option Int32
  | 0, _, _ => none
  | n + 1, w2_4, w3_4 =>
    zlet (L_X11_linesIn_4 a1 σ n) fun r_4 => if (σ.1 105 0) ≤ w3_4 then (some w2_4) else (zg (zi w3_4 16) (zb (J_X11_isWithin (σ.1 108 w3_4.toNatClampNeg) a1 σ) fun r3 => zlet (if r3 = (0 : Int32) then (0 : Int32) else ((1 : Int32) <<< (w3_4 &&& 31))) fun v4 => zlet (w2_4 ||| v4) fun v5 => zlet (w3_4 + (1 : Int32)) fun v6 => r_4 v5 v6))
def J_X11_linesIn (a1 : Int32) (σ : zS) : Option Int32 :=
  L_X11_linesIn_4 a1 σ 4294967296 (0 : Int32) (0 : Int32)
/-! EventCountersModel.walk -/
def D_X11_walk_90 (r_7 : Int32 → zS → Option zS) (w1_7 : Int32) (σ_7 : zS) (v4 : Int32) (v17 : Int32) (x0_90 : Int32) : Option zS :=
  zg (zi v17 40) (zlet (zsI σ_7 122 v17.toNatClampNeg x0_90) fun σ19 => zg (zi (v4 - (100 : Int32)) 40) (zlet (zsI σ19 123 (v4 - (100 : Int32)).toNatClampNeg w1_7) fun σ21 => zlet (w1_7 + (1 : Int32)) fun v22 => r_7 v22 σ21))
def L_X11_walk_7 : Nat → Int32 → zS → Option zS
  | 0, _, _ => none
  | n + 1, w1_7, σ_7 =>
    zlet (L_X11_walk_7 n) fun r_7 => if (σ_7.1 105 22) ≤ w1_7 then (some σ_7) else (zg (zi w1_7 100) (zlet (σ_7.1 119 w1_7.toNatClampNeg) fun v4 => if (100 : Int32) ≤ v4 then (if (200 : Int32) ≤ v4 then (zg (zi (v4 - (200 : Int32)) 40) (zg (zi (v4 - (200 : Int32)) 40) (zlet (zsI σ_7 122 (v4 - (200 : Int32)).toNatClampNeg ((σ_7.1 122 (v4 - (200 : Int32)).toNatClampNeg) - (1 : Int32))) fun σ9 => zg (zi (v4 - (200 : Int32)) 40) (if (σ9.1 122 (v4 - (200 : Int32)).toNatClampNeg) ≤ (0 : Int32) then (zlet (w1_7 + (1 : Int32)) fun v12 => r_7 v12 σ9) else (zg (zi (v4 - (200 : Int32)) 40) (zlet (σ9.1 123 (v4 - (200 : Int32)).toNatClampNeg) fun v14 => zlet (v14 + (1 : Int32)) fun v15 => r_7 v15 σ9)))))) else (zb (J_X11_linesIn (v4 - (100 : Int32)) σ_7) fun r16 => zlet (v4 - (100 : Int32)) fun v17 => zlet (D_X11_walk_90 r_7 w1_7 σ_7 v4 v17) fun k90 => if r16 = (0 : Int32) then (k90 (1 : Int32)) else (zg (zi (v4 - (100 : Int32)) 40) (k90 (σ_7.1 109 (v4 - (100 : Int32)).toNatClampNeg))))) else (zg (zi (σ_7.1 105 7) 6000) (zlet (zsI σ_7 111 (σ_7.1 105 7).toNatClampNeg v4) fun σ26 => zlet (zsI σ26 105 7 ((σ26.1 105 7) + (1 : Int32))) fun σ27 => zlet (w1_7 + (1 : Int32)) fun v28 => r_7 v28 σ27))))
def J_X11_walk (σ : zS) : Option zS :=
  zlet (zsI σ 105 7 (0 : Int32)) fun σ1 => L_X11_walk_7 4294967296 (0 : Int32) σ1
/-! EventCountersModel.keepProgram -/
def D_X11_keepProgram_198 (σ_198 : zS) : Option zS :=
  zb (J_X11_walk σ_198) fun σ6 => zlet (zsI σ6 105 49 (0 : Int32)) fun σ7 => some σ7
def L_X11_keepProgram_172 (k198 : zS → Option zS) : Nat → Int32 → zS → Option zS
  | 0, _, _ => none
  | n + 1, w1_172, σ_172 =>
    zlet (L_X11_keepProgram_172 k198 n) fun r_172 => if (σ_172.1 105 22) ≤ w1_172 then (k198 σ_172) else (zg (zi w1_172 100) (zg (zi w1_172 100) (zlet (zsI σ_172 119 w1_172.toNatClampNeg (σ_172.1 120 w1_172.toNatClampNeg)) fun σ11 => zlet (w1_172 + (1 : Int32)) fun v12 => r_172 v12 σ11)))
def D_X11_keepProgram_170 (σ_170 : zS) : Option zS :=
  zlet (D_X11_keepProgram_198) fun k198 => L_X11_keepProgram_172 k198 4294967296 (0 : Int32) σ_170
def L_X11_keepProgram_132 (k170 : zS → Option zS) : Nat → Int32 → zS → Option zS
  | 0, _, _ => none
  | n + 1, w1_132, σ_132 =>
    zlet (L_X11_keepProgram_132 k170 n) fun r_132 => if (σ_132.1 105 4) ≤ w1_132 then (k170 σ_132) else (zg (zi w1_132 40) (zg (zi w1_132 40) (zlet (zsI σ_132 109 w1_132.toNatClampNeg (σ_132.1 116 w1_132.toNatClampNeg)) fun σ16 => zg (zi w1_132 40) (zg (zi w1_132 40) (zlet (zsI σ16 110 w1_132.toNatClampNeg (σ16.1 117 w1_132.toNatClampNeg)) fun σ19 => zlet (w1_132 + (1 : Int32)) fun v20 => r_132 v20 σ19)))))
def D_X11_keepProgram_130 (σ_130 : zS) : Option zS :=
  zlet (D_X11_keepProgram_170) fun k170 => L_X11_keepProgram_132 k170 4294967296 (0 : Int32) σ_130
def L_X11_keepProgram_105 (k130 : zS → Option zS) : Nat → Int32 → zS → Option zS
  | 0, _, _ => none
  | n + 1, w1_105, σ_105 =>
    zlet (L_X11_keepProgram_105 k130 n) fun r_105 => if (128 : Int32) ≤ w1_105 then (k130 σ_105) else (zg (zi w1_105 128) (zg (zi w1_105 128) (zlet (zsI σ_105 107 w1_105.toNatClampNeg (σ_105.1 114 w1_105.toNatClampNeg)) fun σ24 => zlet (w1_105 + (1 : Int32)) fun v25 => r_105 v25 σ24)))
def D_X11_keepProgram_103 (σ_103 : zS) : Option zS :=
  zlet (D_X11_keepProgram_130) fun k130 => L_X11_keepProgram_105 k130 4294967296 (0 : Int32) σ_103
def L_X11_keepProgram_31 (k103 : zS → Option zS) : Nat → Int32 → zS → Option zS
  | 0, _, _ => none
  | n + 1, w1_31, σ_31 =>
    zlet (L_X11_keepProgram_31 k103 n) fun r_31 => if (σ_31.1 105 0) ≤ w1_31 then (k103 σ_31) else (zg (zi w1_31 16) (zg (zi w1_31 16) (zlet (zsI σ_31 106 w1_31.toNatClampNeg (σ_31.1 113 w1_31.toNatClampNeg)) fun σ29 => zg (zi w1_31 16) (zg (zi w1_31 16) (zlet (zsI σ29 108 w1_31.toNatClampNeg (σ29.1 115 w1_31.toNatClampNeg)) fun σ32 => zb (J_X11_dTimes w1_31 σ32) fun r33 => zg (zi w1_31 16) (zlet (zsI σ32 112 w1_31.toNatClampNeg (r33.toInt32)) fun σ35 => zg (zi w1_31 16) (zg (zi w1_31 16) (zlet (zsI σ35 105 10 ((σ35.1 105 10) + ((σ35.1 106 w1_31.toNatClampNeg) * (σ35.1 112 w1_31.toNatClampNeg)))) fun σ38 => zlet (w1_31 + (1 : Int32)) fun v39 => r_31 v39 σ38))))))))
def J_X11_keepProgram (σ : zS) : Option zS :=
  zlet (zsI σ 105 0 (σ.1 105 11)) fun σ1 => zlet (zsI σ1 105 4 (σ1.1 105 15)) fun σ2 => zlet (zsI σ2 105 22 (σ2.1 105 23)) fun σ3 => zlet (zsI σ3 105 10 (0 : Int32)) fun σ4 => zlet (D_X11_keepProgram_103) fun k103 => L_X11_keepProgram_31 k103 4294967296 (0 : Int32) σ4
/-! EventCountersModel.lay -/
def J_X11_lay (a1 : Int32) (a2 : Int32) (a3 : Int32) (σ : zS) : Option (Int32 × zS) :=
  zb (J_X11_isSheet a1 (0 : Int32) σ) fun r1 => if r1 = (0 : Int32) then (some ((-1 : Int32), σ)) else (zg (zi a1 4) (if (σ.1 134 a1.toNatClampNeg) = (-4 : Int32) then (some ((-11 : Int32), σ)) else (zg (zi a1 4) (zb (J_X11_in (a2.toInt64) (0 : Int64) (((σ.1 135 a1.toNatClampNeg) - (1 : Int32)).toInt64) σ) fun r6 => if r6 = (0 : Int32) then (some ((-12 : Int32), σ)) else (zg (zi a1 4) (if (σ.1 134 a1.toNatClampNeg) = (0 : Int32) then (zg (zi (((40 : Int32) * a1) + a2) 160) (zlet (zsI σ 136 (((40 : Int32) * a1) + a2).toNatClampNeg (a3.toInt8.toInt32)) fun σ17 => some ((1 : Int32), σ17))) else (zg (zi a1 4) (if (σ.1 134 a1.toNatClampNeg) = (1 : Int32) then (zg (zi (((40 : Int32) * a1) + a2) 160) (zlet (zsI σ 136 (((40 : Int32) * a1) + a2).toNatClampNeg (a3.toInt16.toInt32)) fun σ15 => some ((1 : Int32), σ15))) else (zg (zi (((40 : Int32) * a1) + a2) 160) (zlet (zsI σ 136 (((40 : Int32) * a1) + a2).toNatClampNeg a3) fun σ13 => some ((1 : Int32), σ13)))))))))))
/-! EventCountersModel.line -/
def J_X11_line (a1 : Int32) (a2 : Int32) (σ : zS) : Option Int32 :=
  zb (J_X11_isLine a1 σ) fun r1 => if r1 = (0 : Int32) then (some (-1 : Int32)) else (zb (J_X11_in (a2.toInt64) (10 : Int64) (17 : Int64) σ) fun r3 => if r3 = (0 : Int32) then (if a2 = (0 : Int32) then (zg (zi a1 16) (some (σ.1 106 a1.toNatClampNeg))) else (if a2 = (1 : Int32) then (zg (zi a1 16) (some (σ.1 112 a1.toNatClampNeg))) else (if a2 = (2 : Int32) then (zg (zi a1 16) (zb (J_X11_depthOf (σ.1 108 a1.toNatClampNeg) σ) fun r9 => some r9)) else (some (-1 : Int32))))) else (zb (J_X11_made a1 (a2 - (10 : Int32)) σ) fun r12 => some r12))
/-! EventCountersModel.toldBy -/
def D_X11_toldBy_122 (v2 : Int32) (w7_122 : Int32) (w8_122 : Int32) (σ_122 : zS) : Option (Int32 × zS) :=
  zn v2 (some ((w8_122 + (w7_122 - w7_122 / v2 * v2)), σ_122))
def D_X11_toldBy_78 (a2 : Int32) (r_30 : Int32 → Int32 → Int32 → Int32 → Int32 → zS → Option (Int32 × zS)) (w5_30 : Int32) (w9_30 : Int32) (w7_78 : Int32) (w8_78 : Int32) (σ_78 : zS) : Option (Int32 × zS) :=
  zg (zi w9_30 6000) (zb (J_X11_made (σ_78.1 111 w9_30.toNatClampNeg) a2 σ_78) fun r7 => zlet (w7_78 + r7) fun v8 => zg (zi w9_30 6000) (zg (zi (σ_78.1 111 w9_30.toNatClampNeg) 16) (zlet (w5_30 + (σ_78.1 106 (σ_78.1 111 w9_30.toNatClampNeg).toNatClampNeg)) fun v11 => zlet (w9_30 + (1 : Int32)) fun v12 => r_30 v11 w5_30 v8 w8_78 v12 σ_78)))
def L_X11_toldBy_30 (a2 : Int32) (a3 : Int32) (v2 : Int32) (k122 : Int32 → Int32 → zS → Option (Int32 × zS)) : Nat → Int32 → Int32 → Int32 → Int32 → Int32 → zS → Option (Int32 × zS)
  | 0, _, _, _, _, _, _ => none
  | n + 1, w5_30, w6_30, w7_30, w8_30, w9_30, σ_30 =>
    zlet (L_X11_toldBy_30 a2 a3 v2 k122 n) fun r_30 => if (σ_30.1 105 7) ≤ w9_30 then (k122 w7_30 w8_30 σ_30) else (zlet (D_X11_toldBy_78 a2 r_30 w5_30 w9_30) fun k78 => if w9_30 ≤ (0 : Int32) then (k78 w7_30 w8_30 σ_30) else (zn a3 (zn a3 (if (w5_30 / a3) = (w6_30 / a3) then (k78 w7_30 w8_30 σ_30) else (zlet (zsI σ_30 105 48 ((σ_30.1 105 48) + (1 : Int32))) fun σ17 => zn v2 (zlet (w8_30 + (w7_30 - w7_30 / v2 * v2)) fun v19 => k78 (0 : Int32) v19 σ17))))))
def J_X11_toldBy (a1 : Int32) (a2 : Int32) (a3 : Int32) (σ : zS) : Option (Int32 × zS) :=
  zg (zi a1 4) (zlet ((1 : Int32) <<< ((σ.1 126 a1.toNatClampNeg) &&& 31)) fun v2 => zlet (zsI σ 105 48 (1 : Int32)) fun σ3 => zlet (D_X11_toldBy_122 v2) fun k122 => L_X11_toldBy_30 a2 a3 v2 k122 4294967296 (0 : Int32) (0 : Int32) (0 : Int32) (0 : Int32) (0 : Int32) σ3)
/-! EventCountersModel.looked -/
def J_X11_looked (a1 : Int32) (a2 : Int32) (a3 : Int32) (a4 : Int32) (σ : zS) : Option (Int32 × zS) :=
  zb (J_X11_canCount a1 a2 σ) fun r1 => if r1 = (0 : Int32) then (some ((-1 : Int32), σ)) else (zb (J_X11_in (a3.toInt64) (1 : Int64) (999 : Int64) σ) fun r3 => if r3 = (0 : Int32) then (some ((-1 : Int32), σ)) else (zb (J_X11_in (a4.toInt64) (0 : Int64) (2 : Int64) σ) fun r5 => if r5 = (0 : Int32) then (some ((-1 : Int32), σ)) else (zb2 (J_X11_toldBy a1 a2 a3 σ) fun r7 σ8 => if a4 = (0 : Int32) then (some (r7, σ8)) else (if a4 = (1 : Int32) then (zb (J_X11_total a2 σ8) fun r11 => some ((r11 - r7), σ8)) else (some ((σ8.1 105 48), σ8))))))
/-! EventCountersModel.loop -/
def D_X11_loop_124 (a1 : Int32) (a2 : Int32) (σ : zS) (w3_69 : Int32) (r7 : Int32) (w5_124 : Int32) : Option Int32 :=
  if a2 = (0 : Int32) then (zg (zi a1 40) (some (σ.1 109 a1.toNatClampNeg))) else (if a2 = (1 : Int32) then (zg (zi a1 40) (zb (J_X11_depthOf (σ.1 110 a1.toNatClampNeg) σ) fun r13 => some r13)) else (if a2 = (2 : Int32) then (some r7) else (if a2 = (3 : Int32) then (some w3_69) else (some w5_124))))
def L_X11_loop_82 (σ : zS) (r7 : Int32) (k124 : Int32 → Option Int32) : Nat → Int32 → Int32 → Option Int32
  | 0, _, _ => none
  | n + 1, w5_82, w6_82 =>
    zlet (L_X11_loop_82 σ r7 k124 n) fun r_82 => if (σ.1 105 0) ≤ w6_82 then (k124 w5_82) else (if ((r7 >>> (w6_82 &&& 31)) &&& (1 : Int32)) = (1 : Int32) then (zg (zi w6_82 16) (zlet (w5_82 + (σ.1 112 w6_82.toNatClampNeg)) fun v20 => zlet (w6_82 + (1 : Int32)) fun v21 => r_82 v20 v21)) else (zlet (w5_82 + (0 : Int32)) fun v17 => zlet (w6_82 + (1 : Int32)) fun v18 => r_82 v17 v18))
def D_X11_loop_69 (a1 : Int32) (a2 : Int32) (σ : zS) (w3_69 : Int32) : Option Int32 :=
  zb (J_X11_linesIn a1 σ) fun r7 => zlet (D_X11_loop_124 a1 a2 σ w3_69 r7) fun k124 => L_X11_loop_82 σ r7 k124 4294967296 (0 : Int32) (0 : Int32)
def L_X11_loop_40 (σ : zS) (k69 : Int32 → Option Int32) : Nat → Int32 → Int32 → Option Int32
  | 0, _, _ => none
  | n + 1, w3_40, w4_40 =>
    zlet (L_X11_loop_40 σ k69 n) fun r_40 => if w4_40 = (-4 : Int32) then (k69 w3_40) else (zg (zi w4_40 40) (zlet (w3_40 * (σ.1 109 w4_40.toNatClampNeg)) fun v24 => zg (zi w4_40 40) (zlet (σ.1 110 w4_40.toNatClampNeg) fun v26 => r_40 v24 v26)))
def J_X11_loop (a1 : Int32) (a2 : Int32) (σ : zS) : Option Int32 :=
  zb (J_X11_in (a1.toInt64) (0 : Int64) (((σ.1 105 4) - (1 : Int32)).toInt64) σ) fun r1 => if r1 = (0 : Int32) then (some (-1 : Int32)) else (zb (J_X11_in (a2.toInt64) (0 : Int64) (4 : Int64) σ) fun r3 => if r3 = (0 : Int32) then (some (-1 : Int32)) else (zg (zi a1 40) (zlet (σ.1 110 a1.toNatClampNeg) fun v6 => zlet (D_X11_loop_69 a1 a2 σ) fun k69 => L_X11_loop_40 σ k69 4294967296 (1 : Int32) v6)))
/-! EventCountersModel.mask -/
def J_X11_mask (a1 : Int32) (a2 : Int32) (σ : zS) : Option (Int32 × zS) :=
  zb (J_X11_isCounter a1 σ) fun r1 => if r1 = (0 : Int32) then (some ((-1 : Int32), σ)) else (zb (J_X11_in (a2.toInt64) (0 : Int64) (255 : Int64) σ) fun r3 => if r3 = (0 : Int32) then (some ((-1 : Int32), σ)) else (zg (zi a1 4) (zlet (σ.1 125 a1.toNatClampNeg) fun v6 => zg (zi a1 4) (zlet (zsI σ 125 a1.toNatClampNeg a2) fun σ8 => some (v6, σ8)))))
/-! EventCountersModel.nameNow -/
def J_X11_nameNow (σ : zS) : Option Int32 :=
  zb (J_X11_is (4 : Int32) (108 : Int32) (105 : Int32) (110 : Int32) (101 : Int32) σ) fun r1 => if r1 = (0 : Int32) then (zb (J_X11_is (4 : Int32) (108 : Int32) (111 : Int32) (111 : Int32) (112 : Int32) σ) fun r3 => if r3 = (0 : Int32) then (zb (J_X11_is (3 : Int32) (101 : Int32) (110 : Int32) (100 : Int32) (0 : Int32) σ) fun r5 => if r5 = (0 : Int32) then (some (-4 : Int32)) else (some (2 : Int32))) else (some (1 : Int32))) else (some (0 : Int32))
/-! EventCountersModel.wants -/
def J_X11_wants (a1 : Int32) (a2 : Int32) (σ : zS) : Option zS :=
  if a1 = (0 : Int32) then (if (σ.1 105 30) = (0 : Int32) then (zlet (zsI σ 105 30 a2) fun σ3 => zlet (zsI σ3 105 31 (σ3.1 105 27)) fun σ4 => some σ4) else (some σ)) else (some σ)
/-! EventCountersModel.next -/
def D_X11_next_217 (σ_217 : zS) : Option zS :=
  zlet (if (2 : Int32) < ((σ_217.1 105 26) - (σ_217.1 105 27)) then (0 : Int32) else (1 : Int32)) fun v18 => zb (J_X11_wants v18 (1 : Int32) σ_217) fun σ20 => some σ20
def D_X11_next_201 (r_140 : zS → Option zS) (σ_140 : zS) (x0_201 : Int32) : Option zS :=
  zlet (zsI σ_140 105 29 x0_201) fun σ26 => zlet (zsI σ26 105 26 ((σ26.1 105 26) + (1 : Int32))) fun σ27 => r_140 σ27
def L_X11_next_140 (k217 : zS → Option zS) : Nat → zS → Option zS
  | 0, _ => none
  | n + 1, σ_140 =>
    zlet (L_X11_next_140 k217 n) fun r_140 => zb (J_X11_look (σ_140.1 105 26) σ_140) fun r23 => zb (J_X11_in (r23.toInt64) (48 : Int64) (57 : Int64) σ_140) fun r24 => if r24 = (0 : Int32) then (k217 σ_140) else (zlet (D_X11_next_201 r_140 σ_140) fun k201 => if (2 : Int32) ≤ ((σ_140.1 105 26) - (σ_140.1 105 27)) then (k201 (σ_140.1 105 29)) else (zb (J_X11_look (σ_140.1 105 26) σ_140) fun r29 => k201 ((((10 : Int32) * (σ_140.1 105 29)) + r29) - (48 : Int32))))
def L_X11_next_82 : Nat → zS → Option zS
  | 0, _ => none
  | n + 1, σ_82 =>
    zlet (L_X11_next_82 n) fun r_82 => zb (J_X11_look (σ_82.1 105 26) σ_82) fun r31 => zb (J_X11_in (r31.toInt64) (97 : Int64) (122 : Int64) σ_82) fun r32 => if r32 = (0 : Int32) then (some σ_82) else (zlet (zsI σ_82 105 26 ((σ_82.1 105 26) + (1 : Int32))) fun σ34 => r_82 σ34)
def D_X11_next_34 (σ_34 : zS) : Option zS :=
  zlet (zsI σ_34 105 27 (σ_34.1 105 26)) fun σ2 => zb (J_X11_look (σ2.1 105 26) σ2) fun r3 => if (0 : Int32) ≤ r3 then (zb (J_X11_in (r3.toInt64) (97 : Int64) (122 : Int64) σ2) fun r5 => if r5 = (0 : Int32) then (zb (J_X11_in (r3.toInt64) (48 : Int64) (57 : Int64) σ2) fun r7 => if r7 = (0 : Int32) then (zlet (zsI σ2 105 28 (3 : Int32)) fun σ9 => zlet (if r3 = (59 : Int32) then (1 : Int32) else (0 : Int32)) fun v10 => zb (J_X11_wants v10 (1 : Int32) σ9) fun σ12 => zlet (zsI σ12 105 26 ((σ12.1 105 26) + (1 : Int32))) fun σ13 => some σ13) else (zlet (zsI σ2 105 28 (2 : Int32)) fun σ16 => zlet (zsI σ16 105 29 (0 : Int32)) fun σ17 => zlet (D_X11_next_217) fun k217 => L_X11_next_140 k217 4294967296 σ17)) else (zlet (zsI σ2 105 28 (1 : Int32)) fun σ30 => L_X11_next_82 4294967296 σ30)) else (zlet (zsI σ2 105 28 (0 : Int32)) fun σ35 => some σ35)
def L_X11_next_8 (k34 : zS → Option zS) : Nat → zS → Option zS
  | 0, _ => none
  | n + 1, σ_8 =>
    zlet (L_X11_next_8 k34 n) fun r_8 => zb (J_X11_look (σ_8.1 105 26) σ_8) fun r36 => if r36 = (32 : Int32) then (zlet (zsI σ_8 105 26 ((σ_8.1 105 26) + (1 : Int32))) fun σ38 => r_8 σ38) else (k34 σ_8)
def J_X11_next (σ : zS) : Option zS :=
  if (σ.1 105 30) ≤ (0 : Int32) then (zlet (D_X11_next_34) fun k34 => L_X11_next_8 k34 4294967296 σ) else (some σ)
/-! EventCountersModel.over -/
def J_X11_over (a1 : Int32) (a2 : Int32) (a3 : Int32) (a4 : Int32) (σ : zS) : Option Int32 :=
  zb (J_X11_canCount a1 a2 σ) fun r1 => if r1 = (0 : Int32) then (some (-1 : Int32)) else (zg (zi a1 4) (zb (J_X11_in (a3.toInt64) (0 : Int64) ((((1 : Int32) <<< ((σ.1 126 a1.toNatClampNeg) &&& 31)) - (1 : Int32)).toInt64) σ) fun r4 => if r4 = (0 : Int32) then (some (-1 : Int32)) else (zb (J_X11_in (a4.toInt64) (0 : Int64) (1 : Int64) σ) fun r6 => if r6 = (0 : Int32) then (some (-1 : Int32)) else (zb (J_X11_total a2 σ) fun r8 => zlet (a3 + r8) fun v9 => if a4 = (0 : Int32) then (zg (zi a1 4) (some (v9 &&& (((1 : Int32) <<< ((σ.1 126 a1.toNatClampNeg) &&& 31)) - (1 : Int32))))) else (zg (zi a1 4) (some (v9 >>> ((σ.1 126 a1.toNatClampNeg) &&& 31))))))))
/-! EventCountersModel.readEnd -/
def D_X11_readEnd_66 (σ_66 : zS) : Option zS :=
  zb (J_X11_next σ_66) fun σ5 => some σ5
def J_X11_readEnd (σ : zS) : Option zS :=
  zlet (if (σ.1 105 19) ≤ (0 : Int32) then (0 : Int32) else (1 : Int32)) fun v1 => zb (J_X11_wants v1 (2 : Int32) σ) fun σ3 => zlet (D_X11_readEnd_66) fun k66 => if (σ3.1 105 30) = (0 : Int32) then (zlet (zsI σ3 105 19 ((σ3.1 105 19) - (1 : Int32))) fun σ7 => zg (zi (σ7.1 105 19) 5) (zg (zi (σ7.1 105 23) 100) (zlet (zsI σ7 120 (σ7.1 105 23).toNatClampNeg ((200 : Int32) + (σ7.1 118 (σ7.1 105 19).toNatClampNeg))) fun σ10 => zlet (zsI σ10 105 23 ((σ10.1 105 23) + (1 : Int32))) fun σ11 => k66 σ11))) else (k66 σ3)
/-! EventCountersModel.readNumber -/
def D_X11_readNumber_49 (σ_49 : zS) : Option (Int32 × zS) :=
  zlet (σ_49.1 105 29) fun v1 => zb (J_X11_next σ_49) fun σ3 => some (v1, σ3)
def D_X11_readNumber_25 (a1 : Int32) (a2 : Int32) (σ_25 : zS) : Option (Int32 × zS) :=
  zlet (D_X11_readNumber_49) fun k49 => if (σ_25.1 105 30) = (0 : Int32) then (zb (J_X11_in ((σ_25.1 105 29).toInt64) (a1.toInt64) (a2.toInt64) σ_25) fun r5 => zb (J_X11_wants r5 (3 : Int32) σ_25) fun σ7 => k49 σ7) else (k49 σ_25)
def J_X11_readNumber (a1 : Int32) (a2 : Int32) (σ : zS) : Option (Int32 × zS) :=
  zlet (D_X11_readNumber_25 a1 a2) fun k25 => if (σ.1 105 30) = (0 : Int32) then (zlet (if (σ.1 105 28) = (2 : Int32) then (1 : Int32) else (0 : Int32)) fun v9 => zb (J_X11_wants v9 (2 : Int32) σ) fun σ11 => k25 σ11) else (k25 σ)
/-! EventCountersModel.readEvents -/
def D_X11_readEvents_89 (r_2 : Int32 → zS → Option zS) (w1_2 : Int32) (v4 : Int32) (σ_89 : zS) : Option zS :=
  zb (J_X11_next σ_89) fun σ8 => zb2 (J_X11_readNumber (0 : Int32) (99 : Int32) σ8) fun r9 σ10 => if (σ10.1 105 30) = (0 : Int32) then (zlet (w1_2 ||| ((1 : Int32) <<< (v4 &&& 31))) fun v12 => zg (zi (((8 : Int32) * (σ10.1 105 11)) + v4) 128) (zlet (zsI σ10 114 (((8 : Int32) * (σ10.1 105 11)) + v4).toNatClampNeg r9) fun σ14 => r_2 v12 σ14)) else (r_2 w1_2 σ10)
def D_X11_readEvents_60 (r_2 : Int32 → zS → Option zS) (w1_2 : Int32) (σ_2 : zS) (v4 : Int32) (x0_60 : Int32) : Option zS :=
  zb (J_X11_wants x0_60 (3 : Int32) σ_2) fun σ6 => zlet (D_X11_readEvents_89 r_2 w1_2 v4) fun k89 => if (σ6.1 105 30) = (0 : Int32) then (zlet (if ((w1_2 >>> (v4 &&& 31)) &&& (1 : Int32)) = (0 : Int32) then (1 : Int32) else (0 : Int32)) fun v16 => zb (J_X11_wants v16 (4 : Int32) σ6) fun σ18 => k89 σ18) else (k89 σ6)
def L_X11_readEvents_2 : Nat → Int32 → zS → Option zS
  | 0, _, _ => none
  | n + 1, w1_2, σ_2 =>
    zlet (L_X11_readEvents_2 n) fun r_2 => if (σ_2.1 105 30) = (0 : Int32) then (if (σ_2.1 105 28) = (1 : Int32) then (zb (J_X11_look (σ_2.1 105 27) σ_2) fun r3 => zlet (r3 - (97 : Int32)) fun v4 => zlet (D_X11_readEvents_60 r_2 w1_2 σ_2 v4) fun k60 => if ((σ_2.1 105 26) - (σ_2.1 105 27)) = (1 : Int32) then (zb (J_X11_in (v4.toInt64) (0 : Int64) (7 : Int64) σ_2) fun r22 => if r22 = (0 : Int32) then (k60 (0 : Int32)) else (k60 (1 : Int32))) else (k60 (0 : Int32))) else (some σ_2)) else (some σ_2)
def J_X11_readEvents (σ : zS) : Option zS :=
  L_X11_readEvents_2 4294967296 (0 : Int32) σ
/-! EventCountersModel.readLine -/
def D_X11_readLine_119 (σ12 : zS) (v13 : Int32) (x0_119 : Int32) : Option zS :=
  zg (zi v13 16) (zlet (zsI σ12 115 v13.toNatClampNeg x0_119) fun σ15 => zg (zi (σ15.1 105 23) 100) (zlet (zsI σ15 120 (σ15.1 105 23).toNatClampNeg (σ15.1 105 11)) fun σ17 => zlet (zsI σ17 105 23 ((σ17.1 105 23) + (1 : Int32))) fun σ18 => zlet (zsI σ18 105 11 ((σ18.1 105 11) + (1 : Int32))) fun σ19 => some σ19))
def D_X11_readLine_67 (r6 : Int32) (σ_67 : zS) : Option zS :=
  zb (J_X11_readEvents σ_67) fun σ9 => if (σ9.1 105 30) = (0 : Int32) then (zg (zi (σ9.1 105 11) 16) (zlet (zsI σ9 113 (σ9.1 105 11).toNatClampNeg r6) fun σ12 => zlet (σ12.1 105 11) fun v13 => zlet (D_X11_readLine_119 σ12 v13) fun k119 => if (σ12.1 105 19) = (0 : Int32) then (k119 (-4 : Int32)) else (zg (zi ((σ12.1 105 19) - (1 : Int32)) 5) (k119 (σ12.1 118 ((σ12.1 105 19) - (1 : Int32)).toNatClampNeg))))) else (some σ9)
def L_X11_readLine_33 (k67 : zS → Option zS) : Nat → Int32 → zS → Option zS
  | 0, _, _ => none
  | n + 1, w2_33, σ_33 =>
    zlet (L_X11_readLine_33 k67 n) fun r_33 => if (8 : Int32) ≤ w2_33 then (k67 σ_33) else (if (σ_33.1 105 30) = (0 : Int32) then (zg (zi (((8 : Int32) * (σ_33.1 105 11)) + w2_33) 128) (zlet (zsI σ_33 114 (((8 : Int32) * (σ_33.1 105 11)) + w2_33).toNatClampNeg (0 : Int32)) fun σ25 => zlet (w2_33 + (1 : Int32)) fun v26 => r_33 v26 σ25)) else (k67 σ_33))
def J_X11_readLine (σ : zS) : Option zS :=
  zlet (if (16 : Int32) ≤ (σ.1 105 11) then (0 : Int32) else (1 : Int32)) fun v1 => zb (J_X11_wants v1 (5 : Int32) σ) fun σ3 => zb (J_X11_next σ3) fun σ5 => zb2 (J_X11_readNumber (1 : Int32) (20 : Int32) σ5) fun r6 σ7 => zlet (D_X11_readLine_67 r6) fun k67 => L_X11_readLine_33 k67 4294967296 (0 : Int32) σ7
/-! EventCountersModel.readLoop -/
def D_X11_readLoop_78 (σ10 : zS) (v11 : Int32) (x0_78 : Int32) : Option zS :=
  zg (zi v11 40) (zlet (zsI σ10 117 v11.toNatClampNeg x0_78) fun σ13 => zg (zi (σ13.1 105 19) 5) (zlet (zsI σ13 118 (σ13.1 105 19).toNatClampNeg (σ13.1 105 15)) fun σ15 => zg (zi (σ15.1 105 23) 100) (zlet (zsI σ15 120 (σ15.1 105 23).toNatClampNeg ((100 : Int32) + (σ15.1 105 15))) fun σ17 => zlet (zsI σ17 105 23 ((σ17.1 105 23) + (1 : Int32))) fun σ18 => zlet (zsI σ18 105 15 ((σ18.1 105 15) + (1 : Int32))) fun σ19 => zlet (zsI σ19 105 19 ((σ19.1 105 19) + (1 : Int32))) fun σ20 => some σ20)))
def J_X11_readLoop (σ : zS) : Option zS :=
  zlet (if (4 : Int32) ≤ (σ.1 105 19) then (0 : Int32) else (1 : Int32)) fun v1 => zb (J_X11_wants v1 (5 : Int32) σ) fun σ3 => zb (J_X11_next σ3) fun σ5 => zb2 (J_X11_readNumber (1 : Int32) (99 : Int32) σ5) fun r6 σ7 => if (σ7.1 105 30) = (0 : Int32) then (zg (zi (σ7.1 105 15) 40) (zlet (zsI σ7 116 (σ7.1 105 15).toNatClampNeg r6) fun σ10 => zlet (σ10.1 105 15) fun v11 => zlet (D_X11_readLoop_78 σ10 v11) fun k78 => if (σ10.1 105 19) = (0 : Int32) then (k78 (-4 : Int32)) else (zg (zi ((σ10.1 105 19) - (1 : Int32)) 5) (k78 (σ10.1 118 ((σ10.1 105 19) - (1 : Int32)).toNatClampNeg))))) else (some σ7)
/-! EventCountersModel.readItem -/
def D_X11_readItem_91 (σ_91 : zS) : Option zS :=
  zb (J_X11_next σ_91) fun σ5 => some σ5
def D_X11_readItem_66 (σ_66 : zS) : Option zS :=
  zlet (D_X11_readItem_91) fun k91 => if (σ_66.1 105 30) = (0 : Int32) then (zlet (if (σ_66.1 105 28) = (3 : Int32) then (1 : Int32) else (0 : Int32)) fun v7 => zb (J_X11_wants v7 (2 : Int32) σ_66) fun σ9 => k91 σ9) else (k91 σ_66)
def D_X11_readItem_17 (σ : zS) (x0_17 : Int32) : Option zS :=
  zlet (if x0_17 = (-4 : Int32) then (0 : Int32) else (1 : Int32)) fun v1 => zb (J_X11_wants v1 (2 : Int32) σ) fun σ3 => zlet (D_X11_readItem_66) fun k66 => if x0_17 = (0 : Int32) then (zb (J_X11_readLine σ3) fun σ20 => k66 σ20) else (if x0_17 = (1 : Int32) then (zb (J_X11_readLoop σ3) fun σ18 => k66 σ18) else (if x0_17 = (2 : Int32) then (zb (J_X11_readEnd σ3) fun σ16 => k66 σ16) else (k66 σ3)))
def J_X11_readItem (σ : zS) : Option zS :=
  zlet (D_X11_readItem_17 σ) fun k17 => if (σ.1 105 28) = (1 : Int32) then (zb (J_X11_nameNow σ) fun r24 => k17 r24) else (k17 (-4 : Int32))
/-! EventCountersModel.program -/
def D_X11_program_127 (σ_127 : zS) : Option (Int32 × zS) :=
  zlet (zsI σ_127 105 25 (0 : Int32)) fun σ12 => if (σ12.1 105 30) ≤ (0 : Int32) then (zb (J_X11_keepProgram σ12) fun σ15 => some ((σ15.1 105 0), σ15)) else (some (((-10 : Int32) - (σ12.1 105 31)), σ12))
def D_X11_program_98 (σ11 : zS) (w1_98 : Int64) : Option (Int32 × zS) :=
  zlet (D_X11_program_127) fun k127 => if (σ11.1 105 30) = (0 : Int32) then (if (lg_cmp w1_98 (6000 : Int64)) ≤ (0 : Int32) then (k127 σ11) else (zlet (zsI σ11 105 30 (6 : Int32)) fun σ18 => zlet (zsI σ18 105 31 (σ18.1 105 25)) fun σ19 => k127 σ19)) else (k127 σ11)
def L_X11_program_76 (σ11 : zS) (k98 : Int64 → Option (Int32 × zS)) : Nat → Int64 → Int32 → Option (Int32 × zS)
  | 0, _, _ => none
  | n + 1, w1_76, w3_76 =>
    zlet (L_X11_program_76 σ11 k98 n) fun r_76 => if (σ11.1 105 11) ≤ w3_76 then (k98 w1_76) else (zb (J_X11_dTimes w3_76 σ11) fun r21 => zlet (w1_76 + r21) fun v22 => zlet (w3_76 + (1 : Int32)) fun v23 => r_76 v22 v23)
def D_X11_program_55 (σ_55 : zS) : Option (Int32 × zS) :=
  zlet (if (σ_55.1 105 19) = (0 : Int32) then (1 : Int32) else (0 : Int32)) fun v9 => zb (J_X11_wants v9 (2 : Int32) σ_55) fun σ11 => zlet (D_X11_program_98 σ11) fun k98 => L_X11_program_76 σ11 k98 4294967296 (0 : Int64) (0 : Int32)
def L_X11_program_34 (k55 : zS → Option (Int32 × zS)) : Nat → zS → Option (Int32 × zS)
  | 0, _ => none
  | n + 1, σ_34 =>
    zlet (L_X11_program_34 k55 n) fun r_34 => if (σ_34.1 105 30) = (0 : Int32) then (if (σ_34.1 105 28) = (0 : Int32) then (k55 σ_34) else (zb (J_X11_readItem σ_34) fun σ29 => r_34 σ29)) else (k55 σ_34)
def J_X11_program (σ : zS) : Option (Int32 × zS) :=
  zlet (zsI σ 105 30 (0 : Int32)) fun σ1 => zlet (zsI σ1 105 26 (0 : Int32)) fun σ2 => zlet (zsI σ2 105 11 (0 : Int32)) fun σ3 => zlet (zsI σ3 105 15 (0 : Int32)) fun σ4 => zlet (zsI σ4 105 23 (0 : Int32)) fun σ5 => zlet (zsI σ5 105 19 (0 : Int32)) fun σ6 => zb (J_X11_next σ6) fun σ8 => zlet (D_X11_program_55) fun k55 => L_X11_program_34 k55 4294967296 σ8
/-! EventCountersModel.ratio -/
def D_X11_ratio_83 (a4 : Int32) (σ : zS) (x0_61 : Int32) (x0_83 : Int32) : Option Int32 :=
  if x0_83 = (0 : Int32) then (some (-4 : Int32)) else (zb (J_X11_told (x0_61.toInt64) (x0_83.toInt64) a4 σ) fun r8 => some (r8.toInt32))
def D_X11_ratio_61 (a1 : Int32) (a3 : Int32) (a4 : Int32) (σ : zS) (x0_61 : Int32) : Option Int32 :=
  zlet (D_X11_ratio_83 a4 σ x0_61) fun k83 => if a1 = (-4 : Int32) then (zb (J_X11_total a3 σ) fun r11 => k83 r11) else (zb (J_X11_made a1 a3 σ) fun r10 => k83 r10)
def D_X11_ratio_14 (a1 : Int32) (a2 : Int32) (a3 : Int32) (a4 : Int32) (σ : zS) : Option Int32 :=
  zb (J_X11_isEvent a2 σ) fun r1 => if r1 = (0 : Int32) then (some (-1 : Int32)) else (zb (J_X11_isEvent a3 σ) fun r3 => if r3 = (0 : Int32) then (some (-1 : Int32)) else (zb (J_X11_in (a4.toInt64) (0 : Int64) (1 : Int64) σ) fun r5 => if r5 = (0 : Int32) then (some (-1 : Int32)) else (zlet (D_X11_ratio_61 a1 a3 a4 σ) fun k61 => if a1 = (-4 : Int32) then (zb (J_X11_total a2 σ) fun r14 => k61 r14) else (zb (J_X11_made a1 a2 σ) fun r13 => k61 r13))))
def J_X11_ratio (a1 : Int32) (a2 : Int32) (a3 : Int32) (a4 : Int32) (σ : zS) : Option Int32 :=
  zlet (D_X11_ratio_14 a1 a2 a3 a4 σ) fun k14 => if a1 = (-4 : Int32) then (k14) else (zb (J_X11_isLine a1 σ) fun r16 => if r16 = (0 : Int32) then (some (-1 : Int32)) else (k14))
/-! EventCountersModel.rounds -/
def D_X11_rounds_27 (a1 : Int32) (a2 : Int32) (σ : zS) : Option (Int32 × zS) :=
  zb (J_X11_findRounds a1 σ) fun σ4 => if (σ4.1 105 41) = (-4 : Int32) then (some ((-4 : Int32), σ4)) else (if a2 = (0 : Int32) then (some ((σ4.1 105 41), σ4)) else (if (σ4.1 105 41) ≤ (a2 - (10 : Int32)) then (some ((-1 : Int32), σ4)) else (zg (zi (a2 - (10 : Int32)) 8) (some ((σ4.1 129 (a2 - (10 : Int32)).toNatClampNeg), σ4)))))
def J_X11_rounds (a1 : Int32) (a2 : Int32) (σ : zS) : Option (Int32 × zS) :=
  zb (J_X11_areEvents a1 σ) fun r1 => if r1 = (0 : Int32) then (some ((-1 : Int32), σ)) else (zlet (D_X11_rounds_27 a1 a2 σ) fun k27 => if a2 = (0 : Int32) then (k27) else (zb (J_X11_in (a2.toInt64) (10 : Int64) (17 : Int64) σ) fun r10 => if r10 = (0 : Int32) then (some ((-1 : Int32), σ)) else (k27)))
/-! EventCountersModel.run -/
def J_X11_run (a1 : Int32) (a2 : Int32) (a3 : Int32) (σ : zS) : Option (Int32 × zS) :=
  zb (J_X11_isCounter a1 σ) fun r1 => if r1 = (0 : Int32) then (some ((-1 : Int32), σ)) else (zb (J_X11_isEvent a2 σ) fun r3 => if r3 = (0 : Int32) then (some ((-1 : Int32), σ)) else (zb (J_X11_in (a3.toInt64) (0 : Int64) (999999 : Int64) σ) fun r5 => if r5 = (0 : Int32) then (some ((-1 : Int32), σ)) else (if (σ.1 105 49) = (12 : Int32) then (some ((-3 : Int32), σ)) else (zg (zi (σ.1 105 49) 12) (zlet (zsI σ 131 (σ.1 105 49).toNatClampNeg a1) fun σ9 => zg (zi (σ9.1 105 49) 12) (zlet (zsI σ9 132 (σ9.1 105 49).toNatClampNeg a2) fun σ11 => zg (zi (σ11.1 105 49) 12) (zlet (zsI σ11 133 (σ11.1 105 49).toNatClampNeg a3) fun σ13 => zlet (zsI σ13 105 49 ((σ13.1 105 49) + (1 : Int32))) fun σ14 => some ((σ14.1 105 49), σ14))))))))
/-! EventCountersModel.said -/
def D_X11_said_246 (a5 : Int32) (w6_246 : Int32) (w7_246 : Int32) (w8_246 : Int32) (w9_246 : Int32) : Option Int32 :=
  if a5 = (0 : Int32) then (some w6_246) else (if a5 = (1 : Int32) then (some w7_246) else (if a5 = (2 : Int32) then (some w8_246) else (some w9_246)))
def L_X11_said_76 (a1 : Int32) (a3 : Int32) (a4 : Int32) (σ : zS) (k246 : Int32 → Int32 → Int32 → Int32 → Option Int32) : Nat → Int32 → Int32 → Int32 → Int32 → Int32 → Option Int32
  | 0, _, _, _, _, _ => none
  | n + 1, w6_76, w7_76, w8_76, w9_76, w10_76 =>
    zlet (L_X11_said_76 a1 a3 a4 σ k246 n) fun r_76 => if (σ.1 105 0) ≤ w10_76 then (k246 w6_76 w7_76 w8_76 w9_76) else (zlet ((a3.toInt64) + (w10_76.toInt64)) fun v13 => if (lg_cmp v13 (0 : Int64)) < (0 : Int32) then (some (-12 : Int32)) else (zg (zi a1 4) (if (lg_cmp v13 ((σ.1 135 a1.toNatClampNeg).toInt64)) < (0 : Int32) then (zg (zi (((40 : Int32) * a1) + (v13.toInt32)) 160) (zlet (σ.1 136 (((40 : Int32) * a1) + (v13.toInt32)).toNatClampNeg) fun v18 => zb (J_X11_in (v18.toInt64) (0 : Int64) (999999 : Int64) σ) fun r19 => if r19 = (0 : Int32) then (some ((-20 : Int32) - w10_76)) else (zg (zi w10_76 16) (zb (J_X11_made w10_76 a4 σ) fun r22 => zlet (v18 - ((σ.1 112 w10_76.toNatClampNeg) * r22)) fun v23 => zlet (if v23 = (0 : Int32) then (1 : Int32) else (0 : Int32)) fun v24 => zlet (w6_76 + v24) fun v25 => zlet (if v23 = (0 : Int32) then w7_76 else (if w7_76 = (-4 : Int32) then w10_76 else w7_76)) fun v26 => zlet (if v23 ≤ (0 : Int32) then (0 : Int32) else v23) fun v27 => zlet (w8_76 + v27) fun v28 => zlet (if (0 : Int32) ≤ v23 then (0 : Int32) else (-v23)) fun v29 => zlet (w9_76 + v29) fun v30 => zlet (w10_76 + (1 : Int32)) fun v31 => r_76 v25 v26 v28 v30 v31)))) else (some (-12 : Int32)))))
def J_X11_said (a1 : Int32) (a2 : Int32) (a3 : Int32) (a4 : Int32) (a5 : Int32) (σ : zS) : Option Int32 :=
  zb (J_X11_isSheet a1 a2 σ) fun r1 => if r1 = (0 : Int32) then (some (-1 : Int32)) else (zb (J_X11_isEvent a4 σ) fun r3 => if r3 = (0 : Int32) then (some (-1 : Int32)) else (zb (J_X11_in (a5.toInt64) (0 : Int64) (3 : Int64) σ) fun r5 => if r5 = (0 : Int32) then (some (-1 : Int32)) else (zg (zi a1 4) (if (σ.1 134 a1.toNatClampNeg) = a2 then (zlet (D_X11_said_246 a5) fun k246 => L_X11_said_76 a1 a3 a4 σ k246 4294967296 (0 : Int32) (-4 : Int32) (0 : Int32) (0 : Int32) (0 : Int32)) else (zg (zi a1 4) (if (σ.1 134 a1.toNatClampNeg) = (-4 : Int32) then (some (-11 : Int32)) else (some (-13 : Int32))))))))
/-! EventCountersModel.samples -/
def D_X11_samples_198 (a5 : Int32) (σ6 : zS) (w6_198 : Int32) (w7_198 : Int32) (w8_198 : Int32) (w9_198 : Int32) : Option (Int32 × zS) :=
  if a5 = (0 : Int32) then (some ((σ6.1 105 45), σ6)) else if a5 = (1 : Int32) then (some ((σ6.1 105 46), σ6)) else if a5 = (2 : Int32) then (some (w6_198, σ6)) else if a5 = (3 : Int32) then (some (w7_198, σ6)) else if a5 = (4 : Int32) then (some (w8_198, σ6)) else (some (w9_198, σ6))
def D_X11_samples_183 (r_51 : Int32 → Int32 → Int32 → Int32 → Int32 → Option (Int32 × zS)) (w10_51 : Int32) (v15 : Int32) (v17 : Int32) (v19 : Int32) : Option (Int32 × zS) :=
  zlet (w10_51 + (1 : Int32)) fun v23 => r_51 v15 v17 v19 w10_51 v23
def D_X11_samples_146 (σ6 : zS) (r_51 : Int32 → Int32 → Int32 → Int32 → Int32 → Option (Int32 × zS)) (w8_51 : Int32) (w9_51 : Int32) (w10_51 : Int32) (v15 : Int32) (v17 : Int32) (x0_146 : Int32) : Option (Int32 × zS) :=
  zlet (w8_51 ||| x0_146) fun v19 => zg (zi w10_51 16) (if (σ6.1 130 w10_51.toNatClampNeg) ≤ (0 : Int32) then (zlet (w10_51 + (1 : Int32)) fun v22 => r_51 v15 v17 v19 w9_51 v22) else (zlet (D_X11_samples_183 r_51 w10_51 v15 v17 v19) fun k183 => if w9_51 = (-4 : Int32) then (k183) else (zg (zi w10_51 16) (zg (zi w9_51 16) (if (σ6.1 130 w10_51.toNatClampNeg) ≤ (σ6.1 130 w9_51.toNatClampNeg) then (zlet (w10_51 + (1 : Int32)) fun v28 => r_51 v15 v17 v19 w9_51 v28) else (k183))))))
def D_X11_samples_113 (a1 : Int32) (σ6 : zS) (r_51 : Int32 → Int32 → Int32 → Int32 → Int32 → Option (Int32 × zS)) (w7_51 : Int32) (w8_51 : Int32) (w9_51 : Int32) (w10_51 : Int32) (v15 : Int32) (x0_113 : Int32) : Option (Int32 × zS) :=
  zlet (w7_51 ||| x0_113) fun v17 => zg (zi w10_51 16) (zlet (D_X11_samples_146 σ6 r_51 w8_51 w9_51 w10_51 v15 v17) fun k146 => if (σ6.1 130 w10_51.toNatClampNeg) ≤ (0 : Int32) then (k146 (0 : Int32)) else (zb (J_X11_made w10_51 a1 σ6) fun r30 => if r30 = (0 : Int32) then (k146 ((1 : Int32) <<< (w10_51 &&& 31))) else (k146 (0 : Int32))))
def L_X11_samples_51 (a1 : Int32) (σ6 : zS) (k198 : Int32 → Int32 → Int32 → Int32 → Option (Int32 × zS)) : Nat → Int32 → Int32 → Int32 → Int32 → Int32 → Option (Int32 × zS)
  | 0, _, _, _, _, _ => none
  | n + 1, w6_51, w7_51, w8_51, w9_51, w10_51 =>
    zlet (L_X11_samples_51 a1 σ6 k198 n) fun r_51 => if (σ6.1 105 0) ≤ w10_51 then (k198 w6_51 w7_51 w8_51 w9_51) else (zg (zi w10_51 16) (zlet (if (σ6.1 130 w10_51.toNatClampNeg) ≤ (0 : Int32) then (0 : Int32) else ((1 : Int32) <<< (w10_51 &&& 31))) fun v14 => zlet (w6_51 ||| v14) fun v15 => zg (zi w10_51 16) (zlet (D_X11_samples_113 a1 σ6 r_51 w7_51 w8_51 w9_51 w10_51 v15) fun k113 => if (σ6.1 130 w10_51.toNatClampNeg) = (0 : Int32) then (zb (J_X11_made w10_51 a1 σ6) fun r33 => if r33 ≤ (0 : Int32) then (k113 (0 : Int32)) else (k113 ((1 : Int32) <<< (w10_51 &&& 31)))) else (k113 (0 : Int32)))))
def J_X11_samples (a1 : Int32) (a2 : Int32) (a3 : Int32) (a4 : Int32) (a5 : Int32) (σ : zS) : Option (Int32 × zS) :=
  zb (J_X11_isSampling a1 a2 a3 a4 σ) fun r1 => if r1 = (0 : Int32) then (some ((-1 : Int32), σ)) else (zb (J_X11_in (a5.toInt64) (0 : Int64) (5 : Int64) σ) fun r3 => if r3 = (0 : Int32) then (some ((-1 : Int32), σ)) else (zb (J_X11_findSamples a1 a2 a3 a4 σ) fun σ6 => zlet (D_X11_samples_198 a5 σ6) fun k198 => L_X11_samples_51 a1 σ6 k198 4294967296 (0 : Int32) (0 : Int32) (0 : Int32) (-4 : Int32) (0 : Int32)))
/-! EventCountersModel.scaled -/
def D_X11_scaled_91 (a4 : Int32) (σ8 : zS) (v11 : Int64) (x0_91 : Int64) : Option (Int64 × zS) :=
  zb (J_X11_told (v11 - x0_91) (σ8.2.1 105 44) (a4 - a4 / (2 : Int32) * (2 : Int32)) σ8) fun r12 => some (r12, σ8)
def J_X11_scaled (a1 : Int32) (a2 : Int32) (a3 : Int32) (a4 : Int32) (σ : zS) : Option (Int64 × zS) :=
  zb (J_X11_isOf a1 a3 σ) fun r1 => if r1 = (0 : Int32) then (some ((-1000000000000 : Int64), σ)) else (zb (J_X11_in (a2.toInt64) (1 : Int64) (999 : Int64) σ) fun r3 => if r3 = (0 : Int32) then (some ((-1000000000000 : Int64), σ)) else (zb (J_X11_in (a4.toInt64) (0 : Int64) (3 : Int64) σ) fun r5 => if r5 = (0 : Int32) then (some ((-1000000000000 : Int64), σ)) else (zb2 (J_X11_countsBy a1 a2 a3 σ) fun r7 σ8 => if r7 = (0 : Int32) then (some ((-1000000000004 : Int64), σ8)) else (if (lg_cmp (σ8.2.1 105 44) (0 : Int64)) = (0 : Int32) then (some ((-1000000000004 : Int64), σ8)) else (zlet ((σ8.2.1 105 43) * ((σ8.1 105 10).toInt64)) fun v11 => zlet (D_X11_scaled_91 a4 σ8 v11) fun k91 => if (2 : Int32) ≤ a4 then (zb (J_X11_total a3 σ8) fun r14 => k91 ((r14.toInt64) * (σ8.2.1 105 44))) else (k91 (0 : Int64)))))))
/-! EventCountersModel.seldom -/
def L_X11_seldom_22 (a1 : Int32) (a2 : Int32) (r3 : Int32) : Nat → Int32 → zS → Option (Int32 × zS)
  | 0, _, _ => none
  | n + 1, w4_22, σ_22 =>
    zlet (L_X11_seldom_22 a1 a2 r3 n) fun r_22 => if w4_22 ≤ (0 : Int32) then (some ((-4 : Int32), σ_22)) else (zb2 (J_X11_toldBy a1 a2 w4_22 σ_22) fun r5 σ6 => if r5 = r3 then (some (w4_22, σ6)) else (zlet (w4_22 + (-1 : Int32)) fun v8 => r_22 v8 σ6))
def J_X11_seldom (a1 : Int32) (a2 : Int32) (σ : zS) : Option (Int32 × zS) :=
  zb (J_X11_canCount a1 a2 σ) fun r1 => if r1 = (0 : Int32) then (some ((-1 : Int32), σ)) else (zb (J_X11_total a2 σ) fun r3 => L_X11_seldom_22 a1 a2 r3 4294967296 (999 : Int32) σ)
/-! EventCountersModel.sheet -/
def L_X11_sheet_40 (a1 : Int32) : Nat → Int32 → zS → Option (Int32 × zS)
  | 0, _, _ => none
  | n + 1, w4_40, σ_40 =>
    zlet (L_X11_sheet_40 a1 n) fun r_40 => if (40 : Int32) ≤ w4_40 then (some ((1 : Int32), σ_40)) else (zg (zi (((40 : Int32) * a1) + w4_40) 160) (zlet (zsI σ_40 136 (((40 : Int32) * a1) + w4_40).toNatClampNeg (0 : Int32)) fun σ11 => zlet (w4_40 + (1 : Int32)) fun v12 => r_40 v12 σ11))
def J_X11_sheet (a1 : Int32) (a2 : Int32) (a3 : Int32) (σ : zS) : Option (Int32 × zS) :=
  zb (J_X11_isSheet a1 a2 σ) fun r1 => if r1 = (0 : Int32) then (some ((-1 : Int32), σ)) else (if a3 ≤ (40 : Int32) then (if (0 : Int32) ≤ a3 then (zg (zi a1 4) (zlet (zsI σ 134 a1.toNatClampNeg a2) fun σ6 => zg (zi a1 4) (zlet (zsI σ6 135 a1.toNatClampNeg a3) fun σ8 => L_X11_sheet_40 a1 4294967296 (0 : Int32) σ8))) else (some ((-14 : Int32), σ))) else (some ((-1 : Int32), σ)))
/-! EventCountersModel.shows -/
def J_X11_shows (a1 : Int32) (a2 : Int32) (a3 : Int32) (a4 : Int32) (a5 : Int32) (σ : zS) : Option (Int32 × zS) :=
  zb (J_X11_isSampling a1 a2 a3 a4 σ) fun r1 => if r1 = (0 : Int32) then (some ((-1 : Int32), σ)) else (zb (J_X11_isLine a5 σ) fun r3 => if r3 = (0 : Int32) then (some ((-1 : Int32), σ)) else (zb (J_X11_findSamples a1 a2 a3 a4 σ) fun σ6 => zg (zi a5 16) (some ((σ6.1 130 a5.toNatClampNeg), σ6))))
/-! EventCountersModel.sliced -/
def J_X11_sliced (a1 : Int32) (a2 : Int32) (a3 : Int32) (a4 : Int32) (σ : zS) : Option (Int32 × zS) :=
  zb (J_X11_isOf a1 a3 σ) fun r1 => if r1 = (0 : Int32) then (some ((-1 : Int32), σ)) else (zb (J_X11_in (a2.toInt64) (1 : Int64) (999 : Int64) σ) fun r3 => if r3 = (0 : Int32) then (some ((-1 : Int32), σ)) else (zb (J_X11_in (a4.toInt64) (0 : Int64) (1 : Int64) σ) fun r5 => if r5 = (0 : Int32) then (some ((-1 : Int32), σ)) else (zb2 (J_X11_countsBy a1 a2 a3 σ) fun r7 σ8 => if r7 = (0 : Int32) then (some ((-4 : Int32), σ8)) else (if a4 = (0 : Int32) then (some (((σ8.2.1 105 43).toInt32), σ8)) else (some (((σ8.2.1 105 44).toInt32), σ8))))))
/-! EventCountersModel.step -/
def J_X11_step (a1 : Int32) (σ : zS) : Option Int32 :=
  zb (J_X11_in (a1.toInt64) (0 : Int64) (((σ.1 105 7) - (1 : Int32)).toInt64) σ) fun r1 => if r1 = (0 : Int32) then (some (-1 : Int32)) else (zg (zi a1 6000) (some (σ.1 111 a1.toNatClampNeg)))
/-! EventCountersModel.together -/
def J_X11_together (a1 : Int32) (σ : zS) : Option Int32 :=
  zb (J_X11_areEvents a1 σ) fun r1 => if r1 = (0 : Int32) then (some (-1 : Int32)) else (zb (J_X11_wayOf a1 σ) fun r3 => if r3 = (-4 : Int32) then (some (0 : Int32)) else (some (1 : Int32)))
/-! EventCountersModel.truest -/
def L_X11_truest_48 (a1 : Int32) (a3 : Int32) (a4 : Int32) : Nat → Int32 → Int64 → Int64 → Int32 → zS → Option (Int32 × zS)
  | 0, _, _, _, _, _ => none
  | n + 1, w5_48, w6_48, w8_48, w10_48, σ_48 =>
    zlet (L_X11_truest_48 a1 a3 a4 n) fun r_48 => if a3 < w10_48 then (some (w5_48, σ_48)) else (zb (J_X11_findSamples a1 w10_48 (0 : Int32) a4 σ_48) fun σ8 => zb (J_X11_farNow a1 σ8) fun r9 => zlet (if (σ8.1 105 45) ≤ (σ8.1 105 46) then (0 : Int32) else (if w5_48 = (-4 : Int32) then (1 : Int32) else (if (0 : Int32) ≤ (lg_cmp (r9 * w8_48) (w6_48 * (((σ8.1 105 45) - (σ8.1 105 46)).toInt64))) then (0 : Int32) else (1 : Int32)))) fun v10 => zlet (if v10 = (0 : Int32) then w5_48 else w10_48) fun v11 => zlet (if v10 = (0 : Int32) then w6_48 else r9) fun v12 => zlet (if v10 = (0 : Int32) then w8_48 else (((σ8.1 105 45) - (σ8.1 105 46)).toInt64)) fun v13 => zlet (w10_48 + (1 : Int32)) fun v14 => r_48 v11 v12 v13 v14 σ8)
def J_X11_truest (a1 : Int32) (a2 : Int32) (a3 : Int32) (a4 : Int32) (σ : zS) : Option (Int32 × zS) :=
  zb (J_X11_isSampling a1 a2 (0 : Int32) a4 σ) fun r1 => if r1 = (0 : Int32) then (some ((-1 : Int32), σ)) else (zb (J_X11_in (a3.toInt64) (a2.toInt64) (9999 : Int64) σ) fun r3 => if r3 = (0 : Int32) then (some ((-1 : Int32), σ)) else (if (a3 - a2) ≤ (199 : Int32) then (L_X11_truest_48 a1 a3 a4 4294967296 (-4 : Int32) (0 : Int64) (1 : Int64) a2 σ) else (some ((-1 : Int32), σ))))
/-! EventCountersModel.went -/
def D_X11_went_151 (a3 : Int32) (w5_151 : Int32) (w6_151 : Int32) : Option Int32 :=
  zlet (a3 - w5_151) fun v8 => if w6_151 = (0 : Int32) then (if v8 = (0 : Int32) then (some (0 : Int32)) else (some (-4 : Int32))) else (if v8 < (0 : Int32) then (some (-4 : Int32)) else (zn w6_151 (if (v8 - v8 / w6_151 * w6_151) = (0 : Int32) then (zn w6_151 (if (9999 : Int32) < (v8 / w6_151) then (some (-4 : Int32)) else (zn w6_151 (some (v8 / w6_151))))) else (some (-4 : Int32)))))
def D_X11_went_106 (a1 : Int32) (a2 : Int32) (σ : zS) (r_53 : Int32 → Int32 → Int32 → Option Int32) (w5_53 : Int32) (w6_53 : Int32) (w7_53 : Int32) (v18 : Int32) (x0_106 : Int32) : Option Int32 :=
  zlet (w5_53 + x0_106) fun v19 => if v18 = (0 : Int32) then (zlet (w6_53 + (0 : Int32)) fun v21 => zlet (w7_53 + (1 : Int32)) fun v22 => r_53 v19 v21 v22) else (zg (zi w7_53 16) (zg (zi a1 40) (zlet (σ.1 109 a1.toNatClampNeg) fun v25 => zn v25 (zb (J_X11_made w7_53 a2 σ) fun r27 => zlet (w6_53 + (((σ.1 112 w7_53.toNatClampNeg) / v25) * r27)) fun v28 => zlet (w7_53 + (1 : Int32)) fun v29 => r_53 v19 v28 v29))))
def L_X11_went_53 (a1 : Int32) (a2 : Int32) (σ : zS) (r7 : Int32) (k151 : Int32 → Int32 → Option Int32) : Nat → Int32 → Int32 → Int32 → Option Int32
  | 0, _, _, _ => none
  | n + 1, w5_53, w6_53, w7_53 =>
    zlet (L_X11_went_53 a1 a2 σ r7 k151 n) fun r_53 => if (σ.1 105 0) ≤ w7_53 then (k151 w5_53 w6_53) else (zlet (if ((r7 >>> (w7_53 &&& 31)) &&& (1 : Int32)) = (1 : Int32) then (1 : Int32) else (0 : Int32)) fun v18 => zlet (D_X11_went_106 a1 a2 σ r_53 w5_53 w6_53 w7_53 v18) fun k106 => if v18 = (0 : Int32) then (zg (zi w7_53 16) (zb (J_X11_made w7_53 a2 σ) fun r32 => k106 ((σ.1 112 w7_53.toNatClampNeg) * r32))) else (k106 (0 : Int32)))
def J_X11_went (a1 : Int32) (a2 : Int32) (a3 : Int32) (σ : zS) : Option Int32 :=
  zb (J_X11_in (a1.toInt64) (0 : Int64) (((σ.1 105 4) - (1 : Int32)).toInt64) σ) fun r1 => if r1 = (0 : Int32) then (some (-1 : Int32)) else (zb (J_X11_isEvent a2 σ) fun r3 => if r3 = (0 : Int32) then (some (-1 : Int32)) else (zb (J_X11_in (a3.toInt64) (0 : Int64) (999999 : Int64) σ) fun r5 => if r5 = (0 : Int32) then (some (-1 : Int32)) else (zb (J_X11_linesIn a1 σ) fun r7 => zlet (D_X11_went_151 a3) fun k151 => L_X11_went_53 a1 a2 σ r7 k151 4294967296 (0 : Int32) (0 : Int32) (0 : Int32))))
/-! EventCountersModel.whole -/
def J_X11_whole (a1 : Int32) (σ : zS) : Option Int32 :=
  if a1 = (0 : Int32) then (some (σ.1 105 7)) else (if a1 = (1 : Int32) then (some (σ.1 105 10)) else (zb (J_X11_in (a1.toInt64) (10 : Int64) (17 : Int64) σ) fun r3 => if r3 = (0 : Int32) then (some (-1 : Int32)) else (zb (J_X11_total (a1 - (10 : Int32)) σ) fun r5 => some r5)))
/-! EventCountersModel.width -/
def J_X11_width (a1 : Int32) (a2 : Int32) (σ : zS) : Option (Int32 × zS) :=
  zb (J_X11_isCounter a1 σ) fun r1 => if r1 = (0 : Int32) then (some ((-1 : Int32), σ)) else (zb (J_X11_in (a2.toInt64) (2 : Int64) (16 : Int64) σ) fun r3 => if r3 = (0 : Int32) then (some ((-1 : Int32), σ)) else (zg (zi a1 4) (zlet (σ.1 126 a1.toNatClampNeg) fun v6 => zg (zi a1 4) (zlet (zsI σ 126 a1.toNatClampNeg a2) fun σ8 => some (v6, σ8)))))
/-! EventCountersModel.wired -/
def D_X11_wired_118 (a3 : Int32) (w4_118 : Int32) : Option Int32 :=
  if a3 = (0 : Int32) then (some w4_118) else (some (-1 : Int32))
def D_X11_wired_112 (r_53 : Int32 → Int32 → Option Int32) (w5_53 : Int32) (w4_112 : Int32) : Option Int32 :=
  zlet (w5_53 + (1 : Int32)) fun v9 => r_53 w4_112 v9
def L_X11_wired_62 (a1 : Int32) (a2 : Int32) (a3 : Int32) (σ : zS) (w5_53 : Int32) (k112 : Int32 → Option Int32) : Nat → Int32 → Int32 → Option Int32
  | 0, _, _ => none
  | n + 1, w4_62, w6_62 =>
    zlet (L_X11_wired_62 a1 a2 a3 σ w5_53 k112 n) fun r_62 => if (256 : Int32) ≤ w6_62 then (k112 w4_62) else (zb (J_X11_countOf w6_62 σ) fun r11 => if r11 = w5_53 then (zb (J_X11_fits a1 a2 w6_62 σ) fun r14 => if r14 = (0 : Int32) then (zlet (w6_62 + (1 : Int32)) fun v16 => r_62 w4_62 v16) else (if a3 = ((10 : Int32) + w4_62) then (some w6_62) else (zlet (w4_62 + (1 : Int32)) fun v18 => zlet (w6_62 + (1 : Int32)) fun v19 => r_62 v18 v19))) else (zlet (w6_62 + (1 : Int32)) fun v13 => r_62 w4_62 v13))
def L_X11_wired_53 (a1 : Int32) (a2 : Int32) (a3 : Int32) (σ : zS) (k118 : Int32 → Option Int32) : Nat → Int32 → Int32 → Option Int32
  | 0, _, _ => none
  | n + 1, w4_53, w5_53 =>
    zlet (L_X11_wired_53 a1 a2 a3 σ k118 n) fun r_53 => if (3 : Int32) ≤ w5_53 then (k118 w4_53) else (zlet (D_X11_wired_112 r_53 w5_53) fun k112 => L_X11_wired_62 a1 a2 a3 σ w5_53 k112 4294967296 w4_53 (1 : Int32))
def D_X11_wired_27 (a1 : Int32) (a2 : Int32) (a3 : Int32) (σ : zS) : Option Int32 :=
  zb (J_X11_hasRun a1 a2 σ) fun r5 => if r5 = (0 : Int32) then (if a3 = (0 : Int32) then (some (-4 : Int32)) else (some (-1 : Int32))) else (zlet (D_X11_wired_118 a3) fun k118 => L_X11_wired_53 a1 a2 a3 σ k118 4294967296 (0 : Int32) (1 : Int32))
def J_X11_wired (a1 : Int32) (a2 : Int32) (a3 : Int32) (σ : zS) : Option Int32 :=
  zb (J_X11_isCounter a1 σ) fun r1 => if r1 = (0 : Int32) then (some (-1 : Int32)) else (zb (J_X11_isEvent a2 σ) fun r3 => if r3 = (0 : Int32) then (some (-1 : Int32)) else (zlet (D_X11_wired_27 a1 a2 a3 σ) fun k27 => if a3 = (0 : Int32) then (k27) else (if (10 : Int32) ≤ a3 then (k27) else (some (-1 : Int32)))))
