set_option maxHeartbeats 4000000 in
set_option maxRecDepth 100000 in
theorem c_J6_bitCount_0f7a4 (l : Launch) (G : va_G) (y : Nat → ClassId) (t : Nat) (x : Int32) (sz : Nat) : Met l yJ6_bitCount_0f7a4 (Cond.code yJ6_bitCount_0f7a4 cJ6_bitCount_0f7a4 1 (some .int) :: TG) ({ frames := 0, cells := 0, slots := 0, locals := 0 }) (va_Pc [.int x] (PR G y t ([]) sz)) (va_Qi (fun (r : Int32) (u : Unit) => r = (pcI x)) (fun (u : Unit) t => PO G (va_A ([]) sz) ([]) t) (va_A ([]) sz)) 0 0 (va_A ([]) sz) := by
  refine kMet (cc := cJ6_bitCount_0f7a4) (maxL := 1) (ret := some .int) (Qc := fun A => va_Qi (fun (r : Int32) (u : Unit) => r = (pcI x)) (fun (u : Unit) t => PO G A ([]) t) A) (by decide) rfl (Nat.le_of_ble_eq_true rfl) (fun p e s m below meth c A hsz C hin => ?_)
  refine KW.loc (lv' := [(0, .int x)]) [0] rfl ?_
  refine kw_iload_n C 0 dJ6_bitCount_0f7a4_0 rfl ?_
  refine kw_iload_n C 0 dJ6_bitCount_0f7a4_1 rfl ?_
  refine kw_iconst (v := nI 1) C dJ6_bitCount_0f7a4_2 (by decide) ?_
  refine kw_iushr (v := (x.toUInt32 >>> ((nI 1).toUInt32 &&& Int32.toUInt32 31)).toInt32) C dJ6_bitCount_0f7a4_3 rfl ?_
  refine kw_ldcw (v := (1431655765)) C (mT wd_362) dJ6_bitCount_0f7a4_4 ?_
  refine kw_iand C dJ6_bitCount_0f7a4_7 ?_
  refine kw_isub C dJ6_bitCount_0f7a4_8 ?_
  refine kw_top (show (x - (((x.toUInt32 >>> ((nI 1).toUInt32 &&& Int32.toUInt32 31)).toInt32) &&& (1431655765))) = (pc1 x) from by rfl) ?_
  refine kw_istore_n C [(0, .int (pc1 x))] dJ6_bitCount_0f7a4_9 rfl (by decide) rfl ?_
  refine kw_iload_n C 0 dJ6_bitCount_0f7a4_10 rfl ?_
  refine kw_ldcw (v := (858993459)) C (mT wd_363) dJ6_bitCount_0f7a4_11 ?_
  refine kw_iand C dJ6_bitCount_0f7a4_14 ?_
  refine kw_iload_n C 0 dJ6_bitCount_0f7a4_15 rfl ?_
  refine kw_iconst (v := nI 2) C dJ6_bitCount_0f7a4_16 (by decide) ?_
  refine kw_iushr (v := ((pc1 x).toUInt32 >>> ((nI 2).toUInt32 &&& Int32.toUInt32 31)).toInt32) C dJ6_bitCount_0f7a4_17 rfl ?_
  refine kw_ldcw (v := (858993459)) C (mT wd_363) dJ6_bitCount_0f7a4_18 ?_
  refine kw_iand C dJ6_bitCount_0f7a4_21 ?_
  refine kw_iadd C dJ6_bitCount_0f7a4_22 ?_
  refine kw_top (show (((pc1 x) &&& (858993459)) + ((((pc1 x).toUInt32 >>> ((nI 2).toUInt32 &&& Int32.toUInt32 31)).toInt32) &&& (858993459))) = (pc2 (pc1 x)) from by rfl) ?_
  refine kw_istore_n C [(0, .int (pc2 (pc1 x)))] dJ6_bitCount_0f7a4_23 rfl (by decide) rfl ?_
  refine kw_iload_n C 0 dJ6_bitCount_0f7a4_24 rfl ?_
  refine kw_iload_n C 0 dJ6_bitCount_0f7a4_25 rfl ?_
  refine kw_iconst (v := nI 4) C dJ6_bitCount_0f7a4_26 (by decide) ?_
  refine kw_iushr (v := ((pc2 (pc1 x)).toUInt32 >>> ((nI 4).toUInt32 &&& Int32.toUInt32 31)).toInt32) C dJ6_bitCount_0f7a4_27 rfl ?_
  refine kw_iadd C dJ6_bitCount_0f7a4_28 ?_
  refine kw_ldcw (v := (252645135)) C (mT wd_364) dJ6_bitCount_0f7a4_29 ?_
  refine kw_iand C dJ6_bitCount_0f7a4_32 ?_
  refine kw_top (show (((pc2 (pc1 x)) + (((pc2 (pc1 x)).toUInt32 >>> ((nI 4).toUInt32 &&& Int32.toUInt32 31)).toInt32)) &&& (252645135)) = (pc3 (pc2 (pc1 x))) from by rfl) ?_
  refine kw_istore_n C [(0, .int (pc3 (pc2 (pc1 x))))] dJ6_bitCount_0f7a4_33 rfl (by decide) rfl ?_
  refine kw_iload_n C 0 dJ6_bitCount_0f7a4_34 rfl ?_
  refine kw_iload_n C 0 dJ6_bitCount_0f7a4_35 rfl ?_
  refine kw_bipush (v := nI 8) C dJ6_bitCount_0f7a4_36 (by decide) ?_
  refine kw_iushr (v := ((pc3 (pc2 (pc1 x))).toUInt32 >>> ((nI 8).toUInt32 &&& Int32.toUInt32 31)).toInt32) C dJ6_bitCount_0f7a4_38 rfl ?_
  refine kw_iadd C dJ6_bitCount_0f7a4_39 ?_
  refine kw_top (show ((pc3 (pc2 (pc1 x))) + (((pc3 (pc2 (pc1 x))).toUInt32 >>> ((nI 8).toUInt32 &&& Int32.toUInt32 31)).toInt32)) = (pc4 (pc3 (pc2 (pc1 x)))) from by rfl) ?_
  refine kw_istore_n C [(0, .int (pc4 (pc3 (pc2 (pc1 x)))))] dJ6_bitCount_0f7a4_40 rfl (by decide) rfl ?_
  refine kw_iload_n C 0 dJ6_bitCount_0f7a4_41 rfl ?_
  refine kw_iload_n C 0 dJ6_bitCount_0f7a4_42 rfl ?_
  refine kw_bipush (v := nI 16) C dJ6_bitCount_0f7a4_43 (by decide) ?_
  refine kw_iushr (v := ((pc4 (pc3 (pc2 (pc1 x)))).toUInt32 >>> ((nI 16).toUInt32 &&& Int32.toUInt32 31)).toInt32) C dJ6_bitCount_0f7a4_45 rfl ?_
  refine kw_iadd C dJ6_bitCount_0f7a4_46 ?_
  refine kw_top (show ((pc4 (pc3 (pc2 (pc1 x)))) + (((pc4 (pc3 (pc2 (pc1 x)))).toUInt32 >>> ((nI 16).toUInt32 &&& Int32.toUInt32 31)).toInt32)) = (pc5 (pc4 (pc3 (pc2 (pc1 x))))) from by rfl) ?_
  refine kw_istore_n C [(0, .int (pc5 (pc4 (pc3 (pc2 (pc1 x))))))] dJ6_bitCount_0f7a4_47 rfl (by decide) rfl ?_
  refine kw_iload_n C 0 dJ6_bitCount_0f7a4_48 rfl ?_
  refine kw_bipush (v := nI 63) C dJ6_bitCount_0f7a4_49 (by decide) ?_
  refine kw_iand C dJ6_bitCount_0f7a4_51 ?_
  refine kR_i C () dJ6_bitCount_0f7a4_52 ?_ rfl
  rfl

set_option maxHeartbeats 4000000 in
set_option maxRecDepth 100000 in
theorem c_J13_bitCount_95d88 (l : Launch) (G : va_G) (y : Nat → ClassId) (t : Nat) (x : Int64) (sz : Nat) : Met l yJ13_bitCount_95d88 (Cond.code yJ13_bitCount_95d88 cJ13_bitCount_95d88 2 (some .int) :: TG) ({ frames := 0, cells := 0, slots := 0, locals := 0 }) (va_Pc [.long x] (PR G y t ([]) sz)) (va_Qi (fun (r : Int32) (u : Unit) => r = (pcL x)) (fun (u : Unit) t => PO G (va_A ([]) sz) ([]) t) (va_A ([]) sz)) 0 0 (va_A ([]) sz) := by
  refine kMet (cc := cJ13_bitCount_95d88) (maxL := 2) (ret := some .int) (Qc := fun A => va_Qi (fun (r : Int32) (u : Unit) => r = (pcL x)) (fun (u : Unit) t => PO G A ([]) t) A) (by decide) rfl (Nat.le_of_ble_eq_true rfl) (fun p e s m below meth c A hsz C hin => ?_)
  refine KW.loc (lv' := [(0, .long x)]) [0] rfl ?_
  refine kw_lload_n C 0 dJ13_bitCount_95d88_0 rfl ?_
  refine kw_lload_n C 0 dJ13_bitCount_95d88_1 rfl ?_
  refine kw_iconst (v := nI 1) C dJ13_bitCount_95d88_2 (by decide) ?_
  refine kw_lushr (v := (x.toUInt64 >>> ((nI 1).toInt64.toUInt64 &&& Int64.toUInt64 63)).toInt64) C dJ13_bitCount_95d88_3 rfl ?_
  refine kw_ldc2 (v := (6148914691236517205)) C (mT wd_453) dJ13_bitCount_95d88_4 ?_
  refine kw_land C dJ13_bitCount_95d88_7 ?_
  refine kw_lsub C dJ13_bitCount_95d88_8 ?_
  refine kw_topl (show (x - (((x.toUInt64 >>> ((nI 1).toInt64.toUInt64 &&& Int64.toUInt64 63)).toInt64) &&& (6148914691236517205))) = (pl1 x) from by rfl) ?_
  refine kw_lstore_n C [(0, .long (pl1 x))] dJ13_bitCount_95d88_9 rfl (by decide) rfl ?_
  refine kw_lload_n C 0 dJ13_bitCount_95d88_10 rfl ?_
  refine kw_ldc2 (v := (3689348814741910323)) C (mT wd_454) dJ13_bitCount_95d88_11 ?_
  refine kw_land C dJ13_bitCount_95d88_14 ?_
  refine kw_lload_n C 0 dJ13_bitCount_95d88_15 rfl ?_
  refine kw_iconst (v := nI 2) C dJ13_bitCount_95d88_16 (by decide) ?_
  refine kw_lushr (v := ((pl1 x).toUInt64 >>> ((nI 2).toInt64.toUInt64 &&& Int64.toUInt64 63)).toInt64) C dJ13_bitCount_95d88_17 rfl ?_
  refine kw_ldc2 (v := (3689348814741910323)) C (mT wd_454) dJ13_bitCount_95d88_18 ?_
  refine kw_land C dJ13_bitCount_95d88_21 ?_
  refine kw_ladd C dJ13_bitCount_95d88_22 ?_
  refine kw_topl (show (((pl1 x) &&& (3689348814741910323)) + ((((pl1 x).toUInt64 >>> ((nI 2).toInt64.toUInt64 &&& Int64.toUInt64 63)).toInt64) &&& (3689348814741910323))) = (pl2 (pl1 x)) from by rfl) ?_
  refine kw_lstore_n C [(0, .long (pl2 (pl1 x)))] dJ13_bitCount_95d88_23 rfl (by decide) rfl ?_
  refine kw_lload_n C 0 dJ13_bitCount_95d88_24 rfl ?_
  refine kw_lload_n C 0 dJ13_bitCount_95d88_25 rfl ?_
  refine kw_iconst (v := nI 4) C dJ13_bitCount_95d88_26 (by decide) ?_
  refine kw_lushr (v := ((pl2 (pl1 x)).toUInt64 >>> ((nI 4).toInt64.toUInt64 &&& Int64.toUInt64 63)).toInt64) C dJ13_bitCount_95d88_27 rfl ?_
  refine kw_ladd C dJ13_bitCount_95d88_28 ?_
  refine kw_ldc2 (v := (1085102592571150095)) C (mT wd_455) dJ13_bitCount_95d88_29 ?_
  refine kw_land C dJ13_bitCount_95d88_32 ?_
  refine kw_topl (show (((pl2 (pl1 x)) + (((pl2 (pl1 x)).toUInt64 >>> ((nI 4).toInt64.toUInt64 &&& Int64.toUInt64 63)).toInt64)) &&& (1085102592571150095)) = (pl3 (pl2 (pl1 x))) from by rfl) ?_
  refine kw_lstore_n C [(0, .long (pl3 (pl2 (pl1 x))))] dJ13_bitCount_95d88_33 rfl (by decide) rfl ?_
  refine kw_lload_n C 0 dJ13_bitCount_95d88_34 rfl ?_
  refine kw_lload_n C 0 dJ13_bitCount_95d88_35 rfl ?_
  refine kw_bipush (v := nI 8) C dJ13_bitCount_95d88_36 (by decide) ?_
  refine kw_lushr (v := ((pl3 (pl2 (pl1 x))).toUInt64 >>> ((nI 8).toInt64.toUInt64 &&& Int64.toUInt64 63)).toInt64) C dJ13_bitCount_95d88_38 rfl ?_
  refine kw_ladd C dJ13_bitCount_95d88_39 ?_
  refine kw_topl (show ((pl3 (pl2 (pl1 x))) + (((pl3 (pl2 (pl1 x))).toUInt64 >>> ((nI 8).toInt64.toUInt64 &&& Int64.toUInt64 63)).toInt64)) = (pl4 (pl3 (pl2 (pl1 x)))) from by rfl) ?_
  refine kw_lstore_n C [(0, .long (pl4 (pl3 (pl2 (pl1 x)))))] dJ13_bitCount_95d88_40 rfl (by decide) rfl ?_
  refine kw_lload_n C 0 dJ13_bitCount_95d88_41 rfl ?_
  refine kw_lload_n C 0 dJ13_bitCount_95d88_42 rfl ?_
  refine kw_bipush (v := nI 16) C dJ13_bitCount_95d88_43 (by decide) ?_
  refine kw_lushr (v := ((pl4 (pl3 (pl2 (pl1 x)))).toUInt64 >>> ((nI 16).toInt64.toUInt64 &&& Int64.toUInt64 63)).toInt64) C dJ13_bitCount_95d88_45 rfl ?_
  refine kw_ladd C dJ13_bitCount_95d88_46 ?_
  refine kw_topl (show ((pl4 (pl3 (pl2 (pl1 x)))) + (((pl4 (pl3 (pl2 (pl1 x)))).toUInt64 >>> ((nI 16).toInt64.toUInt64 &&& Int64.toUInt64 63)).toInt64)) = (pl5 (pl4 (pl3 (pl2 (pl1 x))))) from by rfl) ?_
  refine kw_lstore_n C [(0, .long (pl5 (pl4 (pl3 (pl2 (pl1 x))))))] dJ13_bitCount_95d88_47 rfl (by decide) rfl ?_
  refine kw_lload_n C 0 dJ13_bitCount_95d88_48 rfl ?_
  refine kw_lload_n C 0 dJ13_bitCount_95d88_49 rfl ?_
  refine kw_bipush (v := nI 32) C dJ13_bitCount_95d88_50 (by decide) ?_
  refine kw_lushr (v := ((pl5 (pl4 (pl3 (pl2 (pl1 x))))).toUInt64 >>> ((nI 32).toInt64.toUInt64 &&& Int64.toUInt64 63)).toInt64) C dJ13_bitCount_95d88_52 rfl ?_
  refine kw_ladd C dJ13_bitCount_95d88_53 ?_
  refine kw_topl (show ((pl5 (pl4 (pl3 (pl2 (pl1 x))))) + (((pl5 (pl4 (pl3 (pl2 (pl1 x))))).toUInt64 >>> ((nI 32).toInt64.toUInt64 &&& Int64.toUInt64 63)).toInt64)) = (pl6 (pl5 (pl4 (pl3 (pl2 (pl1 x)))))) from by rfl) ?_
  refine kw_lstore_n C [(0, .long (pl6 (pl5 (pl4 (pl3 (pl2 (pl1 x)))))))] dJ13_bitCount_95d88_54 rfl (by decide) rfl ?_
  refine kw_lload_n C 0 dJ13_bitCount_95d88_55 rfl ?_
  refine kw_l2i C dJ13_bitCount_95d88_56 rfl ?_
  refine kw_bipush (v := nI 127) C dJ13_bitCount_95d88_57 (by decide) ?_
  refine kw_iand C dJ13_bitCount_95d88_59 ?_
  refine kR_i C () dJ13_bitCount_95d88_60 ?_ rfl
  rfl

set_option maxHeartbeats 4000000 in
set_option maxRecDepth 100000 in
theorem c_X5_copy (l : Launch) (G : va_G) (y : Nat → ClassId) (t : Nat) (a : Nat → Nat) (a2 : Nat → Nat) (W : Int32) (H : Int32) (N : Int32) (D : Int32) (p1 : Int64) (p2 : Int64) (p3 : Int64) (col : Nat → Int32) (od : Nat → Int32) (blk : Nat → Int64) (slp : Nat → Int32) (W2 : Int32) (H2 : Int32) (N2 : Int32) (D2 : Int32) (q1 : Int64) (q2 : Int64) (q3 : Int64) (col2 : Nat → Int32) (od2 : Nat → Int32) (blk2 : Nat → Int64) (slp2 : Nat → Int32) (sz : Nat) : Met l yX5_copy (Cond.code yX5_copy cX5_copy 2 (none) :: TG) ({ frames := 1, cells := 0, slots := 0, locals := 26 }) (va_Pc [.ref (a 0), .ref (a2 0)] (PR G y t (kWork y a (W, H, N, D, p1, p2, p3, col, od, blk, slp) ++ kWork y a2 (W2, H2, N2, D2, q1, q2, q3, col2, od2, blk2, slp2)) sz)) (va_Qv (fun (u : Unit) => True) (fun (u : Unit) t => PO G (va_A (kWork y a (W, H, N, D, p1, p2, p3, col, od, blk, slp) ++ kWork y a2 (W2, H2, N2, D2, q1, q2, q3, col2, od2, blk2, slp2)) sz) (kWork y a (W2, H2, N2, D2, q1, q2, q3, col2, od2, blk2, slp2) ++ kWork y a2 (W2, H2, N2, D2, q1, q2, q3, col2, od2, blk2, slp2)) t) (va_A (kWork y a (W, H, N, D, p1, p2, p3, col, od, blk, slp) ++ kWork y a2 (W2, H2, N2, D2, q1, q2, q3, col2, od2, blk2, slp2)) sz)) 0 0 (va_A (kWork y a (W, H, N, D, p1, p2, p3, col, od, blk, slp) ++ kWork y a2 (W2, H2, N2, D2, q1, q2, q3, col2, od2, blk2, slp2)) sz) := by
  refine kMet (cc := cX5_copy) (maxL := 2) (ret := none) (Qc := fun A => va_Qv (fun (u : Unit) => True) (fun (u : Unit) t => PO G A (kWork y a (W2, H2, N2, D2, q1, q2, q3, col2, od2, blk2, slp2) ++ kWork y a2 (W2, H2, N2, D2, q1, q2, q3, col2, od2, blk2, slp2)) t) A) (by decide) rfl (Nat.le_of_ble_eq_true rfl) (fun p e s m below meth c A hsz C hin => ?_)
  refine KW.loc (lv' := [(0, .ref (a 0)), (1, .ref (a2 0))]) [0, 1] rfl ?_
  refine kw_aload_n C 0 dX5_copy_0 rfl ?_
  refine kw_aload_n C 1 dX5_copy_1 rfl ?_
  refine kw_get (v := .int W2) (T := TX5) C 6 0 rfl rfl (by decide) (fun w h => mT (fwX5 w h)) rfl (mT wd_83) rfl dX5_copy_2 ?_
  refine kw_put (T := TX5) (ty := .int) C 0 0 (kWork y a (W2, H, N, D, p1, p2, p3, col, od, blk, slp) ++ kWork y a2 (W2, H2, N2, D2, q1, q2, q3, col2, od2, blk2, slp2)) rfl rfl (by decide) (fun w h => mT (fwX5 w h)) tyX5 tyX5_ok nmX5 rfl (mT wd_83) rfl (by decide +kernel) rfl rfl (Nat.le_of_ble_eq_true rfl) dX5_copy_5 rfl ?_
  refine kw_aload_n C 0 dX5_copy_8 rfl ?_
  refine kw_aload_n C 1 dX5_copy_9 rfl ?_
  refine kw_get (v := .int H2) (T := TX5) C 6 1 rfl rfl (by decide) (fun w h => mT (fwX5 w h)) rfl (mT wd_87) rfl dX5_copy_10 ?_
  refine kw_put (T := TX5) (ty := .int) C 0 1 (kWork y a (W2, H2, N, D, p1, p2, p3, col, od, blk, slp) ++ kWork y a2 (W2, H2, N2, D2, q1, q2, q3, col2, od2, blk2, slp2)) rfl rfl (by decide) (fun w h => mT (fwX5 w h)) tyX5 tyX5_ok nmX5 rfl (mT wd_87) rfl (by decide +kernel) rfl rfl (Nat.le_of_ble_eq_true rfl) dX5_copy_13 rfl ?_
  refine kw_aload_n C 0 dX5_copy_16 rfl ?_
  refine kw_aload_n C 1 dX5_copy_17 rfl ?_
  refine kw_get (v := .int N2) (T := TX5) C 6 2 rfl rfl (by decide) (fun w h => mT (fwX5 w h)) rfl (mT wd_91) rfl dX5_copy_18 ?_
  refine kw_put (T := TX5) (ty := .int) C 0 2 (kWork y a (W2, H2, N2, D, p1, p2, p3, col, od, blk, slp) ++ kWork y a2 (W2, H2, N2, D2, q1, q2, q3, col2, od2, blk2, slp2)) rfl rfl (by decide) (fun w h => mT (fwX5 w h)) tyX5 tyX5_ok nmX5 rfl (mT wd_91) rfl (by decide +kernel) rfl rfl (Nat.le_of_ble_eq_true rfl) dX5_copy_21 rfl ?_
  refine kw_aload_n C 0 dX5_copy_24 rfl ?_
  refine kw_aload_n C 1 dX5_copy_25 rfl ?_
  refine kw_get (v := .int D2) (T := TX5) C 6 3 rfl rfl (by decide) (fun w h => mT (fwX5 w h)) rfl (mT wd_96) rfl dX5_copy_26 ?_
  refine kw_put (T := TX5) (ty := .int) C 0 3 (kWork y a (W2, H2, N2, D2, p1, p2, p3, col, od, blk, slp) ++ kWork y a2 (W2, H2, N2, D2, q1, q2, q3, col2, od2, blk2, slp2)) rfl rfl (by decide) (fun w h => mT (fwX5 w h)) tyX5 tyX5_ok nmX5 rfl (mT wd_96) rfl (by decide +kernel) rfl rfl (Nat.le_of_ble_eq_true rfl) dX5_copy_29 rfl ?_
  refine kw_aload_n C 0 dX5_copy_32 rfl ?_
  refine kw_get (v := .ref (a 1)) (T := TX5) C 0 4 rfl rfl (by decide) (fun w h => mT (fwX5 w h)) rfl (mT wd_97) rfl dX5_copy_33 ?_
  refine kw_aload_n C 1 dX5_copy_36 rfl ?_
  refine kw_get (v := .ref (a2 1)) (T := TX5) C 6 4 rfl rfl (by decide) (fun w h => mT (fwX5 w h)) rfl (mT wd_97) rfl dX5_copy_37 ?_
  refine kV_v (As := [.ref (a2 1)]) (rest := []) (ws' := fun (u : Unit) => kWork y a (W2, H2, N2, D2, q1, q2, q3, col, od, blk, slp) ++ kWork y a2 (W2, H2, N2, D2, q1, q2, q3, col2, od2, blk2, slp2)) C (c_X2_copy l G y t (a 1) p1 p2 p3 (a2 1) q1 q2 q3) (cwV 1 C.2.2.2.2.1 (goodV cT wd_327 wd_324 wd_325 wd_326 wd_43) rfl rfl rfl (by decide +kernel) ⟨by decide, by decide⟩) [1, 7] [0, 2, 3, 4, 5, 6, 8, 9, 10, 11] [0, 10, 1, 2, 3, 4, 5, 11, 6, 7, 8, 9] rfl (by decide) rfl (by decide) (by decide) (fun _ => rfl) (by decide) 1 rfl rfl rfl (Nat.le_of_ble_eq_true rfl) ⟨by decide, by decide⟩ dX5_copy_40 (fun u hr_1 => ?_)
  refine kw_aload_n C 1 dX5_copy_43 rfl ?_
  refine kw_get (v := .ref (a2 2)) (T := TX5) C 6 5 rfl rfl (by decide) (fun w h => mT (fwX5 w h)) rfl (mT wd_100) rfl dX5_copy_44 ?_
  refine kw_iconst (v := nI 0) C dX5_copy_47 (by decide) ?_
  refine kw_aload_n C 0 dX5_copy_48 rfl ?_
  refine kw_get (v := .ref (a 2)) (T := TX5) C 0 5 rfl rfl (by decide) (fun w h => mT (fwX5 w h)) rfl (mT wd_100) rfl dX5_copy_49 ?_
  refine kw_iconst (v := nI 0) C dX5_copy_52 (by decide) ?_
  refine kw_bipush (v := nI 6) C dX5_copy_53 (by decide) ?_
  refine kw_copyi C 8 2 (kWork y a (W2, H2, N2, D2, q1, q2, q3, va_cpy col2 col 0 0 6, od, blk, slp) ++ kWork y a2 (W2, H2, N2, D2, q1, q2, q3, col2, od2, blk2, slp2)) (mT wd_328) (mT wd_330) (mT wd_329) (mT wd_49) rfl rfl (by decide) (by decide) (by decide) (by decide) (by decide) (Nat.le_of_ble_eq_true rfl) dX5_copy_55 rfl ?_
  refine kw_exti col2 2 (kWork y a (W2, H2, N2, D2, q1, q2, q3, col2, od, blk, slp) ++ kWork y a2 (W2, H2, N2, D2, q1, q2, q3, col2, od2, blk2, slp2)) rfl (by exact cpy6 _ _) rfl ?_
  refine kw_aload_n C 1 dX5_copy_58 rfl ?_
  refine kw_get (v := .ref (a2 3)) (T := TX5) C 6 6 rfl rfl (by decide) (fun w h => mT (fwX5 w h)) rfl (mT wd_102) rfl dX5_copy_59 ?_
  refine kw_iconst (v := nI 0) C dX5_copy_62 (by decide) ?_
  refine kw_aload_n C 0 dX5_copy_63 rfl ?_
  refine kw_get (v := .ref (a 3)) (T := TX5) C 0 6 rfl rfl (by decide) (fun w h => mT (fwX5 w h)) rfl (mT wd_102) rfl dX5_copy_64 ?_
  refine kw_iconst (v := nI 0) C dX5_copy_67 (by decide) ?_
  refine kw_bipush (v := nI 6) C dX5_copy_68 (by decide) ?_
  refine kw_copyi C 9 3 (kWork y a (W2, H2, N2, D2, q1, q2, q3, col2, va_cpy od2 od 0 0 6, blk, slp) ++ kWork y a2 (W2, H2, N2, D2, q1, q2, q3, col2, od2, blk2, slp2)) (mT wd_328) (mT wd_330) (mT wd_329) (mT wd_49) rfl rfl (by decide) (by decide) (by decide) (by decide) (by decide) (Nat.le_of_ble_eq_true rfl) dX5_copy_70 rfl ?_
  refine kw_exti od2 3 (kWork y a (W2, H2, N2, D2, q1, q2, q3, col2, od2, blk, slp) ++ kWork y a2 (W2, H2, N2, D2, q1, q2, q3, col2, od2, blk2, slp2)) rfl (by exact cpy6 _ _) rfl ?_
  refine kw_aload_n C 1 dX5_copy_73 rfl ?_
  refine kw_get (v := .ref (a2 4)) (T := TX5) C 6 7 rfl rfl (by decide) (fun w h => mT (fwX5 w h)) rfl (mT wd_103) rfl dX5_copy_74 ?_
  refine kw_iconst (v := nI 0) C dX5_copy_77 (by decide) ?_
  refine kw_aload_n C 0 dX5_copy_78 rfl ?_
  refine kw_get (v := .ref (a 4)) (T := TX5) C 0 7 rfl rfl (by decide) (fun w h => mT (fwX5 w h)) rfl (mT wd_103) rfl dX5_copy_79 ?_
  refine kw_iconst (v := nI 0) C dX5_copy_82 (by decide) ?_
  refine kw_bipush (v := nI 6) C dX5_copy_83 (by decide) ?_
  refine kw_copyl C 10 4 (kWork y a (W2, H2, N2, D2, q1, q2, q3, col2, od2, va_cpy blk2 blk 0 0 6, slp) ++ kWork y a2 (W2, H2, N2, D2, q1, q2, q3, col2, od2, blk2, slp2)) (mT wd_328) (mT wd_330) (mT wd_329) (mT wd_49) rfl rfl (by decide) (by decide) (by decide) (by decide) (by decide) (Nat.le_of_ble_eq_true rfl) dX5_copy_85 rfl ?_
  refine kw_extl blk2 4 (kWork y a (W2, H2, N2, D2, q1, q2, q3, col2, od2, blk2, slp) ++ kWork y a2 (W2, H2, N2, D2, q1, q2, q3, col2, od2, blk2, slp2)) rfl (by exact cpy6 _ _) rfl ?_
  refine kw_aload_n C 1 dX5_copy_88 rfl ?_
  refine kw_get (v := .ref (a2 5)) (T := TX5) C 6 8 rfl rfl (by decide) (fun w h => mT (fwX5 w h)) rfl (mT wd_105) rfl dX5_copy_89 ?_
  refine kw_iconst (v := nI 0) C dX5_copy_92 (by decide) ?_
  refine kw_aload_n C 0 dX5_copy_93 rfl ?_
  refine kw_get (v := .ref (a 5)) (T := TX5) C 0 8 rfl rfl (by decide) (fun w h => mT (fwX5 w h)) rfl (mT wd_105) rfl dX5_copy_94 ?_
  refine kw_iconst (v := nI 0) C dX5_copy_97 (by decide) ?_
  refine kw_bipush (v := nI 6) C dX5_copy_98 (by decide) ?_
  refine kw_copyi C 11 5 (kWork y a (W2, H2, N2, D2, q1, q2, q3, col2, od2, blk2, va_cpy slp2 slp 0 0 6) ++ kWork y a2 (W2, H2, N2, D2, q1, q2, q3, col2, od2, blk2, slp2)) (mT wd_328) (mT wd_330) (mT wd_329) (mT wd_49) rfl rfl (by decide) (by decide) (by decide) (by decide) (by decide) (Nat.le_of_ble_eq_true rfl) dX5_copy_100 rfl ?_
  refine kw_exti slp2 5 (kWork y a (W2, H2, N2, D2, q1, q2, q3, col2, od2, blk2, slp2) ++ kWork y a2 (W2, H2, N2, D2, q1, q2, q3, col2, od2, blk2, slp2)) rfl (by exact cpy6 _ _) rfl ?_
  refine kR_v C () dX5_copy_103 ?_ rfl
  first | rfl | trivial | (simp; done) | omega

set_option maxHeartbeats 4000000 in
set_option maxRecDepth 100000 in
theorem c_X5_empty (l : Launch) (G : va_G) (y : Nat → ClassId) (t : Nat) (a : Nat → Nat) (W : Int32) (H : Int32) (N : Int32) (D : Int32) (p1 : Int64) (p2 : Int64) (p3 : Int64) (col : Nat → Int32) (od : Nat → Int32) (blk : Nat → Int64) (slp : Nat → Int32) (sz : Nat) : Met l yX5_empty (Cond.code yX5_empty cX5_empty 1 (none) :: TG) ({ frames := 1, cells := 0, slots := 0, locals := 20 }) (va_Pc [.ref (a 0)] (PR G y t (kWork y a (W, H, N, D, p1, p2, p3, col, od, blk, slp)) sz)) (va_Qv (fun (u : Unit) => True) (fun (u : Unit) t => PO G (va_A (kWork y a (W, H, N, D, p1, p2, p3, col, od, blk, slp)) sz) (kWork y a (nI 0, nI 0, nI 0, nI 0, 0, 0, 0, col, od, blk, slp)) t) (va_A (kWork y a (W, H, N, D, p1, p2, p3, col, od, blk, slp)) sz)) 0 0 (va_A (kWork y a (W, H, N, D, p1, p2, p3, col, od, blk, slp)) sz) := by
  refine kMet (cc := cX5_empty) (maxL := 1) (ret := none) (Qc := fun A => va_Qv (fun (u : Unit) => True) (fun (u : Unit) t => PO G A (kWork y a (nI 0, nI 0, nI 0, nI 0, 0, 0, 0, col, od, blk, slp)) t) A) (by decide) rfl (Nat.le_of_ble_eq_true rfl) (fun p e s m below meth c A hsz C hin => ?_)
  refine KW.loc (lv' := [(0, .ref (a 0))]) [0] rfl ?_
  refine kw_aload_n C 0 dX5_empty_0 rfl ?_
  refine kw_iconst (v := nI 0) C dX5_empty_1 (by decide) ?_
  refine kw_put (T := TX5) (ty := .int) C 0 0 (kWork y a (nI 0, H, N, D, p1, p2, p3, col, od, blk, slp)) rfl rfl (by decide) (fun w h => mT (fwX5 w h)) tyX5 tyX5_ok nmX5 rfl (mT wd_83) rfl (by decide +kernel) rfl rfl (Nat.le_of_ble_eq_true rfl) dX5_empty_2 rfl ?_
  refine kw_aload_n C 0 dX5_empty_5 rfl ?_
  refine kw_iconst (v := nI 0) C dX5_empty_6 (by decide) ?_
  refine kw_put (T := TX5) (ty := .int) C 0 1 (kWork y a (nI 0, nI 0, N, D, p1, p2, p3, col, od, blk, slp)) rfl rfl (by decide) (fun w h => mT (fwX5 w h)) tyX5 tyX5_ok nmX5 rfl (mT wd_87) rfl (by decide +kernel) rfl rfl (Nat.le_of_ble_eq_true rfl) dX5_empty_7 rfl ?_
  refine kw_aload_n C 0 dX5_empty_10 rfl ?_
  refine kw_iconst (v := nI 0) C dX5_empty_11 (by decide) ?_
  refine kw_put (T := TX5) (ty := .int) C 0 2 (kWork y a (nI 0, nI 0, nI 0, D, p1, p2, p3, col, od, blk, slp)) rfl rfl (by decide) (fun w h => mT (fwX5 w h)) tyX5 tyX5_ok nmX5 rfl (mT wd_91) rfl (by decide +kernel) rfl rfl (Nat.le_of_ble_eq_true rfl) dX5_empty_12 rfl ?_
  refine kw_aload_n C 0 dX5_empty_15 rfl ?_
  refine kw_iconst (v := nI 0) C dX5_empty_16 (by decide) ?_
  refine kw_put (T := TX5) (ty := .int) C 0 3 (kWork y a (nI 0, nI 0, nI 0, nI 0, p1, p2, p3, col, od, blk, slp)) rfl rfl (by decide) (fun w h => mT (fwX5 w h)) tyX5 tyX5_ok nmX5 rfl (mT wd_96) rfl (by decide +kernel) rfl rfl (Nat.le_of_ble_eq_true rfl) dX5_empty_17 rfl ?_
  refine kw_aload_n C 0 dX5_empty_20 rfl ?_
  refine kw_get (v := .ref (a 1)) (T := TX5) C 0 4 rfl rfl (by decide) (fun w h => mT (fwX5 w h)) rfl (mT wd_97) rfl dX5_empty_21 ?_
  refine kV_v (As := []) (rest := []) (ws' := fun (u : Unit) => kWork y a (nI 0, nI 0, nI 0, nI 0, 0, 0, 0, col, od, blk, slp)) C (c_X2_wipe l G y t (a 1) p1 p2 p3) (cwV 0 C.2.2.2.2.1 (goodV cT wd_280 wd_277 wd_278 wd_279 wd_43) rfl rfl rfl (by decide +kernel) ⟨by decide, by decide⟩) [1] [0, 2, 3, 4, 5] [0, 5, 1, 2, 3, 4] rfl (by decide) rfl (by decide) (by decide) (fun _ => rfl) (by decide) 1 rfl rfl rfl (Nat.le_of_ble_eq_true rfl) ⟨by decide, by decide⟩ dX5_empty_24 (fun u hr_1 => ?_)
  refine kR_v C () dX5_empty_27 ?_ rfl
  first | rfl | trivial | (simp; done) | omega

set_option maxHeartbeats 4000000 in
set_option maxRecDepth 100000 in
theorem c_X5_addInk (l : Launch) (G : va_G) (y : Nat → ClassId) (t : Nat) (a : Nat → Nat) (W : Nat) (H : Nat) (N : Nat) (D : Nat) (p1 : Int64) (p2 : Int64) (p3 : Int64) (col : Nat → Int32) (od : Nat → Int32) (blk : Nat → Int64) (slp : Nat → Int32) (q : Nat) (dn : Bool) (hN : N < 6) (sz : Nat) : Met l yX5_addInk (Cond.code yX5_addInk cX5_addInk 3 (none) :: TG) ({ frames := 0, cells := 0, slots := 0, locals := 0 }) (va_Pc [.ref (a 0), .int (nI q), .int (bI dn)] (PR G y t (kWork y a (nI W, nI H, nI N, nI D, p1, p2, p3, col, od, blk, slp)) sz)) (va_Qv (fun (u : Unit) => True) (fun (u : Unit) t => PO G (va_A (kWork y a (nI W, nI H, nI N, nI D, p1, p2, p3, col, od, blk, slp)) sz) (kWork y a (nI W, nI H, nI (N + 1), nI (if dn then D ||| 2 ^ N else D), p1, p2, p3, upd col N (nI q), upd od N (nI N), vp_updL blk N 0, upd slp N (nI 4))) t) (va_A (kWork y a (nI W, nI H, nI N, nI D, p1, p2, p3, col, od, blk, slp)) sz)) 0 0 (va_A (kWork y a (nI W, nI H, nI N, nI D, p1, p2, p3, col, od, blk, slp)) sz) := by
  refine kMet (cc := cX5_addInk) (maxL := 3) (ret := none) (Qc := fun A => va_Qv (fun (u : Unit) => True) (fun (u : Unit) t => PO G A (kWork y a (nI W, nI H, nI (N + 1), nI (if dn then D ||| 2 ^ N else D), p1, p2, p3, upd col N (nI q), upd od N (nI N), vp_updL blk N 0, upd slp N (nI 4))) t) A) (by decide) rfl (Nat.le_of_ble_eq_true rfl) (fun p e s m below meth c A hsz C hin => ?_)
  refine KW.loc (lv' := [(0, .ref (a 0)), (1, .int (nI q)), (2, .int (bI dn))]) [0, 1, 2] rfl ?_
  refine kw_aload_n C 0 dX5_addInk_0 rfl ?_
  refine kw_get (v := .int (nI N)) (T := TX5) C 0 2 rfl rfl (by decide) (fun w h => mT (fwX5 w h)) rfl (mT wd_91) rfl dX5_addInk_1 ?_
  refine kw_bipush (v := nI 6) C dX5_addInk_4 (by decide) ?_
  refine kw_icmp_lt_N (tgt := 10) C (by omega) (by omega) dX5_addInk_6 (by decide) (fun c_6 => ?_) (fun c_6 => ?_)
  ·
    refine kw_aload_n C 0 dX5_addInk_10 rfl ?_
    refine kw_get (v := .ref (a 2)) (T := TX5) C 0 5 rfl rfl (by decide) (fun w h => mT (fwX5 w h)) rfl (mT wd_100) rfl dX5_addInk_11 ?_
    refine kw_aload_n C 0 dX5_addInk_14 rfl ?_
    refine kw_get (v := .int (nI N)) (T := TX5) C 0 2 rfl rfl (by decide) (fun w h => mT (fwX5 w h)) rfl (mT wd_91) rfl dX5_addInk_15 ?_
    refine kw_iload_n C 1 dX5_addInk_18 rfl ?_
    refine kw_iast C 2 (kWork y a (nI W, nI H, nI N, nI D, p1, p2, p3, upd col N (nI q), od, blk, slp)) rfl (by omega) (by decide) dX5_addInk_19 rfl ?_
    refine kw_aload_n C 0 dX5_addInk_20 rfl ?_
    refine kw_get (v := .ref (a 3)) (T := TX5) C 0 6 rfl rfl (by decide) (fun w h => mT (fwX5 w h)) rfl (mT wd_102) rfl dX5_addInk_21 ?_
    refine kw_aload_n C 0 dX5_addInk_24 rfl ?_
    refine kw_get (v := .int (nI N)) (T := TX5) C 0 2 rfl rfl (by decide) (fun w h => mT (fwX5 w h)) rfl (mT wd_91) rfl dX5_addInk_25 ?_
    refine kw_aload_n C 0 dX5_addInk_28 rfl ?_
    refine kw_get (v := .int (nI N)) (T := TX5) C 0 2 rfl rfl (by decide) (fun w h => mT (fwX5 w h)) rfl (mT wd_91) rfl dX5_addInk_29 ?_
    refine kw_iast C 3 (kWork y a (nI W, nI H, nI N, nI D, p1, p2, p3, upd col N (nI q), upd od N (nI N), blk, slp)) rfl (by omega) (by decide) dX5_addInk_32 rfl ?_
    refine kw_aload_n C 0 dX5_addInk_33 rfl ?_
    refine kw_get (v := .ref (a 4)) (T := TX5) C 0 7 rfl rfl (by decide) (fun w h => mT (fwX5 w h)) rfl (mT wd_103) rfl dX5_addInk_34 ?_
    refine kw_aload_n C 0 dX5_addInk_37 rfl ?_
    refine kw_get (v := .int (nI N)) (T := TX5) C 0 2 rfl rfl (by decide) (fun w h => mT (fwX5 w h)) rfl (mT wd_91) rfl dX5_addInk_38 ?_
    refine kw_lconst (v := 0) C dX5_addInk_41 (by decide) ?_
    refine kw_last C 4 (kWork y a (nI W, nI H, nI N, nI D, p1, p2, p3, upd col N (nI q), upd od N (nI N), vp_updL blk N 0, slp)) rfl (by omega) (by decide) dX5_addInk_42 rfl ?_
    refine kw_aload_n C 0 dX5_addInk_43 rfl ?_
    refine kw_get (v := .ref (a 5)) (T := TX5) C 0 8 rfl rfl (by decide) (fun w h => mT (fwX5 w h)) rfl (mT wd_105) rfl dX5_addInk_44 ?_
    refine kw_aload_n C 0 dX5_addInk_47 rfl ?_
    refine kw_get (v := .int (nI N)) (T := TX5) C 0 2 rfl rfl (by decide) (fun w h => mT (fwX5 w h)) rfl (mT wd_91) rfl dX5_addInk_48 ?_
    refine kw_iconst (v := nI 4) C dX5_addInk_51 (by decide) ?_
    refine kw_iast C 5 (kWork y a (nI W, nI H, nI N, nI D, p1, p2, p3, upd col N (nI q), upd od N (nI N), vp_updL blk N 0, upd slp N (nI 4))) rfl (by omega) (by decide) dX5_addInk_52 rfl ?_
    refine kw_iload_n C 2 dX5_addInk_53 rfl ?_
    refine kw_if_eq (tgt := 72) C dX5_addInk_54 (by decide) (fun c_54 => ?_) (fun c_54 => ?_)
    ·
      refine kw_aload_n C 0 dX5_addInk_72 rfl ?_
      refine kw_dup C dX5_addInk_73 rfl ?_
      refine kw_get (v := .int (nI N)) (T := TX5) C 0 2 rfl rfl (by decide) (fun w h => mT (fwX5 w h)) rfl (mT wd_91) rfl dX5_addInk_74 ?_
      refine kw_iconst (v := nI 1) C dX5_addInk_77 (by decide) ?_
      refine kw_iadd C dX5_addInk_78 (kw_top (nI_add _ _) ?_)
      refine kw_put (T := TX5) (ty := .int) C 0 2 (kWork y a (nI W, nI H, nI (N + 1), nI D, p1, p2, p3, upd col N (nI q), upd od N (nI N), vp_updL blk N 0, upd slp N (nI 4))) rfl rfl (by decide) (fun w h => mT (fwX5 w h)) tyX5 tyX5_ok nmX5 rfl (mT wd_91) rfl (by decide +kernel) rfl rfl (Nat.le_of_ble_eq_true rfl) dX5_addInk_79 rfl ?_
      rw [show (nI D) = (nI (if dn then D ||| 2 ^ N else D)) from by cases dn with
| true => first | rfl | exact absurd c_54 (by decide)
| false => first | rfl | exact absurd rfl c_54]
      refine kR_v C () dX5_addInk_82 ?_ rfl
      first | rfl | trivial | (simp; done) | omega
    ·
      refine kw_aload_n C 0 dX5_addInk_57 rfl ?_
      refine kw_dup C dX5_addInk_58 rfl ?_
      refine kw_get (v := .int (nI D)) (T := TX5) C 0 3 rfl rfl (by decide) (fun w h => mT (fwX5 w h)) rfl (mT wd_96) rfl dX5_addInk_59 ?_
      refine kw_iconst (v := nI 1) C dX5_addInk_62 (by decide) ?_
      refine kw_aload_n C 0 dX5_addInk_63 rfl ?_
      refine kw_get (v := .int (nI N)) (T := TX5) C 0 2 rfl rfl (by decide) (fun w h => mT (fwX5 w h)) rfl (mT wd_91) rfl dX5_addInk_64 ?_
      refine kw_ishl C dX5_addInk_67 (kw_top (n_shl1 (by omega)) ?_)
      refine kw_ior C dX5_addInk_68 (kw_top (n_or _ _) ?_)
      refine kw_put (T := TX5) (ty := .int) C 0 3 (kWork y a (nI W, nI H, nI N, nI (D ||| (2 ^ N)), p1, p2, p3, upd col N (nI q), upd od N (nI N), vp_updL blk N 0, upd slp N (nI 4))) rfl rfl (by decide) (fun w h => mT (fwX5 w h)) tyX5 tyX5_ok nmX5 rfl (mT wd_96) rfl (by decide +kernel) rfl rfl (Nat.le_of_ble_eq_true rfl) dX5_addInk_69 rfl ?_
      refine kw_aload_n C 0 dX5_addInk_72 rfl ?_
      refine kw_dup C dX5_addInk_73 rfl ?_
      refine kw_get (v := .int (nI N)) (T := TX5) C 0 2 rfl rfl (by decide) (fun w h => mT (fwX5 w h)) rfl (mT wd_91) rfl dX5_addInk_74 ?_
      refine kw_iconst (v := nI 1) C dX5_addInk_77 (by decide) ?_
      refine kw_iadd C dX5_addInk_78 (kw_top (nI_add _ _) ?_)
      refine kw_put (T := TX5) (ty := .int) C 0 2 (kWork y a (nI W, nI H, nI (N + 1), nI (D ||| (2 ^ N)), p1, p2, p3, upd col N (nI q), upd od N (nI N), vp_updL blk N 0, upd slp N (nI 4))) rfl rfl (by decide) (fun w h => mT (fwX5 w h)) tyX5 tyX5_ok nmX5 rfl (mT wd_91) rfl (by decide +kernel) rfl rfl (Nat.le_of_ble_eq_true rfl) dX5_addInk_79 rfl ?_
      rw [show (nI (D ||| (2 ^ N))) = (nI (if dn then D ||| 2 ^ N else D)) from by cases dn with
| true => first | rfl | exact absurd c_54 (by decide)
| false => first | rfl | exact absurd rfl c_54]
      refine kR_v C () dX5_addInk_82 ?_ rfl
      first | rfl | trivial | (simp; done) | omega
  ·
    omega

set_option maxHeartbeats 4000000 in
set_option maxRecDepth 100000 in
theorem c_X5_placeOf (l : Launch) (G : va_G) (y : Nat → ClassId) (t : Nat) (a : Nat → Nat) (W : Nat) (H : Nat) (N : Nat) (D : Nat) (p1 : Int64) (p2 : Int64) (p3 : Int64) (col : Nat → Int32) (od : Nat → Int32) (blk : Nat → Int64) (slp : Nat → Int32) (o : Nat → Nat) (cl : Nat → Nat) (kk : Nat → Nat) (i : Nat) (q : Nat) (hN : N ≤ 6) (hod : ∀ q, q < N → od q = nI (o q) ∧ o q < N) (hi : i < 6) (hq : q < N) (hqi : o q = i) (hu : ∀ z, z < q → o z ≠ i) (sz : Nat) : Met l yX5_placeOf (Cond.code yX5_placeOf cX5_placeOf 3 (some .int) :: TG) ({ frames := 0, cells := 0, slots := 0, locals := 0 }) (va_Pc [.ref (a 0), .int (nI i)] (PR G y t (kWork y a (nI W, nI H, nI N, nI D, p1, p2, p3, col, od, blk, slp)) sz)) (va_Qi (fun (r : Int32) (u : Unit) => r = (nI q)) (fun (u : Unit) t => PO G (va_A (kWork y a (nI W, nI H, nI N, nI D, p1, p2, p3, col, od, blk, slp)) sz) (kWork y a (nI W, nI H, nI N, nI D, p1, p2, p3, col, od, blk, slp)) t) (va_A (kWork y a (nI W, nI H, nI N, nI D, p1, p2, p3, col, od, blk, slp)) sz)) 0 0 (va_A (kWork y a (nI W, nI H, nI N, nI D, p1, p2, p3, col, od, blk, slp)) sz) := by
  refine kMet (cc := cX5_placeOf) (maxL := 3) (ret := some .int) (Qc := fun A => va_Qi (fun (r : Int32) (u : Unit) => r = (nI q)) (fun (u : Unit) t => PO G A (kWork y a (nI W, nI H, nI N, nI D, p1, p2, p3, col, od, blk, slp)) t) A) (by decide) rfl (Nat.le_of_ble_eq_true rfl) (fun p e s m below meth c A hsz C hin => ?_)
  refine KW.loc (lv' := [(0, .ref (a 0)), (1, .int (nI i))]) [0, 1] rfl ?_
  refine kw_iconst (v := nI 0) C dX5_placeOf_0 (by decide) ?_
  refine kw_istore_n C [(2, .int (nI 0)), (0, .ref (a 0)), (1, .int (nI i))] dX5_placeOf_1 rfl (by decide) rfl ?_
  have L2_1 : ∀ (nn : Nat) (z : Nat) (hz : z ≤ q) (hms : q - z < nn), KW p l e ({ frames := 0, cells := 0, slots := 0, locals := 0 }) s m ([.ref (a 0), .int (nI i)] : List Value).toArray below meth c 0 0 (MQ below (va_Qi (fun (r : Int32) (u : Unit) => r = (nI q)) (fun (u : Unit) t => PO G A (kWork y a (nI W, nI H, nI N, nI D, p1, p2, p3, col, od, blk, slp)) t) A) ([.ref (a 0), .int (nI i)] : List Value).toArray s 0 0 A) G A 3 (kWork y a (nI W, nI H, nI N, nI D, p1, p2, p3, col, od, blk, slp)) [(2, .int (nI z)), (0, .ref (a 0)), (1, .int (nI i))] 2 [] := by
    intro nn
    induction nn with
    | zero => intro z hz hms; exact absurd hms (Nat.not_lt_zero _)
    | succ nn ih_2 =>
      intro z hz hms
      refine kw_iload_n C 0 dX5_placeOf_2 rfl ?_
      refine kw_aload_n C 1 dX5_placeOf_3 rfl ?_
      refine kw_get (v := .int (nI N)) (T := TX5) C 0 2 rfl rfl (by decide) (fun w h => mT (fwX5 w h)) rfl (mT wd_91) rfl dX5_placeOf_4 ?_
      refine kw_icmp_ge_N (tgt := 28) C (by omega) (by omega) dX5_placeOf_7 (by decide) (fun c_7 => ?_) (fun c_7 => ?_)
      ·
        omega
      ·
        refine kw_aload_n C 1 dX5_placeOf_10 rfl ?_
        refine kw_get (v := .ref (a 3)) (T := TX5) C 0 6 rfl rfl (by decide) (fun w h => mT (fwX5 w h)) rfl (mT wd_102) rfl dX5_placeOf_11 ?_
        refine kw_iload_n C 0 dX5_placeOf_14 rfl ?_
        refine kw_iald (f := od) C 3 rfl (by omega) (by decide) dX5_placeOf_15 ?_
        refine kw_top (show (od z) = (nI (o z)) from by exact (hod z (by omega)).1) ?_
        refine kw_iload_n C 2 dX5_placeOf_16 rfl ?_
        refine kw_icmp_ne_N (tgt := 22) C (by first | omega | exact Nat.lt_trans (hod z (by omega)).2 (by omega)) (by first | omega | exact Nat.lt_trans (hod z (by omega)).2 (by omega)) dX5_placeOf_17 (by decide) (fun c_17 => ?_) (fun c_17 => ?_)
        ·
          refine kw_iinc (v := nI (z + 1)) C [(2, .int (nI (z + 1))), (0, .ref (a 0)), (1, .int (nI i))] 0 dX5_placeOf_22 rfl (nI_1 _) (by decide) rfl ?_
          refine kw_goto (tgt := 2) C dX5_placeOf_25 (by decide) ?_
          refine KW.loc (lv' := [(2, .int (nI (z + 1))), (0, .ref (a 0)), (1, .int (nI i))]) [0, 1, 2] rfl ?_
          exact ih_2 (z + 1) (by first | omega | exact Nat.lt_of_le_of_ne hz (fun h => c_17 (by rw [h]; exact hqi)) | (have := Nat.lt_of_le_of_ne hz (fun h => c_17 (by rw [h]; exact hqi)); omega)) (by first | omega | exact Nat.lt_of_le_of_ne hz (fun h => c_17 (by rw [h]; exact hqi)) | (have := Nat.lt_of_le_of_ne hz (fun h => c_17 (by rw [h]; exact hqi)); omega))
        ·
          refine kw_iload_n C 0 dX5_placeOf_20 rfl ?_
          refine kR_i C () dX5_placeOf_21 ?_ rfl
          rcases Nat.lt_or_ge z q with h | h
          · exact absurd c_17 (hu z h)
          · rw [show z = q from by omega]
  refine KW.loc (lv' := [(2, .int (nI 0)), (0, .ref (a 0)), (1, .int (nI i))]) [0, 1, 2] rfl ?_
  exact L2_1 (q - 0 + 1) 0 (by first | omega | exact Nat.lt_of_le_of_ne hz (fun h => c_17 (by rw [h]; exact hqi)) | (have := Nat.lt_of_le_of_ne hz (fun h => c_17 (by rw [h]; exact hqi)); omega)) (Nat.lt_succ_self _)

set_option maxHeartbeats 4000000 in
set_option maxRecDepth 100000 in
theorem c_X5_exchange (l : Launch) (G : va_G) (y : Nat → ClassId) (t : Nat) (a : Nat → Nat) (W : Nat) (H : Nat) (N : Nat) (D : Nat) (p1 : Int64) (p2 : Int64) (p3 : Int64) (col : Nat → Int32) (od : Nat → Int32) (blk : Nat → Int64) (slp : Nat → Int32) (o : Nat → Nat) (cl : Nat → Nat) (kk : Nat → Nat) (i : Nat) (j : Nat) (q : Nat) (r0 : Nat) (hN : N ≤ 6) (hod : ∀ q, q < N → od q = nI (o q) ∧ o q < N) (hi : i < 6) (hj : j < 6) (hq : q < N) (hqi : o q = i) (hu : ∀ z, z < q → o z ≠ i) (hr0 : r0 < N) (hrj : o r0 = j) (hv : ∀ z, z < r0 → o z ≠ j) (sz : Nat) : Met l yX5_exchange (Cond.code yX5_exchange cX5_exchange 5 (none) :: TG) ({ frames := 1, cells := 0, slots := 0, locals := 22 }) (va_Pc [.ref (a 0), .int (nI i), .int (nI j)] (PR G y t (kWork y a (nI W, nI H, nI N, nI D, p1, p2, p3, col, od, blk, slp)) sz)) (va_Qv (fun (u : Unit) => True) (fun (u : Unit) t => PO G (va_A (kWork y a (nI W, nI H, nI N, nI D, p1, p2, p3, col, od, blk, slp)) sz) (kWork y a (nI W, nI H, nI N, nI D, p1, p2, p3, col, upd (upd od q (nI j)) r0 (nI i), blk, slp)) t) (va_A (kWork y a (nI W, nI H, nI N, nI D, p1, p2, p3, col, od, blk, slp)) sz)) 0 0 (va_A (kWork y a (nI W, nI H, nI N, nI D, p1, p2, p3, col, od, blk, slp)) sz) := by
  refine kMet (cc := cX5_exchange) (maxL := 5) (ret := none) (Qc := fun A => va_Qv (fun (u : Unit) => True) (fun (u : Unit) t => PO G A (kWork y a (nI W, nI H, nI N, nI D, p1, p2, p3, col, upd (upd od q (nI j)) r0 (nI i), blk, slp)) t) A) (by decide) rfl (Nat.le_of_ble_eq_true rfl) (fun p e s m below meth c A hsz C hin => ?_)
  refine KW.loc (lv' := [(0, .ref (a 0)), (1, .int (nI i)), (2, .int (nI j))]) [0, 1, 2] rfl ?_
  refine kw_aload_n C 0 dX5_exchange_0 rfl ?_
  refine kw_iload_n C 1 dX5_exchange_1 rfl ?_
  refine kV_i (As := [.int (nI i)]) (rest := []) (ws' := fun (u : Unit) => kWork y a (nI W, nI H, nI N, nI D, p1, p2, p3, col, od, blk, slp)) C (c_X5_placeOf l G y t a W H N D p1 p2 p3 col od blk slp o cl kk i q (by first | assumption | omega | decide) (by first | assumption | omega | decide) (by first | assumption | omega | decide) (by first | assumption | omega | decide) (by first | assumption | omega | decide) (by first | assumption | omega | decide)) (cwV 1 C.2.2.2.2.1 (goodV cT wd_427 wd_424 wd_425 wd_426 wd_42) rfl rfl rfl (by decide +kernel) ⟨by decide, by decide⟩) [0, 1, 2, 3, 4, 5] [] [0, 1, 2, 3, 4, 5] rfl (by decide) rfl (by decide) (by decide) (fun _ => rfl) (by decide) 0 rfl rfl rfl (Nat.le_of_ble_eq_true rfl) ⟨by decide, by decide⟩ dX5_exchange_2 (fun r u hr_1 => ?_)
  subst hr_1
  refine kw_istore_n C [(3, .int (nI q)), (0, .ref (a 0)), (1, .int (nI i)), (2, .int (nI j))] dX5_exchange_5 rfl (by decide) rfl ?_
  refine kw_aload_n C 1 dX5_exchange_6 rfl ?_
  refine kw_iload_n C 3 dX5_exchange_7 rfl ?_
  refine kV_i (As := [.int (nI j)]) (rest := []) (ws' := fun (u : Unit) => kWork y a (nI W, nI H, nI N, nI D, p1, p2, p3, col, od, blk, slp)) C (c_X5_placeOf l G y t a W H N D p1 p2 p3 col od blk slp o cl kk j r0 (by first | assumption | omega | decide) (by first | assumption | omega | decide) (by first | assumption | omega | decide) (by first | assumption | omega | decide) (by first | assumption | omega | decide) (by first | assumption | omega | decide)) (cwV 1 C.2.2.2.2.1 (goodV cT wd_427 wd_424 wd_425 wd_426 wd_42) rfl rfl rfl (by decide +kernel) ⟨by decide, by decide⟩) [0, 1, 2, 3, 4, 5] [] [0, 1, 2, 3, 4, 5] rfl (by decide) rfl (by decide) (by decide) (fun _ => rfl) (by decide) 0 rfl rfl rfl (Nat.le_of_ble_eq_true rfl) ⟨by decide, by decide⟩ dX5_exchange_8 (fun r u hr_2 => ?_)
  subst hr_2
  refine kw_istore C [(4, .int (nI r0)), (3, .int (nI q)), (0, .ref (a 0)), (1, .int (nI i)), (2, .int (nI j))] dX5_exchange_11 (by decide) rfl ?_
  refine kw_iload_n C 1 dX5_exchange_13 rfl ?_
  refine kw_if_lt_N (tgt := 37) C (by omega) dX5_exchange_14 (by decide) ?_
  refine kw_iload C 0 dX5_exchange_17 rfl ?_
  refine kw_if_lt_N (tgt := 37) C (by omega) dX5_exchange_19 (by decide) ?_
  refine kw_aload_n C 2 dX5_exchange_22 rfl ?_
  refine kw_get (v := .ref (a 3)) (T := TX5) C 0 6 rfl rfl (by decide) (fun w h => mT (fwX5 w h)) rfl (mT wd_102) rfl dX5_exchange_23 ?_
  refine kw_iload_n C 1 dX5_exchange_26 rfl ?_
  refine kw_iload_n C 4 dX5_exchange_27 rfl ?_
  refine kw_iast C 3 (kWork y a (nI W, nI H, nI N, nI D, p1, p2, p3, col, upd od q (nI j), blk, slp)) rfl (by omega) (by decide) dX5_exchange_28 rfl ?_
  refine kw_aload_n C 2 dX5_exchange_29 rfl ?_
  refine kw_get (v := .ref (a 3)) (T := TX5) C 0 6 rfl rfl (by decide) (fun w h => mT (fwX5 w h)) rfl (mT wd_102) rfl dX5_exchange_30 ?_
  refine kw_iload C 0 dX5_exchange_33 rfl ?_
  refine kw_iload_n C 3 dX5_exchange_35 rfl ?_
  refine kw_iast C 3 (kWork y a (nI W, nI H, nI N, nI D, p1, p2, p3, col, upd (upd od q (nI j)) r0 (nI i), blk, slp)) rfl (by omega) (by decide) dX5_exchange_36 rfl ?_
  refine kR_v C () dX5_exchange_37 ?_ rfl
  first | rfl | trivial | (simp; done) | omega

set_option maxHeartbeats 4000000 in
set_option maxRecDepth 100000 in
theorem c_X5_sets (l : Launch) (G : va_G) (y : Nat → ClassId) (t : Nat) (a : Nat → Nat) (W : Nat) (H : Nat) (N : Nat) (D : Nat) (p1 : Int64) (p2 : Int64) (p3 : Int64) (col : Nat → Int32) (od : Nat → Int32) (blk : Nat → Int64) (slp : Nat → Int32) (hN : N ≤ 6) (sz : Nat) : Met l yX5_sets (Cond.code yX5_sets cX5_sets 1 (some .int) :: TG) ({ frames := 0, cells := 0, slots := 0, locals := 0 }) (va_Pc [.ref (a 0)] (PR G y t (kWork y a (nI W, nI H, nI N, nI D, p1, p2, p3, col, od, blk, slp)) sz)) (va_Qi (fun (r : Int32) (u : Unit) => r = (nI (2 ^ N))) (fun (u : Unit) t => PO G (va_A (kWork y a (nI W, nI H, nI N, nI D, p1, p2, p3, col, od, blk, slp)) sz) (kWork y a (nI W, nI H, nI N, nI D, p1, p2, p3, col, od, blk, slp)) t) (va_A (kWork y a (nI W, nI H, nI N, nI D, p1, p2, p3, col, od, blk, slp)) sz)) 0 0 (va_A (kWork y a (nI W, nI H, nI N, nI D, p1, p2, p3, col, od, blk, slp)) sz) := by
  refine kMet (cc := cX5_sets) (maxL := 1) (ret := some .int) (Qc := fun A => va_Qi (fun (r : Int32) (u : Unit) => r = (nI (2 ^ N))) (fun (u : Unit) t => PO G A (kWork y a (nI W, nI H, nI N, nI D, p1, p2, p3, col, od, blk, slp)) t) A) (by decide) rfl (Nat.le_of_ble_eq_true rfl) (fun p e s m below meth c A hsz C hin => ?_)
  refine KW.loc (lv' := [(0, .ref (a 0))]) [0] rfl ?_
  refine kw_iconst (v := nI 1) C dX5_sets_0 (by decide) ?_
  refine kw_aload_n C 0 dX5_sets_1 rfl ?_
  refine kw_get (v := .int (nI N)) (T := TX5) C 0 2 rfl rfl (by decide) (fun w h => mT (fwX5 w h)) rfl (mT wd_91) rfl dX5_sets_2 ?_
  refine kw_ishl C dX5_sets_5 (kw_top (n_shl1 (by omega)) ?_)
  refine kR_i C () dX5_sets_6 ?_ rfl
  first | rfl | trivial | (simp; done) | omega

set_option maxHeartbeats 4000000 in
set_option maxRecDepth 100000 in
theorem c_X5_inksOf (l : Launch) (G : va_G) (y : Nat → ClassId) (t : Nat) (a : Nat → Nat) (W : Nat) (H : Nat) (N : Nat) (D : Nat) (p1 : Int64) (p2 : Int64) (p3 : Int64) (col : Nat → Int32) (od : Nat → Int32) (blk : Nat → Int64) (slp : Nat → Int32) (x : Nat) (z : Nat) (hN : N ≤ 6) (sz : Nat) : Met l yX5_inksOf (Cond.code yX5_inksOf cX5_inksOf 5 (some .int) :: TG) ({ frames := 1, cells := 0, slots := 0, locals := 21 }) (va_Pc [.ref (a 0), .int (nI x), .int (nI z)] (PR G y t (kWork y a (nI W, nI H, nI N, nI D, p1, p2, p3, col, od, blk, slp)) sz)) (va_Qi (fun (r : Int32) (u : Unit) => r = (nI (inkS blk (8 * z + x) N))) (fun (u : Unit) t => PO G (va_A (kWork y a (nI W, nI H, nI N, nI D, p1, p2, p3, col, od, blk, slp)) sz) (kWork y a (nI W, nI H, nI N, nI D, p1, p2, p3, col, od, blk, slp)) t) (va_A (kWork y a (nI W, nI H, nI N, nI D, p1, p2, p3, col, od, blk, slp)) sz)) 0 0 (va_A (kWork y a (nI W, nI H, nI N, nI D, p1, p2, p3, col, od, blk, slp)) sz) := by
  refine kMet (cc := cX5_inksOf) (maxL := 5) (ret := some .int) (Qc := fun A => va_Qi (fun (r : Int32) (u : Unit) => r = (nI (inkS blk (8 * z + x) N))) (fun (u : Unit) t => PO G A (kWork y a (nI W, nI H, nI N, nI D, p1, p2, p3, col, od, blk, slp)) t) A) (by decide) rfl (Nat.le_of_ble_eq_true rfl) (fun p e s m below meth c A hsz C hin => ?_)
  refine KW.loc (lv' := [(0, .ref (a 0)), (1, .int (nI x)), (2, .int (nI z))]) [0, 1, 2] rfl ?_
  refine kw_iconst (v := nI 0) C dX5_inksOf_0 (by decide) ?_
  refine kw_istore_n C [(3, .int (nI 0)), (0, .ref (a 0)), (1, .int (nI x)), (2, .int (nI z))] dX5_inksOf_1 rfl (by decide) rfl ?_
  refine kw_iconst (v := nI 0) C dX5_inksOf_2 (by decide) ?_
  refine kw_istore C [(4, .int (nI 0)), (3, .int (nI 0)), (0, .ref (a 0)), (1, .int (nI x)), (2, .int (nI z))] dX5_inksOf_3 (by decide) rfl ?_
  have L5_1 : ∀ (nn : Nat) (i : Nat) (hi : i ≤ N) (hms : N - i < nn), KW p l e ({ frames := 1, cells := 0, slots := 0, locals := 21 }) s m ([.ref (a 0), .int (nI x), .int (nI z)] : List Value).toArray below meth c 0 0 (MQ below (va_Qi (fun (r : Int32) (u : Unit) => r = (nI (inkS blk (8 * z + x) N))) (fun (u : Unit) t => PO G A (kWork y a (nI W, nI H, nI N, nI D, p1, p2, p3, col, od, blk, slp)) t) A) ([.ref (a 0), .int (nI x), .int (nI z)] : List Value).toArray s 0 0 A) G A 5 (kWork y a (nI W, nI H, nI N, nI D, p1, p2, p3, col, od, blk, slp)) [(4, .int (nI i)), (3, .int (nI (inkS blk (8 * z + x) i))), (0, .ref (a 0)), (1, .int (nI x)), (2, .int (nI z))] 5 [] := by
    intro nn
    induction nn with
    | zero => intro i hi hms; exact absurd hms (Nat.not_lt_zero _)
    | succ nn ih_5 =>
      intro i hi hms
      refine kw_iload C 0 dX5_inksOf_5 rfl ?_
      refine kw_aload_n C 2 dX5_inksOf_7 rfl ?_
      refine kw_get (v := .int (nI N)) (T := TX5) C 0 2 rfl rfl (by decide) (fun w h => mT (fwX5 w h)) rfl (mT wd_91) rfl dX5_inksOf_8 ?_
      refine kw_icmp_ge_N (tgt := 45) C (by omega) (by omega) dX5_inksOf_11 (by decide) (fun c_11 => ?_) (fun c_11 => ?_)
      ·
        refine kw_iload_n C 1 dX5_inksOf_45 rfl ?_
        refine kR_i C () dX5_inksOf_46 ?_ rfl
        rw [show i = N from by omega]
      ·
        refine kw_aload_n C 2 dX5_inksOf_14 rfl ?_
        refine kw_get (v := .ref (a 4)) (T := TX5) C 0 7 rfl rfl (by decide) (fun w h => mT (fwX5 w h)) rfl (mT wd_103) rfl dX5_inksOf_15 ?_
        refine kw_iload C 0 dX5_inksOf_18 rfl ?_
        refine kw_lald (f := blk) C 4 rfl (by omega) (by decide) dX5_inksOf_20 ?_
        refine kw_iload_n C 3 dX5_inksOf_21 rfl ?_
        refine kw_iload_n C 4 dX5_inksOf_22 rfl ?_
        refine kSN_l (As := [.int (nI x), .int (nI z)]) (rest := [.long (blk i)]) (ws' := fun (u : Unit) => kWork y a (nI W, nI H, nI N, nI D, p1, p2, p3, col, od, blk, slp)) C (c_X6_cellBit l G y t x z) ⟨va_cnB 2 C.2.2.2.2.1 (goodTG cT wd_295) rfl rfl rfl (C.2.2.2.2.2.2.2.2.2.1.2 _ (List.mem_of_getElem? (i := 11) rfl)) (C.2.2.2.2.1 _ (mT wd_41)) (by decide +kernel) ⟨by decide, by decide⟩, C.2.2.2.2.1 _ (mT wd_294), trivial⟩ [] [0, 1, 2, 3, 4, 5] [0, 1, 2, 3, 4, 5] rfl (by decide) rfl (by decide) (by decide) (fun _ => rfl) (by decide) rfl (Nat.le_of_ble_eq_true rfl) ⟨by decide, by decide⟩ dX5_inksOf_23 (fun r u hr_2 => ?_)
        subst hr_2
        refine kw_land C dX5_inksOf_26 ?_
        refine kw_lconst (v := 0) C dX5_inksOf_27 (by decide) ?_
        refine kw_lcmp C dX5_inksOf_28 ?_
        refine kw_if_eq_L (tgt := 39) C dX5_inksOf_29 (by decide) (fun c_29 => ?_) (fun c_29 => ?_)
        ·
          refine kw_iinc (v := nI (i + 1)) C [(4, .int (nI (i + 1))), (3, .int (nI (inkS blk (8 * z + x) i))), (0, .ref (a 0)), (1, .int (nI x)), (2, .int (nI z))] 0 dX5_inksOf_39 rfl (nI_1 _) (by decide) rfl ?_
          refine kw_goto (tgt := 5) C dX5_inksOf_42 (by decide) ?_
          refine KW.loc (lv' := [(4, .int (nI (i + 1))), (3, .int (nI (inkS blk (8 * z + x) i))), (0, .ref (a 0)), (1, .int (nI x)), (2, .int (nI z))]) [0, 1, 2, 3, 4] rfl ?_
          refine KW.asl (congrArg (fun zz => ([(4, .int (nI (i + 1))), (3, .int zz), (0, .ref (a 0)), (1, .int (nI x)), (2, .int (nI z))] : List (Nat × Value))) (show (nI (inkS blk (8 * z + x) i)) = (nI (inkS blk (8 * z + x) (i + 1))) from by simp [inkS, tl, c_29])) ?_
          exact ih_5 (i + 1) (by first | assumption | omega | (simp; done)) (by omega)
        ·
          refine kw_iload_n C 1 dX5_inksOf_32 rfl ?_
          refine kw_iconst (v := nI 1) C dX5_inksOf_33 (by decide) ?_
          refine kw_iload C 0 dX5_inksOf_34 rfl ?_
          refine kw_ishl C dX5_inksOf_36 (kw_top (n_shl1 (by omega)) ?_)
          refine kw_ior C dX5_inksOf_37 (kw_top (n_or _ _) ?_)
          refine kw_istore_n C [(3, .int (nI ((inkS blk (8 * z + x) i) ||| (2 ^ i)))), (4, .int (nI i)), (0, .ref (a 0)), (1, .int (nI x)), (2, .int (nI z))] dX5_inksOf_38 rfl (by decide) rfl ?_
          refine kw_iinc (v := nI (i + 1)) C [(4, .int (nI (i + 1))), (3, .int (nI ((inkS blk (8 * z + x) i) ||| (2 ^ i)))), (0, .ref (a 0)), (1, .int (nI x)), (2, .int (nI z))] 1 dX5_inksOf_39 rfl (nI_1 _) (by decide) rfl ?_
          refine kw_goto (tgt := 5) C dX5_inksOf_42 (by decide) ?_
          refine KW.loc (lv' := [(4, .int (nI (i + 1))), (3, .int (nI ((inkS blk (8 * z + x) i) ||| (2 ^ i)))), (0, .ref (a 0)), (1, .int (nI x)), (2, .int (nI z))]) [0, 1, 2, 3, 4] rfl ?_
          refine KW.asl (congrArg (fun zz => ([(4, .int (nI (i + 1))), (3, .int zz), (0, .ref (a 0)), (1, .int (nI x)), (2, .int (nI z))] : List (Nat × Value))) (show (nI ((inkS blk (8 * z + x) i) ||| (2 ^ i))) = (nI (inkS blk (8 * z + x) (i + 1))) from by simp [inkS, tl, c_29])) ?_
          exact ih_5 (i + 1) (by first | assumption | omega | (simp; done)) (by omega)
  refine KW.loc (lv' := [(4, .int (nI 0)), (3, .int (nI 0)), (0, .ref (a 0)), (1, .int (nI x)), (2, .int (nI z))]) [0, 1, 2, 3, 4] rfl ?_
  refine KW.asl (congrArg (fun zz => ([(4, .int (nI 0)), (3, .int zz), (0, .ref (a 0)), (1, .int (nI x)), (2, .int (nI z))] : List (Nat × Value))) (show (nI 0) = (nI (inkS blk (8 * z + x) 0)) from by rfl)) ?_
  exact L5_1 (N - 0 + 1) 0 (by first | assumption | omega | (simp; done)) (Nat.lt_succ_self _)

set_option maxHeartbeats 4000000 in
set_option maxRecDepth 100000 in
theorem c_X5_cellsOfBlocks (l : Launch) (G : va_G) (y : Nat → ClassId) (t : Nat) (a : Nat → Nat) (W : Nat) (H : Nat) (N : Nat) (D : Nat) (p1 : Int64) (p2 : Int64) (p3 : Int64) (col : Nat → Int32) (od : Nat → Int32) (blk : Nat → Int64) (slp : Nat → Int32) (hN : N ≤ 6) (sz : Nat) : Met l yX5_cellsOfBlocks (Cond.code yX5_cellsOfBlocks cX5_cellsOfBlocks 3 (some .int) :: TG) ({ frames := 1, cells := 0, slots := 0, locals := 21 }) (va_Pc [.ref (a 0)] (PR G y t (kWork y a (nI W, nI H, nI N, nI D, p1, p2, p3, col, od, blk, slp)) sz)) (va_Qi (fun (r : Int32) (u : Unit) => r = (cntB blk N)) (fun (u : Unit) t => PO G (va_A (kWork y a (nI W, nI H, nI N, nI D, p1, p2, p3, col, od, blk, slp)) sz) (kWork y a (nI W, nI H, nI N, nI D, p1, p2, p3, col, od, blk, slp)) t) (va_A (kWork y a (nI W, nI H, nI N, nI D, p1, p2, p3, col, od, blk, slp)) sz)) 0 0 (va_A (kWork y a (nI W, nI H, nI N, nI D, p1, p2, p3, col, od, blk, slp)) sz) := by
  refine kMet (cc := cX5_cellsOfBlocks) (maxL := 3) (ret := some .int) (Qc := fun A => va_Qi (fun (r : Int32) (u : Unit) => r = (cntB blk N)) (fun (u : Unit) t => PO G A (kWork y a (nI W, nI H, nI N, nI D, p1, p2, p3, col, od, blk, slp)) t) A) (by decide) rfl (Nat.le_of_ble_eq_true rfl) (fun p e s m below meth c A hsz C hin => ?_)
  refine KW.loc (lv' := [(0, .ref (a 0))]) [0] rfl ?_
  refine kw_iconst (v := nI 0) C dX5_cellsOfBlocks_0 (by decide) ?_
  refine kw_istore_n C [(1, .int (nI 0)), (0, .ref (a 0))] dX5_cellsOfBlocks_1 rfl (by decide) rfl ?_
  refine kw_iconst (v := nI 0) C dX5_cellsOfBlocks_2 (by decide) ?_
  refine kw_istore_n C [(2, .int (nI 0)), (1, .int (nI 0)), (0, .ref (a 0))] dX5_cellsOfBlocks_3 rfl (by decide) rfl ?_
  have L4_1 : ∀ (nn : Nat) (i : Nat) (hi : i ≤ N) (hms : N - i < nn), KW p l e ({ frames := 1, cells := 0, slots := 0, locals := 21 }) s m ([.ref (a 0)] : List Value).toArray below meth c 0 0 (MQ below (va_Qi (fun (r : Int32) (u : Unit) => r = (cntB blk N)) (fun (u : Unit) t => PO G A (kWork y a (nI W, nI H, nI N, nI D, p1, p2, p3, col, od, blk, slp)) t) A) ([.ref (a 0)] : List Value).toArray s 0 0 A) G A 3 (kWork y a (nI W, nI H, nI N, nI D, p1, p2, p3, col, od, blk, slp)) [(2, .int (nI i)), (1, .int (cntB blk i)), (0, .ref (a 0))] 4 [] := by
    intro nn
    induction nn with
    | zero => intro i hi hms; exact absurd hms (Nat.not_lt_zero _)
    | succ nn ih_4 =>
      intro i hi hms
      refine kw_iload_n C 0 dX5_cellsOfBlocks_4 rfl ?_
      refine kw_aload_n C 2 dX5_cellsOfBlocks_5 rfl ?_
      refine kw_get (v := .int (nI N)) (T := TX5) C 0 2 rfl rfl (by decide) (fun w h => mT (fwX5 w h)) rfl (mT wd_91) rfl dX5_cellsOfBlocks_6 ?_
      refine kw_icmp_ge_N (tgt := 30) C (by omega) (by omega) dX5_cellsOfBlocks_9 (by decide) (fun c_9 => ?_) (fun c_9 => ?_)
      ·
        refine kw_iload_n C 1 dX5_cellsOfBlocks_30 rfl ?_
        refine kR_i C () dX5_cellsOfBlocks_31 ?_ rfl
        rw [show i = N from by omega]
      ·
        refine kw_iload_n C 1 dX5_cellsOfBlocks_12 rfl ?_
        refine kw_aload_n C 2 dX5_cellsOfBlocks_13 rfl ?_
        refine kw_get (v := .ref (a 4)) (T := TX5) C 0 7 rfl rfl (by decide) (fun w h => mT (fwX5 w h)) rfl (mT wd_103) rfl dX5_cellsOfBlocks_14 ?_
        refine kw_iload_n C 0 dX5_cellsOfBlocks_17 rfl ?_
        refine kw_lald (f := blk) C 4 rfl (by omega) (by decide) dX5_cellsOfBlocks_18 ?_
        refine kS_i (As := [.long (blk i)]) (rest := [.int (cntB blk i)]) (ws' := fun (u : Unit) => kWork y a (nI W, nI H, nI N, nI D, p1, p2, p3, col, od, blk, slp)) C (c_J13_bitCount_95d88 l G y t (blk i)) (va_cwS 1 C.2.2.2.2.1 (goodS cT wd_452 wd_604 wd_451 wd_52) rfl rfl rfl (by decide +kernel) ⟨by decide, by decide⟩) [] [0, 1, 2, 3, 4, 5] [0, 1, 2, 3, 4, 5] rfl (by decide) rfl (by decide) (by decide) (fun _ => rfl) (by decide) rfl (Nat.le_of_ble_eq_true rfl) ⟨by decide, by decide⟩ dX5_cellsOfBlocks_19 (fun r u hr_2 => ?_)
        subst hr_2
        refine kw_iadd C dX5_cellsOfBlocks_22 ?_
        refine kw_istore_n C [(1, .int ((cntB blk i) + (pcL (blk i)))), (2, .int (nI i)), (0, .ref (a 0))] dX5_cellsOfBlocks_23 rfl (by decide) rfl ?_
        refine kw_iinc (v := nI (i + 1)) C [(2, .int (nI (i + 1))), (1, .int ((cntB blk i) + (pcL (blk i)))), (0, .ref (a 0))] 1 dX5_cellsOfBlocks_24 rfl (nI_1 _) (by decide) rfl ?_
        refine kw_goto (tgt := 4) C dX5_cellsOfBlocks_27 (by decide) ?_
        refine KW.loc (lv' := [(2, .int (nI (i + 1))), (1, .int ((cntB blk i) + (pcL (blk i)))), (0, .ref (a 0))]) [0, 1, 2] rfl ?_
        refine KW.asl (congrArg (fun zz => ([(2, .int (nI (i + 1))), (1, .int zz), (0, .ref (a 0))] : List (Nat × Value))) (show ((cntB blk i) + (pcL (blk i))) = (cntB blk (i + 1)) from by rfl)) ?_
        exact ih_4 (i + 1) (by first | assumption | omega | (simp; done)) (by omega)
  refine KW.loc (lv' := [(2, .int (nI 0)), (1, .int (nI 0)), (0, .ref (a 0))]) [0, 1, 2] rfl ?_
  refine KW.asl (congrArg (fun zz => ([(2, .int (nI 0)), (1, .int zz), (0, .ref (a 0))] : List (Nat × Value))) (show (nI 0) = (cntB blk 0) from by rfl)) ?_
  exact L4_1 (N - 0 + 1) 0 (by first | assumption | omega | (simp; done)) (Nat.lt_succ_self _)

set_option maxHeartbeats 4000000 in
set_option maxRecDepth 100000 in
theorem c_X5_slippedBlocks (l : Launch) (G : va_G) (y : Nat → ClassId) (t : Nat) (a : Nat → Nat) (W : Nat) (H : Nat) (N : Nat) (D : Nat) (p1 : Int64) (p2 : Int64) (p3 : Int64) (col : Nat → Int32) (od : Nat → Int32) (blk : Nat → Int64) (slp : Nat → Int32) (hN : N ≤ 6) (sz : Nat) : Met l yX5_slippedBlocks (Cond.code yX5_slippedBlocks cX5_slippedBlocks 3 (some .int) :: TG) ({ frames := 0, cells := 0, slots := 0, locals := 0 }) (va_Pc [.ref (a 0)] (PR G y t (kWork y a (nI W, nI H, nI N, nI D, p1, p2, p3, col, od, blk, slp)) sz)) (va_Qi (fun (r : Int32) (u : Unit) => r = (nI (cntS slp N))) (fun (u : Unit) t => PO G (va_A (kWork y a (nI W, nI H, nI N, nI D, p1, p2, p3, col, od, blk, slp)) sz) (kWork y a (nI W, nI H, nI N, nI D, p1, p2, p3, col, od, blk, slp)) t) (va_A (kWork y a (nI W, nI H, nI N, nI D, p1, p2, p3, col, od, blk, slp)) sz)) 0 0 (va_A (kWork y a (nI W, nI H, nI N, nI D, p1, p2, p3, col, od, blk, slp)) sz) := by
  refine kMet (cc := cX5_slippedBlocks) (maxL := 3) (ret := some .int) (Qc := fun A => va_Qi (fun (r : Int32) (u : Unit) => r = (nI (cntS slp N))) (fun (u : Unit) t => PO G A (kWork y a (nI W, nI H, nI N, nI D, p1, p2, p3, col, od, blk, slp)) t) A) (by decide) rfl (Nat.le_of_ble_eq_true rfl) (fun p e s m below meth c A hsz C hin => ?_)
  refine KW.loc (lv' := [(0, .ref (a 0))]) [0] rfl ?_
  refine kw_iconst (v := nI 0) C dX5_slippedBlocks_0 (by decide) ?_
  refine kw_istore_n C [(1, .int (nI 0)), (0, .ref (a 0))] dX5_slippedBlocks_1 rfl (by decide) rfl ?_
  refine kw_iconst (v := nI 0) C dX5_slippedBlocks_2 (by decide) ?_
  refine kw_istore_n C [(2, .int (nI 0)), (1, .int (nI 0)), (0, .ref (a 0))] dX5_slippedBlocks_3 rfl (by decide) rfl ?_
  have L4_1 : ∀ (nn : Nat) (i : Nat) (hi : i ≤ N) (hms : N - i < nn), KW p l e ({ frames := 0, cells := 0, slots := 0, locals := 0 }) s m ([.ref (a 0)] : List Value).toArray below meth c 0 0 (MQ below (va_Qi (fun (r : Int32) (u : Unit) => r = (nI (cntS slp N))) (fun (u : Unit) t => PO G A (kWork y a (nI W, nI H, nI N, nI D, p1, p2, p3, col, od, blk, slp)) t) A) ([.ref (a 0)] : List Value).toArray s 0 0 A) G A 3 (kWork y a (nI W, nI H, nI N, nI D, p1, p2, p3, col, od, blk, slp)) [(2, .int (nI i)), (1, .int (nI (cntS slp i))), (0, .ref (a 0))] 4 [] := by
    intro nn
    induction nn with
    | zero => intro i hi hms; exact absurd hms (Nat.not_lt_zero _)
    | succ nn ih_4 =>
      intro i hi hms
      refine kw_iload_n C 0 dX5_slippedBlocks_4 rfl ?_
      refine kw_aload_n C 2 dX5_slippedBlocks_5 rfl ?_
      refine kw_get (v := .int (nI N)) (T := TX5) C 0 2 rfl rfl (by decide) (fun w h => mT (fwX5 w h)) rfl (mT wd_91) rfl dX5_slippedBlocks_6 ?_
      refine kw_icmp_ge_N (tgt := 31) C (by omega) (by omega) dX5_slippedBlocks_9 (by decide) (fun c_9 => ?_) (fun c_9 => ?_)
      ·
        refine kw_iload_n C 1 dX5_slippedBlocks_31 rfl ?_
        refine kR_i C () dX5_slippedBlocks_32 ?_ rfl
        rw [show i = N from by omega]
      ·
        refine kw_aload_n C 2 dX5_slippedBlocks_12 rfl ?_
        refine kw_get (v := .ref (a 5)) (T := TX5) C 0 8 rfl rfl (by decide) (fun w h => mT (fwX5 w h)) rfl (mT wd_105) rfl dX5_slippedBlocks_13 ?_
        refine kw_iload_n C 0 dX5_slippedBlocks_16 rfl ?_
        refine kw_iald (f := slp) C 5 rfl (by omega) (by decide) dX5_slippedBlocks_17 ?_
        refine kw_iconst (v := nI 4) C dX5_slippedBlocks_18 (by decide) ?_
        refine kw_icmp_eq (tgt := 25) C dX5_slippedBlocks_19 (by decide) (fun c_19 => ?_) (fun c_19 => ?_)
        ·
          refine kw_iinc (v := nI (i + 1)) C [(2, .int (nI (i + 1))), (1, .int (nI (cntS slp i))), (0, .ref (a 0))] 0 dX5_slippedBlocks_25 rfl (nI_1 _) (by decide) rfl ?_
          refine kw_goto (tgt := 4) C dX5_slippedBlocks_28 (by decide) ?_
          refine KW.loc (lv' := [(2, .int (nI (i + 1))), (1, .int (nI (cntS slp i))), (0, .ref (a 0))]) [0, 1, 2] rfl ?_
          refine KW.asl (congrArg (fun zz => ([(2, .int (nI (i + 1))), (1, .int zz), (0, .ref (a 0))] : List (Nat × Value))) (show (nI (cntS slp i)) = (nI (cntS slp (i + 1))) from by simp [cntS, c_19])) ?_
          exact ih_4 (i + 1) (by first | assumption | omega | (simp; done)) (by omega)
        ·
          refine kw_iinc (v := nI ((cntS slp i) + 1)) C [(1, .int (nI ((cntS slp i) + 1))), (2, .int (nI i)), (0, .ref (a 0))] 1 dX5_slippedBlocks_22 rfl (nI_1 _) (by decide) rfl ?_
          refine kw_iinc (v := nI (i + 1)) C [(2, .int (nI (i + 1))), (1, .int (nI ((cntS slp i) + 1))), (0, .ref (a 0))] 1 dX5_slippedBlocks_25 rfl (nI_1 _) (by decide) rfl ?_
          refine kw_goto (tgt := 4) C dX5_slippedBlocks_28 (by decide) ?_
          refine KW.loc (lv' := [(2, .int (nI (i + 1))), (1, .int (nI ((cntS slp i) + 1))), (0, .ref (a 0))]) [0, 1, 2] rfl ?_
          refine KW.asl (congrArg (fun zz => ([(2, .int (nI (i + 1))), (1, .int zz), (0, .ref (a 0))] : List (Nat × Value))) (show (nI ((cntS slp i) + 1)) = (nI (cntS slp (i + 1))) from by simp [cntS, c_19])) ?_
          exact ih_4 (i + 1) (by first | assumption | omega | (simp; done)) (by omega)
  refine KW.loc (lv' := [(2, .int (nI 0)), (1, .int (nI 0)), (0, .ref (a 0))]) [0, 1, 2] rfl ?_
  refine KW.asl (congrArg (fun zz => ([(2, .int (nI 0)), (1, .int zz), (0, .ref (a 0))] : List (Nat × Value))) (show (nI 0) = (nI (cntS slp 0)) from by rfl)) ?_
  exact L4_1 (N - 0 + 1) 0 (by first | assumption | omega | (simp; done)) (Nat.lt_succ_self _)

set_option maxHeartbeats 4000000 in
set_option maxRecDepth 100000 in
theorem c_X5_proofInto (l : Launch) (G : va_G) (y : Nat → ClassId) (t : Nat) (a : Nat → Nat) (W : Nat) (H : Nat) (N : Nat) (D : Nat) (p1 : Int64) (p2 : Int64) (p3 : Int64) (col : Nat → Int32) (od : Nat → Int32) (blk : Nat → Int64) (slp : Nat → Int32) (o : Nat → Nat) (cl : Nat → Nat) (kk : Nat → Nat) (b : Nat) (r1 : Int64) (r2 : Int64) (r3 : Int64) (ox : Int32) (sk : Nat) (hW : W ≤ 6) (hH : H ≤ 6) (hN : N ≤ 6) (hD : D < 64) (hod : ∀ q, q < N → od q = nI (o q) ∧ o q < N) (hcol : ∀ i, i < N → col i = nI (cl i) ∧ cl i < 8) (hsl : ∀ i, i < N → slp i = nI (kk i) ∧ kk i < 9) (hsk : sk < 9) (sz : Nat) : Met l yX5_proofInto (Cond.code yX5_proofInto cX5_proofInto 10 (none) :: TG) ({ frames := 2, cells := 0, slots := 0, locals := 49 }) (va_Pc [.ref (a 0), .ref b, .int ox, .int (nI sk)] (PR G y t (kWork y a (nI W, nI H, nI N, nI D, p1, p2, p3, col, od, blk, slp) ++ kSheet b (r1, r2, r3)) sz)) (va_Qv (fun (u : Unit) => True) (fun (u : Unit) t => PO G (va_A (kWork y a (nI W, nI H, nI N, nI D, p1, p2, p3, col, od, blk, slp) ++ kSheet b (r1, r2, r3)) sz) (kWork y a (nI W, nI H, nI N, nI D, p1, p2, p3, col, od, blk, slp) ++ kSheet b (pfP W H D blk o cl kk ox sk 0 N, pfP W H D blk o cl kk ox sk 1 N, pfP W H D blk o cl kk ox sk 2 N)) t) (va_A (kWork y a (nI W, nI H, nI N, nI D, p1, p2, p3, col, od, blk, slp) ++ kSheet b (r1, r2, r3)) sz)) 0 0 (va_A (kWork y a (nI W, nI H, nI N, nI D, p1, p2, p3, col, od, blk, slp) ++ kSheet b (r1, r2, r3)) sz) := by
  refine kMet (cc := cX5_proofInto) (maxL := 10) (ret := none) (Qc := fun A => va_Qv (fun (u : Unit) => True) (fun (u : Unit) t => PO G A (kWork y a (nI W, nI H, nI N, nI D, p1, p2, p3, col, od, blk, slp) ++ kSheet b (pfP W H D blk o cl kk ox sk 0 N, pfP W H D blk o cl kk ox sk 1 N, pfP W H D blk o cl kk ox sk 2 N)) t) A) (by decide) rfl (Nat.le_of_ble_eq_true rfl) (fun p e s m below meth c A hsz C hin => ?_)
  refine KW.loc (lv' := [(0, .ref (a 0)), (1, .ref b), (2, .int ox), (3, .int (nI sk))]) [0, 1, 2, 3] rfl ?_
  refine kw_aload_n C 0 dX5_proofInto_0 rfl ?_
  refine kV_l (As := []) (rest := []) (ws' := fun (u : Unit) => kWork y a (nI W, nI H, nI N, nI D, p1, p2, p3, col, od, blk, slp) ++ kSheet b (r1, r2, r3)) C (c_X5_paper l G y t a W H N D p1 p2 p3 col od blk slp (by first | assumption | omega | decide) (by first | assumption | omega | decide)) (cwV 0 C.2.2.2.2.1 (goodV cT wd_350 wd_347 wd_348 wd_349 wd_42) rfl rfl rfl (by decide +kernel) ⟨by decide, by decide⟩) [0, 1, 2, 3, 4, 5] [6] [1, 2, 3, 4, 5, 6, 0] rfl (by decide) rfl (by decide) (by decide) (fun _ => rfl) (by decide) 0 rfl rfl rfl (Nat.le_of_ble_eq_true rfl) ⟨by decide, by decide⟩ dX5_proofInto_1 (fun r u hr_1 => ?_)
  subst hr_1
  refine kw_lstore C [(4, .long (papL W H)), (0, .ref (a 0)), (1, .ref b), (2, .int ox), (3, .int (nI sk))] dX5_proofInto_4 (by decide) rfl ?_
  refine kw_aload_n C 2 dX5_proofInto_6 rfl ?_
  refine kV_v (As := []) (rest := []) (ws' := fun (u : Unit) => kWork y a (nI W, nI H, nI N, nI D, p1, p2, p3, col, od, blk, slp) ++ kSheet b (0, 0, 0)) C (c_X2_wipe l G y t b r1 r2 r3) (cwV 0 C.2.2.2.2.1 (goodV cT wd_280 wd_277 wd_278 wd_279 wd_43) rfl rfl rfl (by decide +kernel) ⟨by decide, by decide⟩) [6] [0, 1, 2, 3, 4, 5] [0, 1, 2, 3, 4, 5, 6] rfl (by decide) rfl (by decide) (by decide) (fun _ => rfl) (by decide) 6 rfl rfl rfl (Nat.le_of_ble_eq_true rfl) ⟨by decide, by decide⟩ dX5_proofInto_7 (fun u hr_2 => ?_)
  refine kw_iconst (v := nI 0) C dX5_proofInto_10 (by decide) ?_
  refine kw_istore C [(6, .int (nI 0)), (4, .long (papL W H)), (0, .ref (a 0)), (1, .ref b), (2, .int ox), (3, .int (nI sk))] dX5_proofInto_11 (by decide) rfl ?_
  have L13_3 : ∀ (nn : Nat) (i : Nat) (hi : i ≤ N) (hms : N - i < nn), KW p l e ({ frames := 2, cells := 0, slots := 0, locals := 49 }) s m ([.ref (a 0), .ref b, .int ox, .int (nI sk)] : List Value).toArray below meth c 0 0 (MQ below (va_Qv (fun (u : Unit) => True) (fun (u : Unit) t => PO G A (kWork y a (nI W, nI H, nI N, nI D, p1, p2, p3, col, od, blk, slp) ++ kSheet b (pfP W H D blk o cl kk ox sk 0 N, pfP W H D blk o cl kk ox sk 1 N, pfP W H D blk o cl kk ox sk 2 N)) t) A) ([.ref (a 0), .ref b, .int ox, .int (nI sk)] : List Value).toArray s 0 0 A) G A 10 (kWork y a (nI W, nI H, nI N, nI D, p1, p2, p3, col, od, blk, slp) ++ kSheet b (pfP W H D blk o cl kk ox sk 0 i, pfP W H D blk o cl kk ox sk 1 i, pfP W H D blk o cl kk ox sk 2 i)) [(6, .int (nI i)), (4, .long (papL W H)), (0, .ref (a 0)), (1, .ref b), (2, .int ox), (3, .int (nI sk))] 13 [] := by
    intro nn
    induction nn with
    | zero => intro i hi hms; exact absurd hms (Nat.not_lt_zero _)
    | succ nn ih_13 =>
      intro i hi hms
      refine kw_iload C 0 dX5_proofInto_13 rfl ?_
      refine kw_aload_n C 2 dX5_proofInto_15 rfl ?_
      refine kw_get (v := .int (nI N)) (T := TX5) C 0 2 rfl rfl (by decide) (fun w h => mT (fwX5 w h)) rfl (mT wd_91) rfl dX5_proofInto_16 ?_
      refine kw_icmp_ge_N (tgt := 88) C (by omega) (by omega) dX5_proofInto_19 (by decide) (fun c_19 => ?_) (fun c_19 => ?_)
      ·
        rw [show i = N from by omega]
        refine kR_v C () dX5_proofInto_88 ?_ rfl
        first | rfl | trivial | (simp; done) | omega
      ·
        refine kw_aload_n C 2 dX5_proofInto_22 rfl ?_
        refine kw_get (v := .ref (a 3)) (T := TX5) C 0 6 rfl rfl (by decide) (fun w h => mT (fwX5 w h)) rfl (mT wd_102) rfl dX5_proofInto_23 ?_
        refine kw_iload C 0 dX5_proofInto_26 rfl ?_
        refine kw_iald (f := od) C 3 rfl (by omega) (by decide) dX5_proofInto_28 ?_
        refine kw_top (show (od i) = (nI (o i)) from by exact (hod i (by omega)).1) ?_
        have ho := (hod i (by omega)).2
        refine kw_istore C [(7, .int (nI (o i))), (6, .int (nI i)), (4, .long (papL W H)), (0, .ref (a 0)), (1, .ref b), (2, .int ox), (3, .int (nI sk))] dX5_proofInto_29 (by decide) rfl ?_
        refine kw_aload_n C 3 dX5_proofInto_31 rfl ?_
        refine kw_get (v := .ref (a 4)) (T := TX5) C 0 7 rfl rfl (by decide) (fun w h => mT (fwX5 w h)) rfl (mT wd_103) rfl dX5_proofInto_32 ?_
        refine kw_iload C 0 dX5_proofInto_35 rfl ?_
        refine kw_lald (f := blk) C 4 rfl (by omega) (by decide) dX5_proofInto_37 ?_
        refine kw_iload C 0 dX5_proofInto_38 rfl ?_
        refine kw_iload_n C 5 dX5_proofInto_40 rfl ?_
        have J55_4 : ∀ (_ : Unit), KW p l e ({ frames := 2, cells := 0, slots := 0, locals := 49 }) s m ([.ref (a 0), .ref b, .int ox, .int (nI sk)] : List Value).toArray below meth c 0 0 (MQ below (va_Qv (fun (u : Unit) => True) (fun (u : Unit) t => PO G A (kWork y a (nI W, nI H, nI N, nI D, p1, p2, p3, col, od, blk, slp) ++ kSheet b (pfP W H D blk o cl kk ox sk 0 N, pfP W H D blk o cl kk ox sk 1 N, pfP W H D blk o cl kk ox sk 2 N)) t) A) ([.ref (a 0), .ref b, .int ox, .int (nI sk)] : List Value).toArray s 0 0 A) G A 10 (kWork y a (nI W, nI H, nI N, nI D, p1, p2, p3, col, od, blk, slp) ++ kSheet b (pfP W H D blk o cl kk ox sk 0 i, pfP W H D blk o cl kk ox sk 1 i, pfP W H D blk o cl kk ox sk 2 i)) [(7, .int (nI (o i))), (6, .int (nI i)), (4, .long (papL W H)), (0, .ref (a 0)), (1, .ref b), (2, .int ox), (3, .int (nI sk))] 55 [.int (nI (slOf ox sk kk (o i))), .long (blk (o i))] := by
          intro _
          have hs : slOf ox sk kk (o i) < 9 := by unfold slOf; split; exact hsk; exact (hsl _ ho).2
          refine kSN_l (As := [.long (blk (o i)), .int (nI (slOf ox sk kk (o i)))]) (rest := []) (ws' := fun (u : Unit) => kWork y a (nI W, nI H, nI N, nI D, p1, p2, p3, col, od, blk, slp) ++ kSheet b (pfP W H D blk o cl kk ox sk 0 i, pfP W H D blk o cl kk ox sk 1 i, pfP W H D blk o cl kk ox sk 2 i)) C (c_X6_slipped l G y t (blk (o i)) (slOf ox sk kk (o i)) (by first | assumption | omega | decide)) ⟨va_cnB 2 C.2.2.2.2.1 (goodTG cT wd_438) rfl rfl rfl (C.2.2.2.2.2.2.2.2.2.1.2 _ (List.mem_of_getElem? (i := 9) rfl)) (C.2.2.2.2.1 _ (mT wd_41)) (by decide +kernel) ⟨by decide, by decide⟩, C.2.2.2.2.1 _ (mT wd_437), trivial⟩ [] [0, 1, 2, 3, 4, 5, 6] [0, 1, 2, 3, 4, 5, 6] rfl (by decide) rfl (by decide) (by decide) (fun _ => rfl) (by decide) rfl (Nat.le_of_ble_eq_true rfl) ⟨by decide, by decide⟩ dX5_proofInto_55 (fun r u hr_5 => ?_)
          subst hr_5
          refine kw_lstore C [(8, .long (slipL (blk (o i)) (slOf ox sk kk (o i)))), (7, .int (nI (o i))), (6, .int (nI i)), (4, .long (papL W H)), (0, .ref (a 0)), (1, .ref b), (2, .int ox), (3, .int (nI sk))] dX5_proofInto_58 (by decide) rfl ?_
          refine kw_aload_n C 5 dX5_proofInto_60 rfl ?_
          refine kw_lload C 0 dX5_proofInto_61 rfl ?_
          refine kw_lload C 3 dX5_proofInto_63 rfl ?_
          refine kw_land C dX5_proofInto_65 ?_
          refine kw_aload_n C 4 dX5_proofInto_66 rfl ?_
          refine kw_get (v := .ref (a 2)) (T := TX5) C 0 5 rfl rfl (by decide) (fun w h => mT (fwX5 w h)) rfl (mT wd_100) rfl dX5_proofInto_67 ?_
          refine kw_iload C 1 dX5_proofInto_70 rfl ?_
          refine kw_iald (f := col) C 2 rfl (by omega) (by decide) dX5_proofInto_72 ?_
          refine kw_top (show (col (o i)) = (nI (cl (o i))) from by exact (hcol (o i) ho).1) ?_
          have hc := (hcol (o i) ho).2
          refine kw_aload_n C 4 dX5_proofInto_73 rfl ?_
          refine kw_iload C 1 dX5_proofInto_74 rfl ?_
          refine kV_i (As := [.int (nI (o i))]) (rest := [.int (nI (cl (o i))), .long ((slipL (blk (o i)) (slOf ox sk kk (o i))) &&& (papL W H)), .ref b]) (ws' := fun (u : Unit) => kWork y a (nI W, nI H, nI N, nI D, p1, p2, p3, col, od, blk, slp) ++ kSheet b (pfP W H D blk o cl kk ox sk 0 i, pfP W H D blk o cl kk ox sk 1 i, pfP W H D blk o cl kk ox sk 2 i)) C (c_X5_isDense l G y t a W H N D p1 p2 p3 col od blk slp (o i) (by first | assumption | omega | decide) (by first | assumption | omega | decide)) (cwV 1 C.2.2.2.2.1 (goodV cT wd_376 wd_373 wd_374 wd_375 wd_42) rfl rfl rfl (by decide +kernel) ⟨by decide, by decide⟩) [0, 1, 2, 3, 4, 5] [6] [1, 2, 3, 4, 5, 6, 0] rfl (by decide) rfl (by decide) (by decide) (fun _ => rfl) (by decide) 0 rfl rfl rfl (Nat.le_of_ble_eq_true rfl) ⟨by decide, by decide⟩ dX5_proofInto_76 (fun r u hr_6 => ?_)
          subst hr_6
          refine kV_v (As := [.long ((slipL (blk (o i)) (slOf ox sk kk (o i))) &&& (papL W H)), .int (nI (cl (o i))), .int (bI (D.testBit (o i)))]) (rest := []) (ws' := fun (u : Unit) => kWork y a (nI W, nI H, nI N, nI D, p1, p2, p3, col, od, blk, slp) ++ kSheet b (prL (pfP W H D blk o cl kk ox sk 0 i) ((slipL (blk (o i)) (slOf ox sk kk (o i))) &&& (papL W H)) ((cl (o i)).testBit 0) (D.testBit (o i)), prL (pfP W H D blk o cl kk ox sk 1 i) ((slipL (blk (o i)) (slOf ox sk kk (o i))) &&& (papL W H)) ((cl (o i)).testBit 1) (D.testBit (o i)), prL (pfP W H D blk o cl kk ox sk 2 i) ((slipL (blk (o i)) (slOf ox sk kk (o i))) &&& (papL W H)) ((cl (o i)).testBit 2) (D.testBit (o i)))) C (c_X2_print l G y t b (pfP W H D blk o cl kk ox sk 0 i) (pfP W H D blk o cl kk ox sk 1 i) (pfP W H D blk o cl kk ox sk 2 i) ((slipL (blk (o i)) (slOf ox sk kk (o i))) &&& (papL W H)) (cl (o i)) (D.testBit (o i)) (by first | assumption | omega | decide)) (cwV 3 C.2.2.2.2.1 (goodV cT wd_299 wd_445 wd_297 wd_298 wd_43) rfl rfl rfl (by decide +kernel) ⟨by decide, by decide⟩) [6] [0, 1, 2, 3, 4, 5] [0, 1, 2, 3, 4, 5, 6] rfl (by decide) rfl (by decide) (by decide) (fun _ => rfl) (by decide) 6 rfl rfl rfl (Nat.le_of_ble_eq_true rfl) ⟨by decide, by decide⟩ dX5_proofInto_79 (fun u hr_7 => ?_)
          refine kw_iinc (v := nI (i + 1)) C [(6, .int (nI (i + 1))), (8, .long (slipL (blk (o i)) (slOf ox sk kk (o i)))), (7, .int (nI (o i))), (4, .long (papL W H)), (0, .ref (a 0)), (1, .ref b), (2, .int ox), (3, .int (nI sk))] 2 dX5_proofInto_82 rfl (nI_1 _) (by decide) rfl ?_
          refine kw_goto (tgt := 13) C dX5_proofInto_85 (by decide) ?_
          refine KW.loc (lv' := [(6, .int (nI (i + 1))), (4, .long (papL W H)), (0, .ref (a 0)), (1, .ref b), (2, .int ox), (3, .int (nI sk))]) [0, 3, 4, 5, 6, 7] rfl ?_
          refine KW.asw (congrArg (fun zz => (kWork y a (nI W, nI H, nI N, nI D, p1, p2, p3, col, od, blk, slp) ++ kSheet b (zz, prL (pfP W H D blk o cl kk ox sk 1 i) ((slipL (blk (o i)) (slOf ox sk kk (o i))) &&& (papL W H)) ((cl (o i)).testBit 1) (D.testBit (o i)), prL (pfP W H D blk o cl kk ox sk 2 i) ((slipL (blk (o i)) (slOf ox sk kk (o i))) &&& (papL W H)) ((cl (o i)).testBit 2) (D.testBit (o i))) : va_W)) (show (prL (pfP W H D blk o cl kk ox sk 0 i) ((slipL (blk (o i)) (slOf ox sk kk (o i))) &&& (papL W H)) ((cl (o i)).testBit 0) (D.testBit (o i))) = (pfP W H D blk o cl kk ox sk 0 (i + 1)) from by rfl)) ?_
          refine KW.asw (congrArg (fun zz => (kWork y a (nI W, nI H, nI N, nI D, p1, p2, p3, col, od, blk, slp) ++ kSheet b (pfP W H D blk o cl kk ox sk 0 (i + 1), zz, prL (pfP W H D blk o cl kk ox sk 2 i) ((slipL (blk (o i)) (slOf ox sk kk (o i))) &&& (papL W H)) ((cl (o i)).testBit 2) (D.testBit (o i))) : va_W)) (show (prL (pfP W H D blk o cl kk ox sk 1 i) ((slipL (blk (o i)) (slOf ox sk kk (o i))) &&& (papL W H)) ((cl (o i)).testBit 1) (D.testBit (o i))) = (pfP W H D blk o cl kk ox sk 1 (i + 1)) from by rfl)) ?_
          refine KW.asw (congrArg (fun zz => (kWork y a (nI W, nI H, nI N, nI D, p1, p2, p3, col, od, blk, slp) ++ kSheet b (pfP W H D blk o cl kk ox sk 0 (i + 1), pfP W H D blk o cl kk ox sk 1 (i + 1), zz) : va_W)) (show (prL (pfP W H D blk o cl kk ox sk 2 i) ((slipL (blk (o i)) (slOf ox sk kk (o i))) &&& (papL W H)) ((cl (o i)).testBit 2) (D.testBit (o i))) = (pfP W H D blk o cl kk ox sk 2 (i + 1)) from by rfl)) ?_
          exact ih_13 (i + 1) (by first | assumption | omega | (simp; done)) (by omega)
        refine kw_icmp_ne (tgt := 48) C dX5_proofInto_41 (by decide) (fun c_41 => ?_) (fun c_41 => ?_)
        ·
          refine kw_aload_n C 3 dX5_proofInto_48 rfl ?_
          refine kw_get (v := .ref (a 5)) (T := TX5) C 0 8 rfl rfl (by decide) (fun w h => mT (fwX5 w h)) rfl (mT wd_105) rfl dX5_proofInto_49 ?_
          refine kw_iload C 0 dX5_proofInto_52 rfl ?_
          refine kw_iald (f := slp) C 5 rfl (by omega) (by decide) dX5_proofInto_54 ?_
          refine KW.loc (lv' := [(7, .int (nI (o i))), (6, .int (nI i)), (4, .long (papL W H)), (0, .ref (a 0)), (1, .ref b), (2, .int ox), (3, .int (nI sk))]) [0, 1, 2, 3, 4, 5, 6] rfl ?_
          refine KW.ass (congrArg (fun zz => ([.int zz, .long (blk (o i))] : List Value)) (show (slp (o i)) = (nI (slOf ox sk kk (o i))) from by first | (unfold slOf; rw [if_pos c_41]) | (unfold slOf; rw [if_neg c_41]; exact (hsl _ ho).1))) ?_
          exact J55_4 ()
        ·
          refine kw_iload_n C 6 dX5_proofInto_44 rfl ?_
          refine kw_goto (tgt := 55) C dX5_proofInto_45 (by decide) ?_
          refine KW.loc (lv' := [(7, .int (nI (o i))), (6, .int (nI i)), (4, .long (papL W H)), (0, .ref (a 0)), (1, .ref b), (2, .int ox), (3, .int (nI sk))]) [0, 1, 2, 3, 4, 5, 6] rfl ?_
          refine KW.ass (congrArg (fun zz => ([.int zz, .long (blk (o i))] : List Value)) (show (nI sk) = (nI (slOf ox sk kk (o i))) from by first | (unfold slOf; rw [if_pos c_41]) | (unfold slOf; rw [if_neg c_41]; exact (hsl _ ho).1))) ?_
          exact J55_4 ()
  refine KW.loc (lv' := [(6, .int (nI 0)), (4, .long (papL W H)), (0, .ref (a 0)), (1, .ref b), (2, .int ox), (3, .int (nI sk))]) [0, 1, 2, 3, 4, 5] rfl ?_
  refine KW.asw (congrArg (fun zz => (kWork y a (nI W, nI H, nI N, nI D, p1, p2, p3, col, od, blk, slp) ++ kSheet b (zz, 0, 0) : va_W)) (show 0 = (pfP W H D blk o cl kk ox sk 0 0) from by rfl)) ?_
  refine KW.asw (congrArg (fun zz => (kWork y a (nI W, nI H, nI N, nI D, p1, p2, p3, col, od, blk, slp) ++ kSheet b (pfP W H D blk o cl kk ox sk 0 0, zz, 0) : va_W)) (show 0 = (pfP W H D blk o cl kk ox sk 1 0) from by rfl)) ?_
  refine KW.asw (congrArg (fun zz => (kWork y a (nI W, nI H, nI N, nI D, p1, p2, p3, col, od, blk, slp) ++ kSheet b (pfP W H D blk o cl kk ox sk 0 0, pfP W H D blk o cl kk ox sk 1 0, zz) : va_W)) (show 0 = (pfP W H D blk o cl kk ox sk 2 0) from by rfl)) ?_
  exact L13_3 (N - 0 + 1) 0 (by first | assumption | omega | (simp; done)) (Nat.lt_succ_self _)

set_option maxHeartbeats 4000000 in
set_option maxRecDepth 100000 in
theorem c_X5_palette (l : Launch) (G : va_G) (y : Nat → ClassId) (t : Nat) (a : Nat → Nat) (W : Nat) (H : Nat) (N : Nat) (D : Nat) (p1 : Int64) (p2 : Int64) (p3 : Int64) (col : Nat → Int32) (od : Nat → Int32) (blk : Nat → Int64) (slp : Nat → Int32) (hW : W ≤ 6) (hH : H ≤ 6) (sz : Nat) : Met l yX5_palette (Cond.code yX5_palette cX5_palette 5 (some .int) :: TG) ({ frames := 1, cells := 0, slots := 0, locals := 25 }) (va_Pc [.ref (a 0)] (PR G y t (kWork y a (nI W, nI H, nI N, nI D, p1, p2, p3, col, od, blk, slp)) sz)) (va_Qi (fun (r : Int32) (u : Unit) => r = (nI (palN p1 p2 p3 (papL W H) 8))) (fun (u : Unit) t => PO G (va_A (kWork y a (nI W, nI H, nI N, nI D, p1, p2, p3, col, od, blk, slp)) sz) (kWork y a (nI W, nI H, nI N, nI D, p1, p2, p3, col, od, blk, slp)) t) (va_A (kWork y a (nI W, nI H, nI N, nI D, p1, p2, p3, col, od, blk, slp)) sz)) 0 0 (va_A (kWork y a (nI W, nI H, nI N, nI D, p1, p2, p3, col, od, blk, slp)) sz) := by
  refine kMet (cc := cX5_palette) (maxL := 5) (ret := some .int) (Qc := fun A => va_Qi (fun (r : Int32) (u : Unit) => r = (nI (palN p1 p2 p3 (papL W H) 8))) (fun (u : Unit) t => PO G A (kWork y a (nI W, nI H, nI N, nI D, p1, p2, p3, col, od, blk, slp)) t) A) (by decide) rfl (Nat.le_of_ble_eq_true rfl) (fun p e s m below meth c A hsz C hin => ?_)
  refine KW.loc (lv' := [(0, .ref (a 0))]) [0] rfl ?_
  refine kw_aload_n C 0 dX5_palette_0 rfl ?_
  refine kV_l (As := []) (rest := []) (ws' := fun (u : Unit) => kWork y a (nI W, nI H, nI N, nI D, p1, p2, p3, col, od, blk, slp)) C (c_X5_paper l G y t a W H N D p1 p2 p3 col od blk slp (by first | assumption | omega | decide) (by first | assumption | omega | decide)) (cwV 0 C.2.2.2.2.1 (goodV cT wd_350 wd_347 wd_348 wd_349 wd_42) rfl rfl rfl (by decide +kernel) ⟨by decide, by decide⟩) [0, 1, 2, 3, 4, 5] [] [0, 1, 2, 3, 4, 5] rfl (by decide) rfl (by decide) (by decide) (fun _ => rfl) (by decide) 0 rfl rfl rfl (Nat.le_of_ble_eq_true rfl) ⟨by decide, by decide⟩ dX5_palette_1 (fun r u hr_1 => ?_)
  subst hr_1
  refine kw_lstore_n C [(1, .long (papL W H)), (0, .ref (a 0))] dX5_palette_4 rfl (by decide) rfl ?_
  refine kw_iconst (v := nI 0) C dX5_palette_5 (by decide) ?_
  refine kw_istore_n C [(3, .int (nI 0)), (1, .long (papL W H)), (0, .ref (a 0))] dX5_palette_6 rfl (by decide) rfl ?_
  refine kw_iconst (v := nI 0) C dX5_palette_7 (by decide) ?_
  refine kw_istore C [(4, .int (nI 0)), (3, .int (nI 0)), (1, .long (papL W H)), (0, .ref (a 0))] dX5_palette_8 (by decide) rfl ?_
  have L10_2 : ∀ (nn : Nat) (i : Nat) (hi : i ≤ 8) (hms : 8 - i < nn), KW p l e ({ frames := 1, cells := 0, slots := 0, locals := 25 }) s m ([.ref (a 0)] : List Value).toArray below meth c 0 0 (MQ below (va_Qi (fun (r : Int32) (u : Unit) => r = (nI (palN p1 p2 p3 (papL W H) 8))) (fun (u : Unit) t => PO G A (kWork y a (nI W, nI H, nI N, nI D, p1, p2, p3, col, od, blk, slp)) t) A) ([.ref (a 0)] : List Value).toArray s 0 0 A) G A 5 (kWork y a (nI W, nI H, nI N, nI D, p1, p2, p3, col, od, blk, slp)) [(4, .int (nI i)), (3, .int (nI (palN p1 p2 p3 (papL W H) i))), (1, .long (papL W H)), (0, .ref (a 0))] 10 [] := by
    intro nn
    induction nn with
    | zero => intro i hi hms; exact absurd hms (Nat.not_lt_zero _)
    | succ nn ih_10 =>
      intro i hi hms
      refine kw_iload C 0 dX5_palette_10 rfl ?_
      refine kw_bipush (v := nI 8) C dX5_palette_12 (by decide) ?_
      refine kw_icmp_ge_N (tgt := 46) C (by omega) (by omega) dX5_palette_14 (by decide) (fun c_14 => ?_) (fun c_14 => ?_)
      ·
        refine kw_iload_n C 1 dX5_palette_46 rfl ?_
        refine kR_i C () dX5_palette_47 ?_ rfl
        rw [show i = 8 from by omega]
      ·
        refine kw_aload_n C 3 dX5_palette_17 rfl ?_
        refine kw_get (v := .ref (a 1)) (T := TX5) C 0 4 rfl rfl (by decide) (fun w h => mT (fwX5 w h)) rfl (mT wd_97) rfl dX5_palette_18 ?_
        refine kw_iload C 0 dX5_palette_21 rfl ?_
        refine kV_l (As := [.int (nI i)]) (rest := []) (ws' := fun (u : Unit) => kWork y a (nI W, nI H, nI N, nI D, p1, p2, p3, col, od, blk, slp)) C (c_X2_cellsOf l G y t (a 1) p1 p2 p3 i (by first | assumption | omega | decide)) (cwV 1 C.2.2.2.2.1 (goodV cT wd_354 wd_351 wd_352 wd_353 wd_43) rfl rfl rfl (by decide +kernel) ⟨by decide, by decide⟩) [1] [0, 2, 3, 4, 5] [0, 5, 1, 2, 3, 4] rfl (by decide) rfl (by decide) (by decide) (fun _ => rfl) (by decide) 1 rfl rfl rfl (Nat.le_of_ble_eq_true rfl) ⟨by decide, by decide⟩ dX5_palette_23 (fun r u hr_3 => ?_)
        subst hr_3
        refine kw_lload_n C 2 dX5_palette_26 rfl ?_
        refine kw_land C dX5_palette_27 ?_
        refine kw_lconst (v := 0) C dX5_palette_28 (by decide) ?_
        refine kw_lcmp C dX5_palette_29 ?_
        refine kw_if_eq_L (tgt := 40) C dX5_palette_30 (by decide) (fun c_30 => ?_) (fun c_30 => ?_)
        ·
          refine kw_iinc (v := nI (i + 1)) C [(4, .int (nI (i + 1))), (3, .int (nI (palN p1 p2 p3 (papL W H) i))), (1, .long (papL W H)), (0, .ref (a 0))] 0 dX5_palette_40 rfl (nI_1 _) (by decide) rfl ?_
          refine kw_goto (tgt := 10) C dX5_palette_43 (by decide) ?_
          refine KW.loc (lv' := [(4, .int (nI (i + 1))), (3, .int (nI (palN p1 p2 p3 (papL W H) i))), (1, .long (papL W H)), (0, .ref (a 0))]) [0, 1, 2, 3] rfl ?_
          refine KW.asl (congrArg (fun zz => ([(4, .int (nI (i + 1))), (3, .int zz), (1, .long (papL W H)), (0, .ref (a 0))] : List (Nat × Value))) (show (nI (palN p1 p2 p3 (papL W H) i)) = (nI (palN p1 p2 p3 (papL W H) (i + 1))) from by simp [palN, c_30])) ?_
          exact ih_10 (i + 1) (by first | assumption | omega | (simp; done)) (by omega)
        ·
          refine kw_iload_n C 1 dX5_palette_33 rfl ?_
          refine kw_iconst (v := nI 1) C dX5_palette_34 (by decide) ?_
          refine kw_iload C 0 dX5_palette_35 rfl ?_
          refine kw_ishl C dX5_palette_37 (kw_top (n_shl1 (by omega)) ?_)
          refine kw_ior C dX5_palette_38 (kw_top (n_or _ _) ?_)
          refine kw_istore_n C [(3, .int (nI ((palN p1 p2 p3 (papL W H) i) ||| (2 ^ i)))), (4, .int (nI i)), (1, .long (papL W H)), (0, .ref (a 0))] dX5_palette_39 rfl (by decide) rfl ?_
          refine kw_iinc (v := nI (i + 1)) C [(4, .int (nI (i + 1))), (3, .int (nI ((palN p1 p2 p3 (papL W H) i) ||| (2 ^ i)))), (1, .long (papL W H)), (0, .ref (a 0))] 1 dX5_palette_40 rfl (nI_1 _) (by decide) rfl ?_
          refine kw_goto (tgt := 10) C dX5_palette_43 (by decide) ?_
          refine KW.loc (lv' := [(4, .int (nI (i + 1))), (3, .int (nI ((palN p1 p2 p3 (papL W H) i) ||| (2 ^ i)))), (1, .long (papL W H)), (0, .ref (a 0))]) [0, 1, 2, 3] rfl ?_
          refine KW.asl (congrArg (fun zz => ([(4, .int (nI (i + 1))), (3, .int zz), (1, .long (papL W H)), (0, .ref (a 0))] : List (Nat × Value))) (show (nI ((palN p1 p2 p3 (papL W H) i) ||| (2 ^ i))) = (nI (palN p1 p2 p3 (papL W H) (i + 1))) from by simp [palN, c_30])) ?_
          exact ih_10 (i + 1) (by first | assumption | omega | (simp; done)) (by omega)
  refine KW.loc (lv' := [(4, .int (nI 0)), (3, .int (nI 0)), (1, .long (papL W H)), (0, .ref (a 0))]) [0, 1, 2, 3] rfl ?_
  refine KW.asl (congrArg (fun zz => ([(4, .int (nI 0)), (3, .int zz), (1, .long (papL W H)), (0, .ref (a 0))] : List (Nat × Value))) (show (nI 0) = (nI (palN p1 p2 p3 (papL W H) 0)) from by rfl)) ?_
  exact L10_2 (8 - 0 + 1) 0 (by first | assumption | omega | (simp; done)) (Nat.lt_succ_self _)

set_option maxHeartbeats 4000000 in
set_option maxRecDepth 100000 in
theorem c_X5_coloursOver (l : Launch) (G : va_G) (y : Nat → ClassId) (t : Nat) (a : Nat → Nat) (W : Nat) (H : Nat) (N : Nat) (D : Nat) (p1 : Int64) (p2 : Int64) (p3 : Int64) (col : Nat → Int32) (od : Nat → Int32) (blk : Nat → Int64) (slp : Nat → Int32) (o : Nat → Nat) (cl : Nat → Nat) (kk : Nat → Nat) (sv : Nat) (i : Nat) (hN : N ≤ 6) (hD : D < 64) (hcol : ∀ i, i < N → col i = nI (cl i) ∧ cl i < 8) (hs : sv < 256) (hi : i < N) (sz : Nat) : Met l yX5_coloursOver (Cond.code yX5_coloursOver cX5_coloursOver 6 (some .int) :: TG) ({ frames := 1, cells := 0, slots := 0, locals := 21 }) (va_Pc [.ref (a 0), .int (nI sv), .int (nI i)] (PR G y t (kWork y a (nI W, nI H, nI N, nI D, p1, p2, p3, col, od, blk, slp)) sz)) (va_Qi (fun (r : Int32) (u : Unit) => r = (nI (overN D cl sv i))) (fun (u : Unit) t => PO G (va_A (kWork y a (nI W, nI H, nI N, nI D, p1, p2, p3, col, od, blk, slp)) sz) (kWork y a (nI W, nI H, nI N, nI D, p1, p2, p3, col, od, blk, slp)) t) (va_A (kWork y a (nI W, nI H, nI N, nI D, p1, p2, p3, col, od, blk, slp)) sz)) 0 0 (va_A (kWork y a (nI W, nI H, nI N, nI D, p1, p2, p3, col, od, blk, slp)) sz) := by
  refine kMet (cc := cX5_coloursOver) (maxL := 6) (ret := some .int) (Qc := fun A => va_Qi (fun (r : Int32) (u : Unit) => r = (nI (overN D cl sv i))) (fun (u : Unit) t => PO G A (kWork y a (nI W, nI H, nI N, nI D, p1, p2, p3, col, od, blk, slp)) t) A) (by decide) rfl (Nat.le_of_ble_eq_true rfl) (fun p e s m below meth c A hsz C hin => ?_)
  refine KW.loc (lv' := [(0, .ref (a 0)), (1, .int (nI sv)), (2, .int (nI i))]) [0, 1, 2] rfl ?_
  refine kw_aload_n C 0 dX5_coloursOver_0 rfl ?_
  refine kw_iload_n C 2 dX5_coloursOver_1 rfl ?_
  refine kV_i (As := [.int (nI i)]) (rest := []) (ws' := fun (u : Unit) => kWork y a (nI W, nI H, nI N, nI D, p1, p2, p3, col, od, blk, slp)) C (c_X5_isDense l G y t a W H N D p1 p2 p3 col od blk slp i (by first | assumption | omega | decide) (by first | assumption | omega | decide)) (cwV 1 C.2.2.2.2.1 (goodV cT wd_376 wd_373 wd_374 wd_375 wd_42) rfl rfl rfl (by decide +kernel) ⟨by decide, by decide⟩) [0, 1, 2, 3, 4, 5] [] [0, 1, 2, 3, 4, 5] rfl (by decide) rfl (by decide) (by decide) (fun _ => rfl) (by decide) 0 rfl rfl rfl (Nat.le_of_ble_eq_true rfl) ⟨by decide, by decide⟩ dX5_coloursOver_2 (fun r u hr_1 => ?_)
  subst hr_1
  refine kw_if_eq (tgt := 17) C dX5_coloursOver_5 (by decide) (fun c_5 => ?_) (fun c_5 => ?_)
  ·
    refine kw_iload_n C 1 dX5_coloursOver_17 rfl ?_
    refine kw_istore_n C [(3, .int (nI sv)), (0, .ref (a 0)), (1, .int (nI sv)), (2, .int (nI i))] dX5_coloursOver_18 rfl (by decide) rfl ?_
    refine kw_iconst (v := nI 0) C dX5_coloursOver_19 (by decide) ?_
    refine kw_istore C [(4, .int (nI 0)), (3, .int (nI sv)), (0, .ref (a 0)), (1, .int (nI sv)), (2, .int (nI i))] dX5_coloursOver_20 (by decide) rfl ?_
    have L22_2 : ∀ (nn : Nat) (pr : Nat) (hpr : pr ≤ 3) (hms : 3 - pr < nn), KW p l e ({ frames := 1, cells := 0, slots := 0, locals := 21 }) s m ([.ref (a 0), .int (nI sv), .int (nI i)] : List Value).toArray below meth c 0 0 (MQ below (va_Qi (fun (r : Int32) (u : Unit) => r = (nI (overN D cl sv i))) (fun (u : Unit) t => PO G A (kWork y a (nI W, nI H, nI N, nI D, p1, p2, p3, col, od, blk, slp)) t) A) ([.ref (a 0), .int (nI sv), .int (nI i)] : List Value).toArray s 0 0 A) G A 6 (kWork y a (nI W, nI H, nI N, nI D, p1, p2, p3, col, od, blk, slp)) [(4, .int (nI pr)), (3, .int (nI (ovF sv (cl i) pr))), (0, .ref (a 0)), (1, .int (nI sv)), (2, .int (nI i))] 22 [] := by
      intro nn
      induction nn with
      | zero => intro pr hpr hms; exact absurd hms (Nat.not_lt_zero _)
      | succ nn ih_22 =>
        intro pr hpr hms
        refine kw_iload C 0 dX5_coloursOver_22 rfl ?_
        refine kw_gets C (mT wd_377) dX5_coloursOver_24 ?_
        refine kw_tlen C dX5_coloursOver_27 ?_
        refine kw_icmp_ge_N (tgt := 76) C (by omega) (by omega) dX5_coloursOver_28 (by decide) (fun c_28 => ?_) (fun c_28 => ?_)
        ·
          refine kw_iload_n C 1 dX5_coloursOver_76 rfl ?_
          refine kR_i C () dX5_coloursOver_77 ?_ rfl
          unfold overN; rw [if_neg (by cases h : D.testBit i; decide; exact absurd c_5 (by rw [h]; decide)), show pr = 3 from by omega]
        ·
          refine kw_aload_n C 2 dX5_coloursOver_31 rfl ?_
          refine kw_get (v := .ref (a 2)) (T := TX5) C 0 5 rfl rfl (by decide) (fun w h => mT (fwX5 w h)) rfl (mT wd_100) rfl dX5_coloursOver_32 ?_
          refine kw_iload_n C 4 dX5_coloursOver_35 rfl ?_
          refine kw_iald (f := col) C 2 rfl (by omega) (by decide) dX5_coloursOver_36 ?_
          refine kw_top (show (col i) = (nI (cl i)) from by exact (hcol i hi).1) ?_
          have hc := (hcol i hi).2
          refine kw_iload C 0 dX5_coloursOver_37 rfl ?_
          refine kw_ishr C dX5_coloursOver_39 (kw_top (n_shr (by omega) (by omega)) ?_)
          refine kw_iconst (v := nI 1) C dX5_coloursOver_40 (by decide) ?_
          refine kw_iand C dX5_coloursOver_41 (kw_top (n_and _ _) ?_)
          refine kw_if_eq_N (tgt := 70) C (by exact Nat.lt_of_le_of_lt Nat.and_le_right (by omega)) dX5_coloursOver_42 (by decide) (fun c_42 => ?_) (fun c_42 => ?_)
          ·
            refine kw_iinc (v := nI (pr + 1)) C [(4, .int (nI (pr + 1))), (3, .int (nI (ovF sv (cl i) pr))), (0, .ref (a 0)), (1, .int (nI sv)), (2, .int (nI i))] 0 dX5_coloursOver_70 rfl (nI_1 _) (by decide) rfl ?_
            refine kw_goto (tgt := 22) C dX5_coloursOver_73 (by decide) ?_
            refine KW.loc (lv' := [(4, .int (nI (pr + 1))), (3, .int (nI (ovF sv (cl i) pr))), (0, .ref (a 0)), (1, .int (nI sv)), (2, .int (nI i))]) [0, 1, 2, 3, 4] rfl ?_
            refine KW.asl (congrArg (fun zz => ([(4, .int (nI (pr + 1))), (3, .int zz), (0, .ref (a 0)), (1, .int (nI sv)), (2, .int (nI i))] : List (Nat × Value))) (show (nI (ovF sv (cl i) pr)) = (nI (ovF sv (cl i) (pr + 1))) from by first | simp [ovF, tbd_f c_42] | simp [ovF, tbd_t c_42])) ?_
            exact ih_22 (pr + 1) (by first | assumption | omega | (simp; done)) (by omega)
          ·
            refine kw_gets C (mT wd_377) dX5_coloursOver_45 ?_
            refine kw_iload C 0 dX5_coloursOver_48 rfl ?_
            refine kw_ti C (by omega) dX5_coloursOver_50 ?_
            refine kw_istore C [(5, .int (hvF pr)), (4, .int (nI pr)), (3, .int (nI (ovF sv (cl i) pr))), (0, .ref (a 0)), (1, .int (nI sv)), (2, .int (nI i))] dX5_coloursOver_51 (by decide) rfl ?_
            refine kw_iload_n C 2 dX5_coloursOver_53 rfl ?_
            refine kw_iload C 0 dX5_coloursOver_54 rfl ?_
            refine kw_iand C dX5_coloursOver_56 ?_
            refine kw_iload_n C 2 dX5_coloursOver_57 rfl ?_
            refine kw_iload C 0 dX5_coloursOver_58 rfl ?_
            refine kw_iconst (v := (-1)) C dX5_coloursOver_60 (by decide) ?_
            refine kw_ixor C dX5_coloursOver_61 ?_
            refine kw_iand C dX5_coloursOver_62 ?_
            refine kw_iconst (v := nI 1) C dX5_coloursOver_63 (by decide) ?_
            refine kw_iload C 1 dX5_coloursOver_64 rfl ?_
            refine kw_ishl C dX5_coloursOver_66 (kw_top (n_shl1 (by omega)) ?_)
            refine kw_ishl C dX5_coloursOver_67 ?_
            refine kw_ior C dX5_coloursOver_68 ?_
            refine kw_top (show (((nI (ovF sv (cl i) pr)) &&& (hvF pr)) ||| (((nI (ovF sv (cl i) pr)) &&& ((hvF pr) ^^^ (-1))) <<< ((nI (2 ^ pr)) &&& 31))) = (nI (ov1 (ovF sv (cl i) pr) pr)) from by exact ov1_eq pr (by omega) _ (ovF_lt (cl i) hs pr hpr)) ?_
            refine kw_istore_n C [(3, .int (nI (ov1 (ovF sv (cl i) pr) pr))), (5, .int (hvF pr)), (4, .int (nI pr)), (0, .ref (a 0)), (1, .int (nI sv)), (2, .int (nI i))] dX5_coloursOver_69 rfl (by decide) rfl ?_
            refine kw_iinc (v := nI (pr + 1)) C [(4, .int (nI (pr + 1))), (3, .int (nI (ov1 (ovF sv (cl i) pr) pr))), (5, .int (hvF pr)), (0, .ref (a 0)), (1, .int (nI sv)), (2, .int (nI i))] 2 dX5_coloursOver_70 rfl (nI_1 _) (by decide) rfl ?_
            refine kw_goto (tgt := 22) C dX5_coloursOver_73 (by decide) ?_
            refine KW.loc (lv' := [(4, .int (nI (pr + 1))), (3, .int (nI (ov1 (ovF sv (cl i) pr) pr))), (0, .ref (a 0)), (1, .int (nI sv)), (2, .int (nI i))]) [0, 1, 3, 4, 5] rfl ?_
            refine KW.asl (congrArg (fun zz => ([(4, .int (nI (pr + 1))), (3, .int zz), (0, .ref (a 0)), (1, .int (nI sv)), (2, .int (nI i))] : List (Nat × Value))) (show (nI (ov1 (ovF sv (cl i) pr) pr)) = (nI (ovF sv (cl i) (pr + 1))) from by first | simp [ovF, tbd_f c_42] | simp [ovF, tbd_t c_42])) ?_
            exact ih_22 (pr + 1) (by first | assumption | omega | (simp; done)) (by omega)
    refine KW.loc (lv' := [(4, .int (nI 0)), (3, .int (nI sv)), (0, .ref (a 0)), (1, .int (nI sv)), (2, .int (nI i))]) [0, 1, 2, 3, 4] rfl ?_
    refine KW.asl (congrArg (fun zz => ([(4, .int (nI 0)), (3, .int zz), (0, .ref (a 0)), (1, .int (nI sv)), (2, .int (nI i))] : List (Nat × Value))) (show (nI sv) = (nI (ovF sv (cl i) 0)) from by rfl)) ?_
    exact L22_2 (3 - 0 + 1) 0 (by first | assumption | omega | (simp; done)) (Nat.lt_succ_self _)
  ·
    refine kw_iconst (v := nI 1) C dX5_coloursOver_8 (by decide) ?_
    refine kw_aload_n C 0 dX5_coloursOver_9 rfl ?_
    refine kw_get (v := .ref (a 2)) (T := TX5) C 0 5 rfl rfl (by decide) (fun w h => mT (fwX5 w h)) rfl (mT wd_100) rfl dX5_coloursOver_10 ?_
    refine kw_iload_n C 2 dX5_coloursOver_13 rfl ?_
    refine kw_iald (f := col) C 2 rfl (by omega) (by decide) dX5_coloursOver_14 ?_
    refine kw_top (show (col i) = (nI (cl i)) from by exact (hcol i hi).1) ?_
    have hc := (hcol i hi).2
    refine kw_ishl C dX5_coloursOver_15 (kw_top (n_shl1 (by omega)) ?_)
    refine kR_i C () dX5_coloursOver_16 ?_ rfl
    unfold overN; rw [if_pos (by cases h : D.testBit i; exact absurd (by rw [h]; rfl) c_5; rfl)]

set_option maxHeartbeats 4000000 in
set_option maxRecDepth 100000 in
theorem c_X5_coloursBy (l : Launch) (G : va_G) (y : Nat → ClassId) (t : Nat) (a : Nat → Nat) (W : Nat) (H : Nat) (N : Nat) (D : Nat) (p1 : Int64) (p2 : Int64) (p3 : Int64) (col : Nat → Int32) (od : Nat → Int32) (blk : Nat → Int64) (slp : Nat → Int32) (o : Nat → Nat) (cl : Nat → Nat) (kk : Nat → Nat) (set : Nat) (hN : N ≤ 6) (hD : D < 64) (hod : ∀ q, q < N → od q = nI (o q) ∧ o q < N) (hcol : ∀ i, i < N → col i = nI (cl i) ∧ cl i < 8) (hset : set < 64) (sz : Nat) : Met l yX5_coloursBy (Cond.code yX5_coloursBy cX5_coloursBy 5 (some .int) :: TG) ({ frames := 2, cells := 0, slots := 0, locals := 46 }) (va_Pc [.ref (a 0), .int (nI set)] (PR G y t (kWork y a (nI W, nI H, nI N, nI D, p1, p2, p3, col, od, blk, slp)) sz)) (va_Qi (fun (r : Int32) (u : Unit) => r = (nI (cbyF D o cl set N))) (fun (u : Unit) t => PO G (va_A (kWork y a (nI W, nI H, nI N, nI D, p1, p2, p3, col, od, blk, slp)) sz) (kWork y a (nI W, nI H, nI N, nI D, p1, p2, p3, col, od, blk, slp)) t) (va_A (kWork y a (nI W, nI H, nI N, nI D, p1, p2, p3, col, od, blk, slp)) sz)) 0 0 (va_A (kWork y a (nI W, nI H, nI N, nI D, p1, p2, p3, col, od, blk, slp)) sz) := by
  refine kMet (cc := cX5_coloursBy) (maxL := 5) (ret := some .int) (Qc := fun A => va_Qi (fun (r : Int32) (u : Unit) => r = (nI (cbyF D o cl set N))) (fun (u : Unit) t => PO G A (kWork y a (nI W, nI H, nI N, nI D, p1, p2, p3, col, od, blk, slp)) t) A) (by decide) rfl (Nat.le_of_ble_eq_true rfl) (fun p e s m below meth c A hsz C hin => ?_)
  refine KW.loc (lv' := [(0, .ref (a 0)), (1, .int (nI set))]) [0, 1] rfl ?_
  refine kw_iconst (v := nI 1) C dX5_coloursBy_0 (by decide) ?_
  refine kw_istore_n C [(2, .int (nI 1)), (0, .ref (a 0)), (1, .int (nI set))] dX5_coloursBy_1 rfl (by decide) rfl ?_
  refine kw_iconst (v := nI 0) C dX5_coloursBy_2 (by decide) ?_
  refine kw_istore_n C [(3, .int (nI 0)), (2, .int (nI 1)), (0, .ref (a 0)), (1, .int (nI set))] dX5_coloursBy_3 rfl (by decide) rfl ?_
  have L4_1 : ∀ (nn : Nat) (i : Nat) (hi : i ≤ N) (hms : N - i < nn), KW p l e ({ frames := 2, cells := 0, slots := 0, locals := 46 }) s m ([.ref (a 0), .int (nI set)] : List Value).toArray below meth c 0 0 (MQ below (va_Qi (fun (r : Int32) (u : Unit) => r = (nI (cbyF D o cl set N))) (fun (u : Unit) t => PO G A (kWork y a (nI W, nI H, nI N, nI D, p1, p2, p3, col, od, blk, slp)) t) A) ([.ref (a 0), .int (nI set)] : List Value).toArray s 0 0 A) G A 5 (kWork y a (nI W, nI H, nI N, nI D, p1, p2, p3, col, od, blk, slp)) [(3, .int (nI i)), (2, .int (nI (cbyF D o cl set i))), (0, .ref (a 0)), (1, .int (nI set))] 4 [] := by
    intro nn
    induction nn with
    | zero => intro i hi hms; exact absurd hms (Nat.not_lt_zero _)
    | succ nn ih_4 =>
      intro i hi hms
      refine kw_iload_n C 0 dX5_coloursBy_4 rfl ?_
      refine kw_aload_n C 2 dX5_coloursBy_5 rfl ?_
      refine kw_get (v := .int (nI N)) (T := TX5) C 0 2 rfl rfl (by decide) (fun w h => mT (fwX5 w h)) rfl (mT wd_91) rfl dX5_coloursBy_6 ?_
      refine kw_icmp_ge_N (tgt := 45) C (by omega) (by omega) dX5_coloursBy_9 (by decide) (fun c_9 => ?_) (fun c_9 => ?_)
      ·
        refine kw_iload_n C 1 dX5_coloursBy_45 rfl ?_
        refine kR_i C () dX5_coloursBy_46 ?_ rfl
        rw [show i = N from by omega]
      ·
        refine kw_aload_n C 2 dX5_coloursBy_12 rfl ?_
        refine kw_get (v := .ref (a 3)) (T := TX5) C 0 6 rfl rfl (by decide) (fun w h => mT (fwX5 w h)) rfl (mT wd_102) rfl dX5_coloursBy_13 ?_
        refine kw_iload_n C 0 dX5_coloursBy_16 rfl ?_
        refine kw_iald (f := od) C 3 rfl (by omega) (by decide) dX5_coloursBy_17 ?_
        refine kw_top (show (od i) = (nI (o i)) from by exact (hod i (by omega)).1) ?_
        have ho := (hod i (by omega)).2
        refine kw_istore C [(4, .int (nI (o i))), (3, .int (nI i)), (2, .int (nI (cbyF D o cl set i))), (0, .ref (a 0)), (1, .int (nI set))] dX5_coloursBy_18 (by decide) rfl ?_
        refine kw_iload_n C 4 dX5_coloursBy_20 rfl ?_
        refine kw_iload C 0 dX5_coloursBy_21 rfl ?_
        refine kw_ishr C dX5_coloursBy_23 (kw_top (n_shr (by omega) (by omega)) ?_)
        refine kw_iconst (v := nI 1) C dX5_coloursBy_24 (by decide) ?_
        refine kw_iand C dX5_coloursBy_25 (kw_top (n_and _ _) ?_)
        refine kw_if_eq_N (tgt := 39) C (by exact Nat.lt_of_le_of_lt Nat.and_le_right (by omega)) dX5_coloursBy_26 (by decide) (fun c_26 => ?_) (fun c_26 => ?_)
        ·
          refine kw_iinc (v := nI (i + 1)) C [(3, .int (nI (i + 1))), (4, .int (nI (o i))), (2, .int (nI (cbyF D o cl set i))), (0, .ref (a 0)), (1, .int (nI set))] 1 dX5_coloursBy_39 rfl (nI_1 _) (by decide) rfl ?_
          refine kw_goto (tgt := 4) C dX5_coloursBy_42 (by decide) ?_
          refine KW.loc (lv' := [(3, .int (nI (i + 1))), (2, .int (nI (cbyF D o cl set i))), (0, .ref (a 0)), (1, .int (nI set))]) [0, 2, 3, 4] rfl ?_
          refine KW.asl (congrArg (fun zz => ([(3, .int (nI (i + 1))), (2, .int zz), (0, .ref (a 0)), (1, .int (nI set))] : List (Nat × Value))) (show (nI (cbyF D o cl set i)) = (nI (cbyF D o cl set (i + 1))) from by first | simp [cbyF, tbd_f c_26] | simp [cbyF, tbd_t c_26])) ?_
          exact ih_4 (i + 1) (by first | assumption | omega | (simp; done)) (by omega)
        ·
          refine kw_iload_n C 2 dX5_coloursBy_29 rfl ?_
          refine kw_aload_n C 3 dX5_coloursBy_30 rfl ?_
          refine kw_iload_n C 2 dX5_coloursBy_31 rfl ?_
          refine kw_iload C 0 dX5_coloursBy_32 rfl ?_
          refine kV_i (As := [.int (nI (cbyF D o cl set i)), .int (nI (o i))]) (rest := [.int (nI (cbyF D o cl set i))]) (ws' := fun (u : Unit) => kWork y a (nI W, nI H, nI N, nI D, p1, p2, p3, col, od, blk, slp)) C (c_X5_coloursOver l G y t a W H N D p1 p2 p3 col od blk slp o cl kk (cbyF D o cl set i) (o i) (by first | assumption | omega | decide) (by first | assumption | omega | decide) (by first | assumption | omega | decide) (by exact cbyF_lt set (fun q h => (hod q h).2) (fun q h => (hcol q h).2) i hi) (by first | assumption | omega | decide)) (cwV 2 C.2.2.2.2.1 (goodV cT wd_372 wd_369 wd_370 wd_371 wd_42) rfl rfl rfl (by decide +kernel) ⟨by decide, by decide⟩) [0, 1, 2, 3, 4, 5] [] [0, 1, 2, 3, 4, 5] rfl (by decide) rfl (by decide) (by decide) (fun _ => rfl) (by decide) 0 rfl rfl rfl (Nat.le_of_ble_eq_true rfl) ⟨by decide, by decide⟩ dX5_coloursBy_34 (fun r u hr_2 => ?_)
          subst hr_2
          refine kw_ior C dX5_coloursBy_37 (kw_top (n_or _ _) ?_)
          refine kw_istore_n C [(2, .int (nI ((cbyF D o cl set i) ||| (overN D cl (cbyF D o cl set i) (o i))))), (4, .int (nI (o i))), (3, .int (nI i)), (0, .ref (a 0)), (1, .int (nI set))] dX5_coloursBy_38 rfl (by decide) rfl ?_
          refine kw_iinc (v := nI (i + 1)) C [(3, .int (nI (i + 1))), (2, .int (nI ((cbyF D o cl set i) ||| (overN D cl (cbyF D o cl set i) (o i))))), (4, .int (nI (o i))), (0, .ref (a 0)), (1, .int (nI set))] 2 dX5_coloursBy_39 rfl (nI_1 _) (by decide) rfl ?_
          refine kw_goto (tgt := 4) C dX5_coloursBy_42 (by decide) ?_
          refine KW.loc (lv' := [(3, .int (nI (i + 1))), (2, .int (nI ((cbyF D o cl set i) ||| (overN D cl (cbyF D o cl set i) (o i))))), (0, .ref (a 0)), (1, .int (nI set))]) [0, 1, 3, 4] rfl ?_
          refine KW.asl (congrArg (fun zz => ([(3, .int (nI (i + 1))), (2, .int zz), (0, .ref (a 0)), (1, .int (nI set))] : List (Nat × Value))) (show (nI ((cbyF D o cl set i) ||| (overN D cl (cbyF D o cl set i) (o i)))) = (nI (cbyF D o cl set (i + 1))) from by first | simp [cbyF, tbd_f c_26] | simp [cbyF, tbd_t c_26])) ?_
          exact ih_4 (i + 1) (by first | assumption | omega | (simp; done)) (by omega)
  refine KW.loc (lv' := [(3, .int (nI 0)), (2, .int (nI 1)), (0, .ref (a 0)), (1, .int (nI set))]) [0, 1, 2, 3] rfl ?_
  refine KW.asl (congrArg (fun zz => ([(3, .int (nI 0)), (2, .int zz), (0, .ref (a 0)), (1, .int (nI set))] : List (Nat × Value))) (show (nI 1) = (nI (cbyF D o cl set 0)) from by rfl)) ?_
  exact L4_1 (N - 0 + 1) 0 (by first | assumption | omega | (simp; done)) (Nat.lt_succ_self _)

set_option maxHeartbeats 4000000 in
set_option maxRecDepth 100000 in
theorem c_X5_leastSet (l : Launch) (G : va_G) (y : Nat → ClassId) (t : Nat) (a : Nat → Nat) (W : Nat) (H : Nat) (N : Nat) (D : Nat) (p1 : Int64) (p2 : Int64) (p3 : Int64) (col : Nat → Int32) (od : Nat → Int32) (blk : Nat → Int64) (slp : Nat → Int32) (o : Nat → Nat) (cl : Nat → Nat) (kk : Nat → Nat) (hW : W ≤ 6) (hH : H ≤ 6) (hN : N ≤ 6) (hD : D < 64) (hod : ∀ q, q < N → od q = nI (o q) ∧ o q < N) (hcol : ∀ i, i < N → col i = nI (cl i) ∧ cl i < 8) (sz : Nat) : Met l yX5_leastSet (Cond.code yX5_leastSet cX5_leastSet 5 (some .int) :: TG) ({ frames := 3, cells := 0, slots := 0, locals := 70 }) (va_Pc [.ref (a 0)] (PR G y t (kWork y a (nI W, nI H, nI N, nI D, p1, p2, p3, col, od, blk, slp)) sz)) (va_Qi (fun (r : Int32) (u : Unit) => r = (lsF (palN p1 p2 p3 (papL W H) 8) (fun set => cbyF D o cl set N) (2 ^ N))) (fun (u : Unit) t => PO G (va_A (kWork y a (nI W, nI H, nI N, nI D, p1, p2, p3, col, od, blk, slp)) sz) (kWork y a (nI W, nI H, nI N, nI D, p1, p2, p3, col, od, blk, slp)) t) (va_A (kWork y a (nI W, nI H, nI N, nI D, p1, p2, p3, col, od, blk, slp)) sz)) 0 0 (va_A (kWork y a (nI W, nI H, nI N, nI D, p1, p2, p3, col, od, blk, slp)) sz) := by
  refine kMet (cc := cX5_leastSet) (maxL := 5) (ret := some .int) (Qc := fun A => va_Qi (fun (r : Int32) (u : Unit) => r = (lsF (palN p1 p2 p3 (papL W H) 8) (fun set => cbyF D o cl set N) (2 ^ N))) (fun (u : Unit) t => PO G A (kWork y a (nI W, nI H, nI N, nI D, p1, p2, p3, col, od, blk, slp)) t) A) (by decide) rfl (Nat.le_of_ble_eq_true rfl) (fun p e s m below meth c A hsz C hin => ?_)
  have h64 := pow6 hN
  refine KW.loc (lv' := [(0, .ref (a 0))]) [0] rfl ?_
  refine kw_aload_n C 0 dX5_leastSet_0 rfl ?_
  refine kV_i (As := []) (rest := []) (ws' := fun (u : Unit) => kWork y a (nI W, nI H, nI N, nI D, p1, p2, p3, col, od, blk, slp)) C (c_X5_palette l G y t a W H N D p1 p2 p3 col od blk slp (by first | assumption | omega | decide) (by first | assumption | omega | decide)) (cwV 0 C.2.2.2.2.1 (goodV cT wd_346 wd_343 wd_344 wd_345 wd_42) rfl rfl rfl (by decide +kernel) ⟨by decide, by decide⟩) [0, 1, 2, 3, 4, 5] [] [0, 1, 2, 3, 4, 5] rfl (by decide) rfl (by decide) (by decide) (fun _ => rfl) (by decide) 0 rfl rfl rfl (Nat.le_of_ble_eq_true rfl) ⟨by decide, by decide⟩ dX5_leastSet_1 (fun r u hr_1 => ?_)
  subst hr_1
  refine kw_istore_n C [(1, .int (nI (palN p1 p2 p3 (papL W H) 8))), (0, .ref (a 0))] dX5_leastSet_4 rfl (by decide) rfl ?_
  refine kw_bipush (v := (-9)) C dX5_leastSet_5 (by decide) ?_
  refine kw_istore_n C [(2, .int (-9)), (1, .int (nI (palN p1 p2 p3 (papL W H) 8))), (0, .ref (a 0))] dX5_leastSet_7 rfl (by decide) rfl ?_
  refine kw_iconst (v := nI 0) C dX5_leastSet_8 (by decide) ?_
  refine kw_istore_n C [(3, .int (nI 0)), (2, .int (-9)), (1, .int (nI (palN p1 p2 p3 (papL W H) 8))), (0, .ref (a 0))] dX5_leastSet_9 rfl (by decide) rfl ?_
  have L10_2 : ∀ (nn : Nat) (i : Nat) (hi : i ≤ 2 ^ N) (hms : 2 ^ N - i < nn), KW p l e ({ frames := 3, cells := 0, slots := 0, locals := 70 }) s m ([.ref (a 0)] : List Value).toArray below meth c 0 0 (MQ below (va_Qi (fun (r : Int32) (u : Unit) => r = (lsF (palN p1 p2 p3 (papL W H) 8) (fun set => cbyF D o cl set N) (2 ^ N))) (fun (u : Unit) t => PO G A (kWork y a (nI W, nI H, nI N, nI D, p1, p2, p3, col, od, blk, slp)) t) A) ([.ref (a 0)] : List Value).toArray s 0 0 A) G A 5 (kWork y a (nI W, nI H, nI N, nI D, p1, p2, p3, col, od, blk, slp)) [(3, .int (nI i)), (2, .int (lsF (palN p1 p2 p3 (papL W H) 8) (fun set => cbyF D o cl set N) i)), (1, .int (nI (palN p1 p2 p3 (papL W H) 8))), (0, .ref (a 0))] 10 [] := by
    intro nn
    induction nn with
    | zero => intro i hi hms; exact absurd hms (Nat.not_lt_zero _)
    | succ nn ih_10 =>
      intro i hi hms
      refine kw_iload_n C 0 dX5_leastSet_10 rfl ?_
      refine kw_aload_n C 3 dX5_leastSet_11 rfl ?_
      refine kV_i (As := []) (rest := [.int (nI i)]) (ws' := fun (u : Unit) => kWork y a (nI W, nI H, nI N, nI D, p1, p2, p3, col, od, blk, slp)) C (c_X5_sets l G y t a W H N D p1 p2 p3 col od blk slp (by first | assumption | omega | decide)) (cwV 0 C.2.2.2.2.1 (goodV cT wd_358 wd_355 wd_356 wd_357 wd_42) rfl rfl rfl (by decide +kernel) ⟨by decide, by decide⟩) [0, 1, 2, 3, 4, 5] [] [0, 1, 2, 3, 4, 5] rfl (by decide) rfl (by decide) (by decide) (fun _ => rfl) (by decide) 0 rfl rfl rfl (Nat.le_of_ble_eq_true rfl) ⟨by decide, by decide⟩ dX5_leastSet_12 (fun r u hr_3 => ?_)
      subst hr_3
      refine kw_icmp_ge_N (tgt := 67) C (by omega) (by omega) dX5_leastSet_15 (by decide) (fun c_15 => ?_) (fun c_15 => ?_)
      ·
        refine kw_iload_n C 1 dX5_leastSet_67 rfl ?_
        refine kR_i C () dX5_leastSet_68 ?_ rfl
        rw [show i = 2 ^ N from by omega]
      ·
        refine kw_iload_n C 1 dX5_leastSet_18 rfl ?_
        refine kw_bipush (v := (-9)) C dX5_leastSet_19 (by decide) ?_
        have J40_4 : ∀ (_ : Unit), KW p l e ({ frames := 3, cells := 0, slots := 0, locals := 70 }) s m ([.ref (a 0)] : List Value).toArray below meth c 0 0 (MQ below (va_Qi (fun (r : Int32) (u : Unit) => r = (lsF (palN p1 p2 p3 (papL W H) 8) (fun set => cbyF D o cl set N) (2 ^ N))) (fun (u : Unit) t => PO G A (kWork y a (nI W, nI H, nI N, nI D, p1, p2, p3, col, od, blk, slp)) t) A) ([.ref (a 0)] : List Value).toArray s 0 0 A) G A 5 (kWork y a (nI W, nI H, nI N, nI D, p1, p2, p3, col, od, blk, slp)) [(3, .int (nI i)), (2, .int (lsF (palN p1 p2 p3 (papL W H) 8) (fun set => cbyF D o cl set N) i)), (1, .int (nI (palN p1 p2 p3 (papL W H) 8))), (0, .ref (a 0))] 40 [.int (bI (decide (lsF (palN p1 p2 p3 (papL W H) 8) (fun set => cbyF D o cl set N) i = -9 ∨ pcI (nI i) < pcI (lsF (palN p1 p2 p3 (papL W H) 8) (fun set => cbyF D o cl set N) i))))] := by
          intro _
          refine kw_istore C [(4, .int (bI (decide (lsF (palN p1 p2 p3 (papL W H) 8) (fun set => cbyF D o cl set N) i = -9 ∨ pcI (nI i) < pcI (lsF (palN p1 p2 p3 (papL W H) 8) (fun set => cbyF D o cl set N) i))))), (3, .int (nI i)), (2, .int (lsF (palN p1 p2 p3 (papL W H) 8) (fun set => cbyF D o cl set N) i)), (1, .int (nI (palN p1 p2 p3 (papL W H) 8))), (0, .ref (a 0))] dX5_leastSet_40 (by decide) rfl ?_
          refine kw_iload C 0 dX5_leastSet_42 rfl ?_
          refine kw_if_eq_D (tgt := 61) C dX5_leastSet_44 (by decide) (fun c_44 => ?_) (fun c_44 => ?_)
          ·
            refine kw_iinc (v := nI (i + 1)) C [(3, .int (nI (i + 1))), (4, .int (bI (decide (lsF (palN p1 p2 p3 (papL W H) 8) (fun set => cbyF D o cl set N) i = -9 ∨ pcI (nI i) < pcI (lsF (palN p1 p2 p3 (papL W H) 8) (fun set => cbyF D o cl set N) i))))), (2, .int (lsF (palN p1 p2 p3 (papL W H) 8) (fun set => cbyF D o cl set N) i)), (1, .int (nI (palN p1 p2 p3 (papL W H) 8))), (0, .ref (a 0))] 1 dX5_leastSet_61 rfl (nI_1 _) (by decide) rfl ?_
            refine kw_goto (tgt := 10) C dX5_leastSet_64 (by decide) ?_
            refine KW.loc (lv' := [(3, .int (nI (i + 1))), (2, .int (lsF (palN p1 p2 p3 (papL W H) 8) (fun set => cbyF D o cl set N) i)), (1, .int (nI (palN p1 p2 p3 (papL W H) 8))), (0, .ref (a 0))]) [0, 2, 3, 4] rfl ?_
            refine KW.asl (congrArg (fun zz => ([(3, .int (nI (i + 1))), (2, .int zz), (1, .int (nI (palN p1 p2 p3 (papL W H) 8))), (0, .ref (a 0))] : List (Nat × Value))) (show (lsF (palN p1 p2 p3 (papL W H) 8) (fun set => cbyF D o cl set N) i) = (lsF (palN p1 p2 p3 (papL W H) 8) (fun set => cbyF D o cl set N) (i + 1)) from by simp only [lsF]; split <;> rename_i hh <;> first | rfl | exact absurd hh.1 c_44 | exact absurd hh.2 c_56 | exact absurd (And.intro c_44 c_56) hh)) ?_
            exact ih_10 (i + 1) (by first | assumption | omega | (simp; done)) (by omega)
          ·
            refine kw_iload_n C 3 dX5_leastSet_47 rfl ?_
            refine kw_aload_n C 4 dX5_leastSet_48 rfl ?_
            refine kw_iload_n C 1 dX5_leastSet_49 rfl ?_
            refine kV_i (As := [.int (nI i)]) (rest := [.int (nI (palN p1 p2 p3 (papL W H) 8))]) (ws' := fun (u : Unit) => kWork y a (nI W, nI H, nI N, nI D, p1, p2, p3, col, od, blk, slp)) C (c_X5_coloursBy l G y t a W H N D p1 p2 p3 col od blk slp o cl kk i (by first | assumption | omega | decide) (by first | assumption | omega | decide) (by first | assumption | omega | decide) (by first | assumption | omega | decide) (by first | assumption | omega | decide)) (cwV 1 C.2.2.2.2.1 (goodV cT wd_368 wd_365 wd_366 wd_367 wd_42) rfl rfl rfl (by decide +kernel) ⟨by decide, by decide⟩) [0, 1, 2, 3, 4, 5] [] [0, 1, 2, 3, 4, 5] rfl (by decide) rfl (by decide) (by decide) (fun _ => rfl) (by decide) 0 rfl rfl rfl (Nat.le_of_ble_eq_true rfl) ⟨by decide, by decide⟩ dX5_leastSet_50 (fun r u hr_5 => ?_)
            subst hr_5
            refine kw_iconst (v := (-1)) C dX5_leastSet_53 (by decide) ?_
            refine kw_ixor C dX5_leastSet_54 ?_
            refine kw_iand C dX5_leastSet_55 ?_
            refine kw_if_ne (tgt := 61) C dX5_leastSet_56 (by decide) (fun c_56 => ?_) (fun c_56 => ?_)
            ·
              refine kw_iinc (v := nI (i + 1)) C [(3, .int (nI (i + 1))), (4, .int (bI (decide (lsF (palN p1 p2 p3 (papL W H) 8) (fun set => cbyF D o cl set N) i = -9 ∨ pcI (nI i) < pcI (lsF (palN p1 p2 p3 (papL W H) 8) (fun set => cbyF D o cl set N) i))))), (2, .int (lsF (palN p1 p2 p3 (papL W H) 8) (fun set => cbyF D o cl set N) i)), (1, .int (nI (palN p1 p2 p3 (papL W H) 8))), (0, .ref (a 0))] 1 dX5_leastSet_61 rfl (nI_1 _) (by decide) rfl ?_
              refine kw_goto (tgt := 10) C dX5_leastSet_64 (by decide) ?_
              refine KW.loc (lv' := [(3, .int (nI (i + 1))), (2, .int (lsF (palN p1 p2 p3 (papL W H) 8) (fun set => cbyF D o cl set N) i)), (1, .int (nI (palN p1 p2 p3 (papL W H) 8))), (0, .ref (a 0))]) [0, 2, 3, 4] rfl ?_
              refine KW.asl (congrArg (fun zz => ([(3, .int (nI (i + 1))), (2, .int zz), (1, .int (nI (palN p1 p2 p3 (papL W H) 8))), (0, .ref (a 0))] : List (Nat × Value))) (show (lsF (palN p1 p2 p3 (papL W H) 8) (fun set => cbyF D o cl set N) i) = (lsF (palN p1 p2 p3 (papL W H) 8) (fun set => cbyF D o cl set N) (i + 1)) from by simp only [lsF]; split <;> rename_i hh <;> first | rfl | exact absurd hh.1 c_44 | exact absurd hh.2 c_56 | exact absurd (And.intro c_44 c_56) hh)) ?_
              exact ih_10 (i + 1) (by first | assumption | omega | (simp; done)) (by omega)
            ·
              refine kw_iload_n C 1 dX5_leastSet_59 rfl ?_
              refine kw_istore_n C [(2, .int (nI i)), (4, .int (bI (decide (lsF (palN p1 p2 p3 (papL W H) 8) (fun set => cbyF D o cl set N) i = -9 ∨ pcI (nI i) < pcI (lsF (palN p1 p2 p3 (papL W H) 8) (fun set => cbyF D o cl set N) i))))), (3, .int (nI i)), (1, .int (nI (palN p1 p2 p3 (papL W H) 8))), (0, .ref (a 0))] dX5_leastSet_60 rfl (by decide) rfl ?_
              refine kw_iinc (v := nI (i + 1)) C [(3, .int (nI (i + 1))), (2, .int (nI i)), (4, .int (bI (decide (lsF (palN p1 p2 p3 (papL W H) 8) (fun set => cbyF D o cl set N) i = -9 ∨ pcI (nI i) < pcI (lsF (palN p1 p2 p3 (papL W H) 8) (fun set => cbyF D o cl set N) i))))), (1, .int (nI (palN p1 p2 p3 (papL W H) 8))), (0, .ref (a 0))] 2 dX5_leastSet_61 rfl (nI_1 _) (by decide) rfl ?_
              refine kw_goto (tgt := 10) C dX5_leastSet_64 (by decide) ?_
              refine KW.loc (lv' := [(3, .int (nI (i + 1))), (2, .int (nI i)), (1, .int (nI (palN p1 p2 p3 (papL W H) 8))), (0, .ref (a 0))]) [0, 1, 3, 4] rfl ?_
              refine KW.asl (congrArg (fun zz => ([(3, .int (nI (i + 1))), (2, .int zz), (1, .int (nI (palN p1 p2 p3 (papL W H) 8))), (0, .ref (a 0))] : List (Nat × Value))) (show (nI i) = (lsF (palN p1 p2 p3 (papL W H) 8) (fun set => cbyF D o cl set N) (i + 1)) from by simp only [lsF]; split <;> rename_i hh <;> first | rfl | exact absurd hh.1 c_44 | exact absurd hh.2 c_56 | exact absurd (And.intro c_44 c_56) hh)) ?_
              exact ih_10 (i + 1) (by first | assumption | omega | (simp; done)) (by omega)
        refine kw_icmp_eq (tgt := 35) C dX5_leastSet_21 (by decide) (fun c_21 => ?_) (fun c_21 => ?_)
        ·
          refine kw_iconst (v := nI 1) C dX5_leastSet_35 (by decide) ?_
          refine kw_goto (tgt := 40) C dX5_leastSet_36 (by decide) ?_
          refine KW.loc (lv' := [(3, .int (nI i)), (2, .int (lsF (palN p1 p2 p3 (papL W H) 8) (fun set => cbyF D o cl set N) i)), (1, .int (nI (palN p1 p2 p3 (papL W H) 8))), (0, .ref (a 0))]) [0, 1, 2, 3] rfl ?_
          refine KW.ass (congrArg (fun zz => ([.int zz] : List Value)) (show (nI 1) = (bI (decide (lsF (palN p1 p2 p3 (papL W H) 8) (fun set => cbyF D o cl set N) i = -9 ∨ pcI (nI i) < pcI (lsF (palN p1 p2 p3 (papL W H) 8) (fun set => cbyF D o cl set N) i)))) from by first | exact (bI_t (Or.inl c_21)).symm | exact (bI_t (Or.inr (not_le32 c_32))).symm | exact (bI_f (fun h => h.elim c_21 (fun q => absurd q (Int32.not_lt.mpr c_32)))).symm)) ?_
          exact J40_4 ()
        ·
          refine kw_iload_n C 0 dX5_leastSet_24 rfl ?_
          refine kS_i (As := [.int (nI i)]) (rest := []) (ws' := fun (u : Unit) => kWork y a (nI W, nI H, nI N, nI D, p1, p2, p3, col, od, blk, slp)) C (c_J6_bitCount_0f7a4 l G y t (nI i)) (va_cwS 1 C.2.2.2.2.1 (goodS cT wd_361 wd_359 wd_360 wd_51) rfl rfl rfl (by decide +kernel) ⟨by decide, by decide⟩) [] [0, 1, 2, 3, 4, 5] [0, 1, 2, 3, 4, 5] rfl (by decide) rfl (by decide) (by decide) (fun _ => rfl) (by decide) rfl (Nat.le_of_ble_eq_true rfl) ⟨by decide, by decide⟩ dX5_leastSet_25 (fun r u hr_6 => ?_)
          subst hr_6
          refine kw_iload_n C 1 dX5_leastSet_28 rfl ?_
          refine kS_i (As := [.int (lsF (palN p1 p2 p3 (papL W H) 8) (fun set => cbyF D o cl set N) i)]) (rest := [.int (pcI (nI i))]) (ws' := fun (u : Unit) => kWork y a (nI W, nI H, nI N, nI D, p1, p2, p3, col, od, blk, slp)) C (c_J6_bitCount_0f7a4 l G y t (lsF (palN p1 p2 p3 (papL W H) 8) (fun set => cbyF D o cl set N) i)) (va_cwS 1 C.2.2.2.2.1 (goodS cT wd_361 wd_359 wd_360 wd_51) rfl rfl rfl (by decide +kernel) ⟨by decide, by decide⟩) [] [0, 1, 2, 3, 4, 5] [0, 1, 2, 3, 4, 5] rfl (by decide) rfl (by decide) (by decide) (fun _ => rfl) (by decide) rfl (Nat.le_of_ble_eq_true rfl) ⟨by decide, by decide⟩ dX5_leastSet_29 (fun r u hr_7 => ?_)
          subst hr_7
          refine kw_icmp_ge (tgt := 39) C dX5_leastSet_32 (by decide) (fun c_32 => ?_) (fun c_32 => ?_)
          ·
            refine kw_iconst (v := nI 0) C dX5_leastSet_39 (by decide) ?_
            refine KW.loc (lv' := [(3, .int (nI i)), (2, .int (lsF (palN p1 p2 p3 (papL W H) 8) (fun set => cbyF D o cl set N) i)), (1, .int (nI (palN p1 p2 p3 (papL W H) 8))), (0, .ref (a 0))]) [0, 1, 2, 3] rfl ?_
            refine KW.ass (congrArg (fun zz => ([.int zz] : List Value)) (show (nI 0) = (bI (decide (lsF (palN p1 p2 p3 (papL W H) 8) (fun set => cbyF D o cl set N) i = -9 ∨ pcI (nI i) < pcI (lsF (palN p1 p2 p3 (papL W H) 8) (fun set => cbyF D o cl set N) i)))) from by first | exact (bI_t (Or.inl c_21)).symm | exact (bI_t (Or.inr (not_le32 c_32))).symm | exact (bI_f (fun h => h.elim c_21 (fun q => absurd q (Int32.not_lt.mpr c_32)))).symm)) ?_
            exact J40_4 ()
          ·
            refine kw_iconst (v := nI 1) C dX5_leastSet_35 (by decide) ?_
            refine kw_goto (tgt := 40) C dX5_leastSet_36 (by decide) ?_
            refine KW.loc (lv' := [(3, .int (nI i)), (2, .int (lsF (palN p1 p2 p3 (papL W H) 8) (fun set => cbyF D o cl set N) i)), (1, .int (nI (palN p1 p2 p3 (papL W H) 8))), (0, .ref (a 0))]) [0, 1, 2, 3] rfl ?_
            refine KW.ass (congrArg (fun zz => ([.int zz] : List Value)) (show (nI 1) = (bI (decide (lsF (palN p1 p2 p3 (papL W H) 8) (fun set => cbyF D o cl set N) i = -9 ∨ pcI (nI i) < pcI (lsF (palN p1 p2 p3 (papL W H) 8) (fun set => cbyF D o cl set N) i)))) from by first | exact (bI_t (Or.inl c_21)).symm | exact (bI_t (Or.inr (not_le32 c_32))).symm | exact (bI_f (fun h => h.elim c_21 (fun q => absurd q (Int32.not_lt.mpr c_32)))).symm)) ?_
            exact J40_4 ()
  refine KW.loc (lv' := [(3, .int (nI 0)), (2, .int (-9)), (1, .int (nI (palN p1 p2 p3 (papL W H) 8))), (0, .ref (a 0))]) [0, 1, 2, 3] rfl ?_
  refine KW.asl (congrArg (fun zz => ([(3, .int (nI 0)), (2, .int zz), (1, .int (nI (palN p1 p2 p3 (papL W H) 8))), (0, .ref (a 0))] : List (Nat × Value))) (show (-9) = (lsF (palN p1 p2 p3 (papL W H) 8) (fun set => cbyF D o cl set N) 0) from by rfl)) ?_
  exact L10_2 (2 ^ N - 0 + 1) 0 (by first | assumption | omega | (simp; done)) (Nat.lt_succ_self _)

set_option maxHeartbeats 4000000 in
set_option maxRecDepth 100000 in
theorem c_X5_colourOfAll (l : Launch) (G : va_G) (y : Nat → ClassId) (t : Nat) (a : Nat → Nat) (W : Nat) (H : Nat) (N : Nat) (D : Nat) (p1 : Int64) (p2 : Int64) (p3 : Int64) (col : Nat → Int32) (od : Nat → Int32) (blk : Nat → Int64) (slp : Nat → Int32) (o : Nat → Nat) (cl : Nat → Nat) (kk : Nat → Nat) (set : Nat) (hN : N ≤ 6) (hD : D < 64) (hod : ∀ q, q < N → od q = nI (o q) ∧ o q < N) (hcol : ∀ i, i < N → col i = nI (cl i) ∧ cl i < 8) (hset : set < 64) (sz : Nat) : Met l yX5_colourOfAll (Cond.code yX5_colourOfAll cX5_colourOfAll 5 (some .int) :: TG) ({ frames := 1, cells := 0, slots := 0, locals := 21 }) (va_Pc [.ref (a 0), .int (nI set)] (PR G y t (kWork y a (nI W, nI H, nI N, nI D, p1, p2, p3, col, od, blk, slp)) sz)) (va_Qi (fun (r : Int32) (u : Unit) => r = (nI (colF D o cl set N))) (fun (u : Unit) t => PO G (va_A (kWork y a (nI W, nI H, nI N, nI D, p1, p2, p3, col, od, blk, slp)) sz) (kWork y a (nI W, nI H, nI N, nI D, p1, p2, p3, col, od, blk, slp)) t) (va_A (kWork y a (nI W, nI H, nI N, nI D, p1, p2, p3, col, od, blk, slp)) sz)) 0 0 (va_A (kWork y a (nI W, nI H, nI N, nI D, p1, p2, p3, col, od, blk, slp)) sz) := by
  refine kMet (cc := cX5_colourOfAll) (maxL := 5) (ret := some .int) (Qc := fun A => va_Qi (fun (r : Int32) (u : Unit) => r = (nI (colF D o cl set N))) (fun (u : Unit) t => PO G A (kWork y a (nI W, nI H, nI N, nI D, p1, p2, p3, col, od, blk, slp)) t) A) (by decide) rfl (Nat.le_of_ble_eq_true rfl) (fun p e s m below meth c A hsz C hin => ?_)
  refine KW.loc (lv' := [(0, .ref (a 0)), (1, .int (nI set))]) [0, 1] rfl ?_
  refine kw_iconst (v := nI 0) C dX5_colourOfAll_0 (by decide) ?_
  refine kw_istore_n C [(2, .int (nI 0)), (0, .ref (a 0)), (1, .int (nI set))] dX5_colourOfAll_1 rfl (by decide) rfl ?_
  refine kw_iconst (v := nI 0) C dX5_colourOfAll_2 (by decide) ?_
  refine kw_istore_n C [(3, .int (nI 0)), (2, .int (nI 0)), (0, .ref (a 0)), (1, .int (nI set))] dX5_colourOfAll_3 rfl (by decide) rfl ?_
  have L4_1 : ∀ (nn : Nat) (i : Nat) (hi : i ≤ N) (hms : N - i < nn), KW p l e ({ frames := 1, cells := 0, slots := 0, locals := 21 }) s m ([.ref (a 0), .int (nI set)] : List Value).toArray below meth c 0 0 (MQ below (va_Qi (fun (r : Int32) (u : Unit) => r = (nI (colF D o cl set N))) (fun (u : Unit) t => PO G A (kWork y a (nI W, nI H, nI N, nI D, p1, p2, p3, col, od, blk, slp)) t) A) ([.ref (a 0), .int (nI set)] : List Value).toArray s 0 0 A) G A 5 (kWork y a (nI W, nI H, nI N, nI D, p1, p2, p3, col, od, blk, slp)) [(3, .int (nI i)), (2, .int (nI (colF D o cl set i))), (0, .ref (a 0)), (1, .int (nI set))] 4 [] := by
    intro nn
    induction nn with
    | zero => intro i hi hms; exact absurd hms (Nat.not_lt_zero _)
    | succ nn ih_4 =>
      intro i hi hms
      refine kw_iload_n C 0 dX5_colourOfAll_4 rfl ?_
      refine kw_aload_n C 2 dX5_colourOfAll_5 rfl ?_
      refine kw_get (v := .int (nI N)) (T := TX5) C 0 2 rfl rfl (by decide) (fun w h => mT (fwX5 w h)) rfl (mT wd_91) rfl dX5_colourOfAll_6 ?_
      refine kw_icmp_ge_N (tgt := 64) C (by omega) (by omega) dX5_colourOfAll_9 (by decide) (fun c_9 => ?_) (fun c_9 => ?_)
      ·
        refine kw_iload_n C 1 dX5_colourOfAll_64 rfl ?_
        refine kR_i C () dX5_colourOfAll_65 ?_ rfl
        rw [show i = N from by omega]
      ·
        refine kw_aload_n C 2 dX5_colourOfAll_12 rfl ?_
        refine kw_get (v := .ref (a 3)) (T := TX5) C 0 6 rfl rfl (by decide) (fun w h => mT (fwX5 w h)) rfl (mT wd_102) rfl dX5_colourOfAll_13 ?_
        refine kw_iload_n C 0 dX5_colourOfAll_16 rfl ?_
        refine kw_iald (f := od) C 3 rfl (by omega) (by decide) dX5_colourOfAll_17 ?_
        refine kw_top (show (od i) = (nI (o i)) from by exact (hod i (by omega)).1) ?_
        have ho := (hod i (by omega)).2
        refine kw_istore C [(4, .int (nI (o i))), (3, .int (nI i)), (2, .int (nI (colF D o cl set i))), (0, .ref (a 0)), (1, .int (nI set))] dX5_colourOfAll_18 (by decide) rfl ?_
        refine kw_iload_n C 4 dX5_colourOfAll_20 rfl ?_
        refine kw_iload C 0 dX5_colourOfAll_21 rfl ?_
        refine kw_ishr C dX5_colourOfAll_23 (kw_top (n_shr (by omega) (by omega)) ?_)
        refine kw_iconst (v := nI 1) C dX5_colourOfAll_24 (by decide) ?_
        refine kw_iand C dX5_colourOfAll_25 (kw_top (n_and _ _) ?_)
        refine kw_if_eq_N (tgt := 58) C (by exact Nat.lt_of_le_of_lt Nat.and_le_right (by omega)) dX5_colourOfAll_26 (by decide) (fun c_26 => ?_) (fun c_26 => ?_)
        ·
          refine kw_iinc (v := nI (i + 1)) C [(3, .int (nI (i + 1))), (4, .int (nI (o i))), (2, .int (nI (colF D o cl set i))), (0, .ref (a 0)), (1, .int (nI set))] 1 dX5_colourOfAll_58 rfl (nI_1 _) (by decide) rfl ?_
          refine kw_goto (tgt := 4) C dX5_colourOfAll_61 (by decide) ?_
          refine KW.loc (lv' := [(3, .int (nI (i + 1))), (2, .int (nI (colF D o cl set i))), (0, .ref (a 0)), (1, .int (nI set))]) [0, 2, 3, 4] rfl ?_
          refine KW.asl (congrArg (fun zz => ([(3, .int (nI (i + 1))), (2, .int zz), (0, .ref (a 0)), (1, .int (nI set))] : List (Nat × Value))) (show (nI (colF D o cl set i)) = (nI (colF D o cl set (i + 1))) from by first | (simp [colF, tbd_f c_26]; done) | (cases hd : D.testBit (o i) <;> rw [hd] at c_35 <;> first | (simp [colF, tbd_t c_26, hd]; done) | exact absurd rfl c_35 | exact absurd c_35 (by decide)))) ?_
          exact ih_4 (i + 1) (by first | assumption | omega | (simp; done)) (by omega)
        ·
          refine kw_aload_n C 3 dX5_colourOfAll_29 rfl ?_
          refine kw_iload C 0 dX5_colourOfAll_30 rfl ?_
          refine kV_i (As := [.int (nI (o i))]) (rest := []) (ws' := fun (u : Unit) => kWork y a (nI W, nI H, nI N, nI D, p1, p2, p3, col, od, blk, slp)) C (c_X5_isDense l G y t a W H N D p1 p2 p3 col od blk slp (o i) (by first | assumption | omega | decide) (by first | assumption | omega | decide)) (cwV 1 C.2.2.2.2.1 (goodV cT wd_376 wd_373 wd_374 wd_375 wd_42) rfl rfl rfl (by decide +kernel) ⟨by decide, by decide⟩) [0, 1, 2, 3, 4, 5] [] [0, 1, 2, 3, 4, 5] rfl (by decide) rfl (by decide) (by decide) (fun _ => rfl) (by decide) 0 rfl rfl rfl (Nat.le_of_ble_eq_true rfl) ⟨by decide, by decide⟩ dX5_colourOfAll_32 (fun r u hr_2 => ?_)
          subst hr_2
          refine kw_if_eq (tgt := 48) C dX5_colourOfAll_35 (by decide) (fun c_35 => ?_) (fun c_35 => ?_)
          ·
            refine kw_iload_n C 2 dX5_colourOfAll_48 rfl ?_
            refine kw_aload_n C 3 dX5_colourOfAll_49 rfl ?_
            refine kw_get (v := .ref (a 2)) (T := TX5) C 0 5 rfl rfl (by decide) (fun w h => mT (fwX5 w h)) rfl (mT wd_100) rfl dX5_colourOfAll_50 ?_
            refine kw_iload C 0 dX5_colourOfAll_53 rfl ?_
            refine kw_iald (f := col) C 2 rfl (by omega) (by decide) dX5_colourOfAll_55 ?_
            refine kw_top (show (col (o i)) = (nI (cl (o i))) from by exact (hcol _ ho).1) ?_
            refine kw_ior C dX5_colourOfAll_56 (kw_top (n_or _ _) ?_)
            refine kw_istore_n C [(2, .int (nI ((colF D o cl set i) ||| (cl (o i))))), (4, .int (nI (o i))), (3, .int (nI i)), (0, .ref (a 0)), (1, .int (nI set))] dX5_colourOfAll_57 rfl (by decide) rfl ?_
            refine kw_iinc (v := nI (i + 1)) C [(3, .int (nI (i + 1))), (2, .int (nI ((colF D o cl set i) ||| (cl (o i))))), (4, .int (nI (o i))), (0, .ref (a 0)), (1, .int (nI set))] 2 dX5_colourOfAll_58 rfl (nI_1 _) (by decide) rfl ?_
            refine kw_goto (tgt := 4) C dX5_colourOfAll_61 (by decide) ?_
            refine KW.loc (lv' := [(3, .int (nI (i + 1))), (2, .int (nI ((colF D o cl set i) ||| (cl (o i))))), (0, .ref (a 0)), (1, .int (nI set))]) [0, 1, 3, 4] rfl ?_
            refine KW.asl (congrArg (fun zz => ([(3, .int (nI (i + 1))), (2, .int zz), (0, .ref (a 0)), (1, .int (nI set))] : List (Nat × Value))) (show (nI ((colF D o cl set i) ||| (cl (o i)))) = (nI (colF D o cl set (i + 1))) from by first | (simp [colF, tbd_f c_26]; done) | (cases hd : D.testBit (o i) <;> rw [hd] at c_35 <;> first | (simp [colF, tbd_t c_26, hd]; done) | exact absurd rfl c_35 | exact absurd c_35 (by decide)))) ?_
            exact ih_4 (i + 1) (by first | assumption | omega | (simp; done)) (by omega)
          ·
            refine kw_aload_n C 3 dX5_colourOfAll_38 rfl ?_
            refine kw_get (v := .ref (a 2)) (T := TX5) C 0 5 rfl rfl (by decide) (fun w h => mT (fwX5 w h)) rfl (mT wd_100) rfl dX5_colourOfAll_39 ?_
            refine kw_iload C 0 dX5_colourOfAll_42 rfl ?_
            refine kw_iald (f := col) C 2 rfl (by omega) (by decide) dX5_colourOfAll_44 ?_
            refine kw_top (show (col (o i)) = (nI (cl (o i))) from by exact (hcol _ ho).1) ?_
            refine kw_goto (tgt := 57) C dX5_colourOfAll_45 (by decide) ?_
            refine kw_istore_n C [(2, .int (nI (cl (o i)))), (4, .int (nI (o i))), (3, .int (nI i)), (0, .ref (a 0)), (1, .int (nI set))] dX5_colourOfAll_57 rfl (by decide) rfl ?_
            refine kw_iinc (v := nI (i + 1)) C [(3, .int (nI (i + 1))), (2, .int (nI (cl (o i)))), (4, .int (nI (o i))), (0, .ref (a 0)), (1, .int (nI set))] 2 dX5_colourOfAll_58 rfl (nI_1 _) (by decide) rfl ?_
            refine kw_goto (tgt := 4) C dX5_colourOfAll_61 (by decide) ?_
            refine KW.loc (lv' := [(3, .int (nI (i + 1))), (2, .int (nI (cl (o i)))), (0, .ref (a 0)), (1, .int (nI set))]) [0, 1, 3, 4] rfl ?_
            refine KW.asl (congrArg (fun zz => ([(3, .int (nI (i + 1))), (2, .int zz), (0, .ref (a 0)), (1, .int (nI set))] : List (Nat × Value))) (show (nI (cl (o i))) = (nI (colF D o cl set (i + 1))) from by first | (simp [colF, tbd_f c_26]; done) | (cases hd : D.testBit (o i) <;> rw [hd] at c_35 <;> first | (simp [colF, tbd_t c_26, hd]; done) | exact absurd rfl c_35 | exact absurd c_35 (by decide)))) ?_
            exact ih_4 (i + 1) (by first | assumption | omega | (simp; done)) (by omega)
  refine KW.loc (lv' := [(3, .int (nI 0)), (2, .int (nI 0)), (0, .ref (a 0)), (1, .int (nI set))]) [0, 1, 2, 3] rfl ?_
  refine KW.asl (congrArg (fun zz => ([(3, .int (nI 0)), (2, .int zz), (0, .ref (a 0)), (1, .int (nI set))] : List (Nat × Value))) (show (nI 0) = (nI (colF D o cl set 0)) from by rfl)) ?_
  exact L4_1 (N - 0 + 1) 0 (by first | assumption | omega | (simp; done)) (Nat.lt_succ_self _)

set_option maxHeartbeats 4000000 in
set_option maxRecDepth 100000 in
theorem c_X5_firstSetGiving (l : Launch) (G : va_G) (y : Nat → ClassId) (t : Nat) (a : Nat → Nat) (W : Nat) (H : Nat) (N : Nat) (D : Nat) (p1 : Int64) (p2 : Int64) (p3 : Int64) (col : Nat → Int32) (od : Nat → Int32) (blk : Nat → Int64) (slp : Nat → Int32) (o : Nat → Nat) (cl : Nat → Nat) (kk : Nat → Nat) (c0 : Nat) (m0 : Nat) (s0 : Nat) (hN : N ≤ 6) (hD : D < 64) (hod : ∀ q, q < N → od q = nI (o q) ∧ o q < N) (hcol : ∀ i, i < N → col i = nI (cl i) ∧ cl i < 8) (hc0 : c0 < 8) (hs0 : s0 < 2 ^ N) (hp : ((nI s0 &&& (nI m0 ^^^ (-1))) = 0 ∧ colF D o cl s0 N = c0)) (hm : ∀ z, z < s0 → ¬ ((nI z &&& (nI m0 ^^^ (-1))) = 0 ∧ colF D o cl z N = c0)) (sz : Nat) : Met l yX5_firstSetGiving (Cond.code yX5_firstSetGiving cX5_firstSetGiving 4 (some .int) :: TG) ({ frames := 2, cells := 0, slots := 0, locals := 45 }) (va_Pc [.ref (a 0), .int (nI c0), .int (nI m0)] (PR G y t (kWork y a (nI W, nI H, nI N, nI D, p1, p2, p3, col, od, blk, slp)) sz)) (va_Qi (fun (r : Int32) (u : Unit) => r = (nI s0)) (fun (u : Unit) t => PO G (va_A (kWork y a (nI W, nI H, nI N, nI D, p1, p2, p3, col, od, blk, slp)) sz) (kWork y a (nI W, nI H, nI N, nI D, p1, p2, p3, col, od, blk, slp)) t) (va_A (kWork y a (nI W, nI H, nI N, nI D, p1, p2, p3, col, od, blk, slp)) sz)) 0 0 (va_A (kWork y a (nI W, nI H, nI N, nI D, p1, p2, p3, col, od, blk, slp)) sz) := by
  refine kMet (cc := cX5_firstSetGiving) (maxL := 4) (ret := some .int) (Qc := fun A => va_Qi (fun (r : Int32) (u : Unit) => r = (nI s0)) (fun (u : Unit) t => PO G A (kWork y a (nI W, nI H, nI N, nI D, p1, p2, p3, col, od, blk, slp)) t) A) (by decide) rfl (Nat.le_of_ble_eq_true rfl) (fun p e s m below meth c A hsz C hin => ?_)
  have h64 := pow6 hN
  refine KW.loc (lv' := [(0, .ref (a 0)), (1, .int (nI c0)), (2, .int (nI m0))]) [0, 1, 2] rfl ?_
  refine kw_iconst (v := nI 0) C dX5_firstSetGiving_0 (by decide) ?_
  refine kw_istore_n C [(3, .int (nI 0)), (0, .ref (a 0)), (1, .int (nI c0)), (2, .int (nI m0))] dX5_firstSetGiving_1 rfl (by decide) rfl ?_
  have L2_1 : ∀ (nn : Nat) (i : Nat) (hi : i ≤ s0) (hms : s0 - i < nn), KW p l e ({ frames := 2, cells := 0, slots := 0, locals := 45 }) s m ([.ref (a 0), .int (nI c0), .int (nI m0)] : List Value).toArray below meth c 0 0 (MQ below (va_Qi (fun (r : Int32) (u : Unit) => r = (nI s0)) (fun (u : Unit) t => PO G A (kWork y a (nI W, nI H, nI N, nI D, p1, p2, p3, col, od, blk, slp)) t) A) ([.ref (a 0), .int (nI c0), .int (nI m0)] : List Value).toArray s 0 0 A) G A 4 (kWork y a (nI W, nI H, nI N, nI D, p1, p2, p3, col, od, blk, slp)) [(3, .int (nI i)), (0, .ref (a 0)), (1, .int (nI c0)), (2, .int (nI m0))] 2 [] := by
    intro nn
    induction nn with
    | zero => intro i hi hms; exact absurd hms (Nat.not_lt_zero _)
    | succ nn ih_2 =>
      intro i hi hms
      refine kw_iload_n C 0 dX5_firstSetGiving_2 rfl ?_
      refine kw_aload_n C 1 dX5_firstSetGiving_3 rfl ?_
      refine kV_i (As := []) (rest := [.int (nI i)]) (ws' := fun (u : Unit) => kWork y a (nI W, nI H, nI N, nI D, p1, p2, p3, col, od, blk, slp)) C (c_X5_sets l G y t a W H N D p1 p2 p3 col od blk slp (by first | assumption | omega | decide)) (cwV 0 C.2.2.2.2.1 (goodV cT wd_358 wd_355 wd_356 wd_357 wd_42) rfl rfl rfl (by decide +kernel) ⟨by decide, by decide⟩) [0, 1, 2, 3, 4, 5] [] [0, 1, 2, 3, 4, 5] rfl (by decide) rfl (by decide) (by decide) (fun _ => rfl) (by decide) 0 rfl rfl rfl (Nat.le_of_ble_eq_true rfl) ⟨by decide, by decide⟩ dX5_firstSetGiving_4 (fun r u hr_2 => ?_)
      subst hr_2
      refine kw_icmp_ge_N (tgt := 35) C (by omega) (by omega) dX5_firstSetGiving_7 (by decide) (fun c_7 => ?_) (fun c_7 => ?_)
      ·
        omega
      ·
        refine kw_iload_n C 0 dX5_firstSetGiving_10 rfl ?_
        refine kw_iload_n C 3 dX5_firstSetGiving_11 rfl ?_
        refine kw_iconst (v := (-1)) C dX5_firstSetGiving_12 (by decide) ?_
        refine kw_ixor C dX5_firstSetGiving_13 ?_
        refine kw_iand C dX5_firstSetGiving_14 ?_
        refine kw_if_ne (tgt := 29) C dX5_firstSetGiving_15 (by decide) (fun c_15 => ?_) (fun c_15 => ?_)
        ·
          refine kw_iinc (v := nI (i + 1)) C [(3, .int (nI (i + 1))), (0, .ref (a 0)), (1, .int (nI c0)), (2, .int (nI m0))] 0 dX5_firstSetGiving_29 rfl (nI_1 _) (by decide) rfl ?_
          refine kw_goto (tgt := 2) C dX5_firstSetGiving_32 (by decide) ?_
          refine KW.loc (lv' := [(3, .int (nI (i + 1))), (0, .ref (a 0)), (1, .int (nI c0)), (2, .int (nI m0))]) [0, 1, 2, 3] rfl ?_
          exact ih_2 (i + 1) (by first | omega | (have := Nat.lt_of_le_of_ne hi (fun h => c_15 (by rw [h]; exact hp.1)); omega) | (have := Nat.lt_of_le_of_ne hi (fun h => c_24 (by rw [h]; exact hp.2)); omega)) (by first | omega | (have := Nat.lt_of_le_of_ne hi (fun h => c_15 (by rw [h]; exact hp.1)); omega) | (have := Nat.lt_of_le_of_ne hi (fun h => c_24 (by rw [h]; exact hp.2)); omega))
        ·
          refine kw_aload_n C 1 dX5_firstSetGiving_18 rfl ?_
          refine kw_iload_n C 0 dX5_firstSetGiving_19 rfl ?_
          refine kV_i (As := [.int (nI i)]) (rest := []) (ws' := fun (u : Unit) => kWork y a (nI W, nI H, nI N, nI D, p1, p2, p3, col, od, blk, slp)) C (c_X5_colourOfAll l G y t a W H N D p1 p2 p3 col od blk slp o cl kk i (by first | assumption | omega | decide) (by first | assumption | omega | decide) (by first | assumption | omega | decide) (by first | assumption | omega | decide) (by first | assumption | omega | decide)) (cwV 1 C.2.2.2.2.1 (goodV cT wd_390 wd_387 wd_388 wd_389 wd_42) rfl rfl rfl (by decide +kernel) ⟨by decide, by decide⟩) [0, 1, 2, 3, 4, 5] [] [0, 1, 2, 3, 4, 5] rfl (by decide) rfl (by decide) (by decide) (fun _ => rfl) (by decide) 0 rfl rfl rfl (Nat.le_of_ble_eq_true rfl) ⟨by decide, by decide⟩ dX5_firstSetGiving_20 (fun r u hr_3 => ?_)
          subst hr_3
          have hcl := colF_lt (D := D) i (fun q h => (hod q h).2) (fun q h => (hcol q h).2) N (Nat.le_refl N)
          refine kw_iload_n C 2 dX5_firstSetGiving_23 rfl ?_
          refine kw_icmp_ne_N (tgt := 29) C (by omega) (by omega) dX5_firstSetGiving_24 (by decide) (fun c_24 => ?_) (fun c_24 => ?_)
          ·
            refine kw_iinc (v := nI (i + 1)) C [(3, .int (nI (i + 1))), (0, .ref (a 0)), (1, .int (nI c0)), (2, .int (nI m0))] 0 dX5_firstSetGiving_29 rfl (nI_1 _) (by decide) rfl ?_
            refine kw_goto (tgt := 2) C dX5_firstSetGiving_32 (by decide) ?_
            refine KW.loc (lv' := [(3, .int (nI (i + 1))), (0, .ref (a 0)), (1, .int (nI c0)), (2, .int (nI m0))]) [0, 1, 2, 3] rfl ?_
            exact ih_2 (i + 1) (by first | omega | (have := Nat.lt_of_le_of_ne hi (fun h => c_15 (by rw [h]; exact hp.1)); omega) | (have := Nat.lt_of_le_of_ne hi (fun h => c_24 (by rw [h]; exact hp.2)); omega)) (by first | omega | (have := Nat.lt_of_le_of_ne hi (fun h => c_15 (by rw [h]; exact hp.1)); omega) | (have := Nat.lt_of_le_of_ne hi (fun h => c_24 (by rw [h]; exact hp.2)); omega))
          ·
            refine kw_iload_n C 0 dX5_firstSetGiving_27 rfl ?_
            refine kR_i C () dX5_firstSetGiving_28 ?_ rfl
            rcases Nat.lt_or_ge i s0 with h | h
            · exact absurd ⟨c_15, c_24⟩ (hm i h)
            · rw [show i = s0 from by omega]
  refine KW.loc (lv' := [(3, .int (nI 0)), (0, .ref (a 0)), (1, .int (nI c0)), (2, .int (nI m0))]) [0, 1, 2, 3] rfl ?_
  exact L2_1 (s0 - 0 + 1) 0 (by first | omega | (have := Nat.lt_of_le_of_ne hi (fun h => c_15 (by rw [h]; exact hp.1)); omega) | (have := Nat.lt_of_le_of_ne hi (fun h => c_24 (by rw [h]; exact hp.2)); omega)) (Nat.lt_succ_self _)

set_option maxHeartbeats 4000000 in
set_option maxRecDepth 100000 in
theorem c_X5_addToBlocks (l : Launch) (G : va_G) (y : Nat → ClassId) (t : Nat) (a : Nat → Nat) (W : Nat) (H : Nat) (N : Nat) (D : Nat) (p1 : Int64) (p2 : Int64) (p3 : Int64) (col : Nat → Int32) (od : Nat → Int32) (blk : Nat → Int64) (slp : Nat → Int32) (s0 : Nat) (ce : Int64) (hN : N ≤ 6) (hs0 : s0 < 64) (sz : Nat) : Met l yX5_addToBlocks (Cond.code yX5_addToBlocks cX5_addToBlocks 5 (none) :: TG) ({ frames := 0, cells := 0, slots := 0, locals := 0 }) (va_Pc [.ref (a 0), .int (nI s0), .long ce] (PR G y t (kWork y a (nI W, nI H, nI N, nI D, p1, p2, p3, col, od, blk, slp)) sz)) (va_Qv (fun (u : Unit) => True) (fun (u : Unit) t => PO G (va_A (kWork y a (nI W, nI H, nI N, nI D, p1, p2, p3, col, od, blk, slp)) sz) (kWork y a (nI W, nI H, nI N, nI D, p1, p2, p3, col, od, addB s0 ce blk N, slp)) t) (va_A (kWork y a (nI W, nI H, nI N, nI D, p1, p2, p3, col, od, blk, slp)) sz)) 0 0 (va_A (kWork y a (nI W, nI H, nI N, nI D, p1, p2, p3, col, od, blk, slp)) sz) := by
  refine kMet (cc := cX5_addToBlocks) (maxL := 5) (ret := none) (Qc := fun A => va_Qv (fun (u : Unit) => True) (fun (u : Unit) t => PO G A (kWork y a (nI W, nI H, nI N, nI D, p1, p2, p3, col, od, addB s0 ce blk N, slp)) t) A) (by decide) rfl (Nat.le_of_ble_eq_true rfl) (fun p e s m below meth c A hsz C hin => ?_)
  refine KW.loc (lv' := [(0, .ref (a 0)), (1, .int (nI s0)), (2, .long ce)]) [0, 1, 2] rfl ?_
  refine kw_iload_n C 1 dX5_addToBlocks_0 rfl ?_
  refine kw_bipush (v := (-9)) C dX5_addToBlocks_1 (by decide) ?_
  refine kw_icmp_ne (tgt := 7) C dX5_addToBlocks_3 (by decide) (fun c_3 => ?_) (fun c_3 => ?_)
  ·
    refine kw_iconst (v := nI 0) C dX5_addToBlocks_7 (by decide) ?_
    refine kw_istore C [(4, .int (nI 0)), (0, .ref (a 0)), (1, .int (nI s0)), (2, .long ce)] dX5_addToBlocks_8 (by decide) rfl ?_
    have L10_1 : ∀ (nn : Nat) (i : Nat) (hi : i ≤ N) (hms : N - i < nn), KW p l e ({ frames := 0, cells := 0, slots := 0, locals := 0 }) s m ([.ref (a 0), .int (nI s0), .long ce] : List Value).toArray below meth c 0 0 (MQ below (va_Qv (fun (u : Unit) => True) (fun (u : Unit) t => PO G A (kWork y a (nI W, nI H, nI N, nI D, p1, p2, p3, col, od, addB s0 ce blk N, slp)) t) A) ([.ref (a 0), .int (nI s0), .long ce] : List Value).toArray s 0 0 A) G A 5 (kWork y a (nI W, nI H, nI N, nI D, p1, p2, p3, col, od, addB s0 ce blk i, slp)) [(4, .int (nI i)), (0, .ref (a 0)), (1, .int (nI s0)), (2, .long ce)] 10 [] := by
      intro nn
      induction nn with
      | zero => intro i hi hms; exact absurd hms (Nat.not_lt_zero _)
      | succ nn ih_10 =>
        intro i hi hms
        refine kw_iload C 0 dX5_addToBlocks_10 rfl ?_
        refine kw_aload_n C 1 dX5_addToBlocks_12 rfl ?_
        refine kw_get (v := .int (nI N)) (T := TX5) C 0 2 rfl rfl (by decide) (fun w h => mT (fwX5 w h)) rfl (mT wd_91) rfl dX5_addToBlocks_13 ?_
        refine kw_icmp_ge_N (tgt := 45) C (by omega) (by omega) dX5_addToBlocks_16 (by decide) (fun c_16 => ?_) (fun c_16 => ?_)
        ·
          rw [show i = N from by omega]
          refine kR_v C () dX5_addToBlocks_45 ?_ rfl
          first | rfl | trivial | (simp; done) | omega
        ·
          refine kw_iload_n C 2 dX5_addToBlocks_19 rfl ?_
          refine kw_iload C 0 dX5_addToBlocks_20 rfl ?_
          refine kw_ishr C dX5_addToBlocks_22 (kw_top (n_shr (by omega) (by omega)) ?_)
          refine kw_iconst (v := nI 1) C dX5_addToBlocks_23 (by decide) ?_
          refine kw_iand C dX5_addToBlocks_24 (kw_top (n_and _ _) ?_)
          refine kw_if_eq_N (tgt := 39) C (by exact Nat.lt_of_le_of_lt Nat.and_le_right (by omega)) dX5_addToBlocks_25 (by decide) (fun c_25 => ?_) (fun c_25 => ?_)
          ·
            refine kw_iinc (v := nI (i + 1)) C [(4, .int (nI (i + 1))), (0, .ref (a 0)), (1, .int (nI s0)), (2, .long ce)] 0 dX5_addToBlocks_39 rfl (nI_1 _) (by decide) rfl ?_
            refine kw_goto (tgt := 10) C dX5_addToBlocks_42 (by decide) ?_
            refine KW.loc (lv' := [(4, .int (nI (i + 1))), (0, .ref (a 0)), (1, .int (nI s0)), (2, .long ce)]) [0, 1, 2, 3] rfl ?_
            refine KW.asw (congrArg (fun zz => (kWork y a (nI W, nI H, nI N, nI D, p1, p2, p3, col, od, zz, slp) : va_W)) (show (addB s0 ce blk i) = (addB s0 ce blk (i + 1)) from by first | (simp [addB, tbd_f c_25]; done) | (simp [addB, tbd_t c_25]; done))) ?_
            exact ih_10 (i + 1) (by first | assumption | omega | (simp; done)) (by omega)
          ·
            refine kw_aload_n C 1 dX5_addToBlocks_28 rfl ?_
            refine kw_get (v := .ref (a 4)) (T := TX5) C 0 7 rfl rfl (by decide) (fun w h => mT (fwX5 w h)) rfl (mT wd_103) rfl dX5_addToBlocks_29 ?_
            refine kw_iload C 0 dX5_addToBlocks_32 rfl ?_
            refine kw_dup2_11 C dX5_addToBlocks_34 rfl rfl ?_
            refine kw_lald (f := addB s0 ce blk i) C 4 rfl (by omega) (by decide) dX5_addToBlocks_35 ?_
            refine kw_lload_n C 3 dX5_addToBlocks_36 rfl ?_
            refine kw_lor C dX5_addToBlocks_37 ?_
            refine kw_last C 4 (kWork y a (nI W, nI H, nI N, nI D, p1, p2, p3, col, od, vp_updL (addB s0 ce blk i) i (((addB s0 ce blk i) i) ||| ce), slp)) rfl (by omega) (by decide) dX5_addToBlocks_38 rfl ?_
            refine kw_iinc (v := nI (i + 1)) C [(4, .int (nI (i + 1))), (0, .ref (a 0)), (1, .int (nI s0)), (2, .long ce)] 0 dX5_addToBlocks_39 rfl (nI_1 _) (by decide) rfl ?_
            refine kw_goto (tgt := 10) C dX5_addToBlocks_42 (by decide) ?_
            refine KW.loc (lv' := [(4, .int (nI (i + 1))), (0, .ref (a 0)), (1, .int (nI s0)), (2, .long ce)]) [0, 1, 2, 3] rfl ?_
            refine KW.asw (congrArg (fun zz => (kWork y a (nI W, nI H, nI N, nI D, p1, p2, p3, col, od, zz, slp) : va_W)) (show (vp_updL (addB s0 ce blk i) i (((addB s0 ce blk i) i) ||| ce)) = (addB s0 ce blk (i + 1)) from by first | (simp [addB, tbd_f c_25]; done) | (simp [addB, tbd_t c_25]; done))) ?_
            exact ih_10 (i + 1) (by first | assumption | omega | (simp; done)) (by omega)
    refine KW.loc (lv' := [(4, .int (nI 0)), (0, .ref (a 0)), (1, .int (nI s0)), (2, .long ce)]) [0, 1, 2, 3] rfl ?_
    refine KW.asw (congrArg (fun zz => (kWork y a (nI W, nI H, nI N, nI D, p1, p2, p3, col, od, zz, slp) : va_W)) (show blk = (addB s0 ce blk 0) from by rfl)) ?_
    exact L10_1 (N - 0 + 1) 0 (by first | assumption | omega | (simp; done)) (Nat.lt_succ_self _)
  ·
    exact absurd c_3 (nI_ne9 (by omega))

set_option maxHeartbeats 4000000 in
set_option maxRecDepth 100000 in
theorem c_X5_cutFor (l : Launch) (G : va_G) (y : Nat → ClassId) (t : Nat) (a : Nat → Nat) (W : Nat) (H : Nat) (N : Nat) (D : Nat) (p1 : Int64) (p2 : Int64) (p3 : Int64) (col : Nat → Int32) (od : Nat → Int32) (blk : Nat → Int64) (slp : Nat → Int32) (o : Nat → Nat) (cl : Nat → Nat) (kk : Nat → Nat) (m0 : Nat) (fs : Nat → Nat) (hW : W ≤ 6) (hH : H ≤ 6) (hN : N ≤ 6) (hD : D < 64) (hod : ∀ q, q < N → od q = nI (o q) ∧ o q < N) (hcol : ∀ i, i < N → col i = nI (cl i) ∧ cl i < 8) (hfs : ∀ c, c < 8 → ¬ ofL p1 p2 p3 c &&& papL W H = 0 → fs c < 2 ^ N ∧ ((nI (fs c) &&& (nI m0 ^^^ (-1))) = 0 ∧ colF D o cl (fs c) N = c) ∧ ∀ z, z < fs c → ¬ ((nI z &&& (nI m0 ^^^ (-1))) = 0 ∧ colF D o cl z N = c)) (sz : Nat) : Met l yX5_cutFor (Cond.code yX5_cutFor cX5_cutFor 7 (none) :: TG) ({ frames := 3, cells := 0, slots := 0, locals := 68 }) (va_Pc [.ref (a 0), .int (nI m0)] (PR G y t (kWork y a (nI W, nI H, nI N, nI D, p1, p2, p3, col, od, blk, slp)) sz)) (va_Qv (fun (u : Unit) => True) (fun (u : Unit) t => PO G (va_A (kWork y a (nI W, nI H, nI N, nI D, p1, p2, p3, col, od, blk, slp)) sz) (kWork y a (nI W, nI H, nI N, nI D, p1, p2, p3, col, od, cutB p1 p2 p3 (papL W H) N fs blk 8, zS slp N)) t) (va_A (kWork y a (nI W, nI H, nI N, nI D, p1, p2, p3, col, od, blk, slp)) sz)) 0 0 (va_A (kWork y a (nI W, nI H, nI N, nI D, p1, p2, p3, col, od, blk, slp)) sz) := by
  refine kMet (cc := cX5_cutFor) (maxL := 7) (ret := none) (Qc := fun A => va_Qv (fun (u : Unit) => True) (fun (u : Unit) t => PO G A (kWork y a (nI W, nI H, nI N, nI D, p1, p2, p3, col, od, cutB p1 p2 p3 (papL W H) N fs blk 8, zS slp N)) t) A) (by decide) rfl (Nat.le_of_ble_eq_true rfl) (fun p e s m below meth c A hsz C hin => ?_)
  have h64 := pow6 hN
  refine KW.loc (lv' := [(0, .ref (a 0)), (1, .int (nI m0))]) [0, 1] rfl ?_
  refine kw_iconst (v := nI 0) C dX5_cutFor_0 (by decide) ?_
  refine kw_istore_n C [(2, .int (nI 0)), (0, .ref (a 0)), (1, .int (nI m0))] dX5_cutFor_1 rfl (by decide) rfl ?_
  have L2_1 : ∀ (nn : Nat) (i : Nat) (hi : i ≤ N) (hms : N - i < nn), KW p l e ({ frames := 3, cells := 0, slots := 0, locals := 68 }) s m ([.ref (a 0), .int (nI m0)] : List Value).toArray below meth c 0 0 (MQ below (va_Qv (fun (u : Unit) => True) (fun (u : Unit) t => PO G A (kWork y a (nI W, nI H, nI N, nI D, p1, p2, p3, col, od, cutB p1 p2 p3 (papL W H) N fs blk 8, zS slp N)) t) A) ([.ref (a 0), .int (nI m0)] : List Value).toArray s 0 0 A) G A 7 (kWork y a (nI W, nI H, nI N, nI D, p1, p2, p3, col, od, zB blk i, zS slp i)) [(2, .int (nI i)), (0, .ref (a 0)), (1, .int (nI m0))] 2 [] := by
    intro nn
    induction nn with
    | zero => intro i hi hms; exact absurd hms (Nat.not_lt_zero _)
    | succ nn ih_2 =>
      intro i hi hms
      refine kw_iload_n C 0 dX5_cutFor_2 rfl ?_
      refine kw_aload_n C 1 dX5_cutFor_3 rfl ?_
      refine kw_get (v := .int (nI N)) (T := TX5) C 0 2 rfl rfl (by decide) (fun w h => mT (fwX5 w h)) rfl (mT wd_91) rfl dX5_cutFor_4 ?_
      refine kw_icmp_ge_N (tgt := 30) C (by omega) (by omega) dX5_cutFor_7 (by decide) (fun c_7 => ?_) (fun c_7 => ?_)
      ·
        refine kw_aload_n C 1 dX5_cutFor_30 rfl ?_
        refine kV_l (As := []) (rest := []) (ws' := fun (u : Unit) => kWork y a (nI W, nI H, nI N, nI D, p1, p2, p3, col, od, zB blk i, zS slp i)) C (c_X5_paper l G y t a W H N D p1 p2 p3 col od (zB blk i) (zS slp i) (by first | assumption | omega | decide) (by first | assumption | omega | decide)) (cwV 0 C.2.2.2.2.1 (goodV cT wd_350 wd_347 wd_348 wd_349 wd_42) rfl rfl rfl (by decide +kernel) ⟨by decide, by decide⟩) [0, 1, 2, 3, 4, 5] [] [0, 1, 2, 3, 4, 5] rfl (by decide) rfl (by decide) (by decide) (fun _ => rfl) (by decide) 0 rfl rfl rfl (Nat.le_of_ble_eq_true rfl) ⟨by decide, by decide⟩ dX5_cutFor_31 (fun r u hr_2 => ?_)
        subst hr_2
        refine kw_lstore_n C [(2, .long (papL W H)), (0, .ref (a 0)), (1, .int (nI m0))] dX5_cutFor_34 rfl (by decide) rfl ?_
        refine kw_iconst (v := nI 0) C dX5_cutFor_35 (by decide) ?_
        refine kw_istore C [(4, .int (nI 0)), (2, .long (papL W H)), (0, .ref (a 0)), (1, .int (nI m0))] dX5_cutFor_36 (by decide) rfl ?_
        have L38_3 : ∀ (nn : Nat) (c1 : Nat) (hc1 : c1 ≤ 8) (hms : 8 - c1 < nn), KW p l e ({ frames := 3, cells := 0, slots := 0, locals := 68 }) s m ([.ref (a 0), .int (nI m0)] : List Value).toArray below meth c 0 0 (MQ below (va_Qv (fun (u : Unit) => True) (fun (u : Unit) t => PO G A (kWork y a (nI W, nI H, nI N, nI D, p1, p2, p3, col, od, cutB p1 p2 p3 (papL W H) N fs blk 8, zS slp N)) t) A) ([.ref (a 0), .int (nI m0)] : List Value).toArray s 0 0 A) G A 7 (kWork y a (nI W, nI H, nI N, nI D, p1, p2, p3, col, od, cutB p1 p2 p3 (papL W H) N fs blk c1, zS slp N)) [(4, .int (nI c1)), (2, .long (papL W H)), (0, .ref (a 0)), (1, .int (nI m0))] 38 [] := by
          intro nn
          induction nn with
          | zero => intro c1 hc1 hms; exact absurd hms (Nat.not_lt_zero _)
          | succ nn ih_38 =>
            intro c1 hc1 hms
            refine kw_iload C 0 dX5_cutFor_38 rfl ?_
            refine kw_bipush (v := nI 8) C dX5_cutFor_40 (by decide) ?_
            refine kw_icmp_ge_N (tgt := 84) C (by omega) (by omega) dX5_cutFor_42 (by decide) (fun c_42 => ?_) (fun c_42 => ?_)
            ·
              rw [show c1 = 8 from by omega]
              refine kR_v C () dX5_cutFor_84 ?_ rfl
              first | rfl | trivial | (simp; done) | omega
            ·
              refine kw_aload_n C 2 dX5_cutFor_45 rfl ?_
              refine kw_get (v := .ref (a 1)) (T := TX5) C 0 4 rfl rfl (by decide) (fun w h => mT (fwX5 w h)) rfl (mT wd_97) rfl dX5_cutFor_46 ?_
              refine kw_iload C 0 dX5_cutFor_49 rfl ?_
              refine kV_l (As := [.int (nI c1)]) (rest := []) (ws' := fun (u : Unit) => kWork y a (nI W, nI H, nI N, nI D, p1, p2, p3, col, od, cutB p1 p2 p3 (papL W H) N fs blk c1, zS slp N)) C (c_X2_cellsOf l G y t (a 1) p1 p2 p3 c1 (by first | assumption | omega | decide)) (cwV 1 C.2.2.2.2.1 (goodV cT wd_354 wd_351 wd_352 wd_353 wd_43) rfl rfl rfl (by decide +kernel) ⟨by decide, by decide⟩) [1] [0, 2, 3, 4, 5] [0, 5, 1, 2, 3, 4] rfl (by decide) rfl (by decide) (by decide) (fun _ => rfl) (by decide) 1 rfl rfl rfl (Nat.le_of_ble_eq_true rfl) ⟨by decide, by decide⟩ dX5_cutFor_51 (fun r u hr_4 => ?_)
              subst hr_4
              refine kw_lload_n C 1 dX5_cutFor_54 rfl ?_
              refine kw_land C dX5_cutFor_55 ?_
              refine kw_lstore C [(5, .long ((ofL p1 p2 p3 c1) &&& (papL W H))), (4, .int (nI c1)), (2, .long (papL W H)), (0, .ref (a 0)), (1, .int (nI m0))] dX5_cutFor_56 (by decide) rfl ?_
              refine kw_lload C 0 dX5_cutFor_58 rfl ?_
              refine kw_lconst (v := 0) C dX5_cutFor_60 (by decide) ?_
              refine kw_lcmp C dX5_cutFor_61 ?_
              refine kw_if_eq_L (tgt := 78) C dX5_cutFor_62 (by decide) (fun c_62 => ?_) (fun c_62 => ?_)
              ·
                refine kw_iinc (v := nI (c1 + 1)) C [(4, .int (nI (c1 + 1))), (5, .long ((ofL p1 p2 p3 c1) &&& (papL W H))), (2, .long (papL W H)), (0, .ref (a 0)), (1, .int (nI m0))] 1 dX5_cutFor_78 rfl (nI_1 _) (by decide) rfl ?_
                refine kw_goto (tgt := 38) C dX5_cutFor_81 (by decide) ?_
                refine KW.loc (lv' := [(4, .int (nI (c1 + 1))), (2, .long (papL W H)), (0, .ref (a 0)), (1, .int (nI m0))]) [0, 2, 3, 4] rfl ?_
                refine KW.asw (congrArg (fun zz => (kWork y a (nI W, nI H, nI N, nI D, p1, p2, p3, col, od, zz, zS slp N) : va_W)) (show (cutB p1 p2 p3 (papL W H) N fs blk c1) = (cutB p1 p2 p3 (papL W H) N fs blk (c1 + 1)) from by first | (simp [cutB, c_62]; done))) ?_
                exact ih_38 (c1 + 1) (by first | assumption | omega | (simp; done)) (by omega)
              ·
                have hf := hfs c1 (by omega) c_62
                refine kw_aload_n C 3 dX5_cutFor_65 rfl ?_
                refine kw_aload_n C 3 dX5_cutFor_66 rfl ?_
                refine kw_iload C 1 dX5_cutFor_67 rfl ?_
                refine kw_iload_n C 4 dX5_cutFor_69 rfl ?_
                refine kV_i (As := [.int (nI c1), .int (nI m0)]) (rest := [.ref (a 0)]) (ws' := fun (u : Unit) => kWork y a (nI W, nI H, nI N, nI D, p1, p2, p3, col, od, cutB p1 p2 p3 (papL W H) N fs blk c1, zS slp N)) C (c_X5_firstSetGiving l G y t a W H N D p1 p2 p3 col od (cutB p1 p2 p3 (papL W H) N fs blk c1) (zS slp N) o cl kk c1 m0 (fs c1) (by first | assumption | omega | decide) (by first | assumption | omega | decide) (by first | assumption | omega | decide) (by first | assumption | omega | decide) (by first | assumption | omega | decide) (by exact hf.1) (by exact hf.2.1) (by exact hf.2.2)) (cwV 2 C.2.2.2.2.1 (goodV cT wd_386 wd_383 wd_384 wd_385 wd_42) rfl rfl rfl (by decide +kernel) ⟨by decide, by decide⟩) [0, 1, 2, 3, 4, 5] [] [0, 1, 2, 3, 4, 5] rfl (by decide) rfl (by decide) (by decide) (fun _ => rfl) (by decide) 0 rfl rfl rfl (Nat.le_of_ble_eq_true rfl) ⟨by decide, by decide⟩ dX5_cutFor_70 (fun r u hr_5 => ?_)
                subst hr_5
                refine kw_lload C 0 dX5_cutFor_73 rfl ?_
                refine kV_v (As := [.int (nI (fs c1)), .long ((ofL p1 p2 p3 c1) &&& (papL W H))]) (rest := []) (ws' := fun (u : Unit) => kWork y a (nI W, nI H, nI N, nI D, p1, p2, p3, col, od, addB (fs c1) ((ofL p1 p2 p3 c1) &&& (papL W H)) (cutB p1 p2 p3 (papL W H) N fs blk c1) N, zS slp N)) C (c_X5_addToBlocks l G y t a W H N D p1 p2 p3 col od (cutB p1 p2 p3 (papL W H) N fs blk c1) (zS slp N) (fs c1) ((ofL p1 p2 p3 c1) &&& (papL W H)) (by first | assumption | omega | decide) (by have := hf.1; omega)) (cwV 2 C.2.2.2.2.1 (goodV cT wd_394 wd_391 wd_393 wd_5 wd_42) rfl rfl rfl (by decide +kernel) ⟨by decide, by decide⟩) [0, 1, 2, 3, 4, 5] [] [0, 1, 2, 3, 4, 5] rfl (by decide) rfl (by decide) (by decide) (fun _ => rfl) (by decide) 0 rfl rfl rfl (Nat.le_of_ble_eq_true rfl) ⟨by decide, by decide⟩ dX5_cutFor_75 (fun u hr_6 => ?_)
                refine kw_iinc (v := nI (c1 + 1)) C [(4, .int (nI (c1 + 1))), (5, .long ((ofL p1 p2 p3 c1) &&& (papL W H))), (2, .long (papL W H)), (0, .ref (a 0)), (1, .int (nI m0))] 1 dX5_cutFor_78 rfl (nI_1 _) (by decide) rfl ?_
                refine kw_goto (tgt := 38) C dX5_cutFor_81 (by decide) ?_
                refine KW.loc (lv' := [(4, .int (nI (c1 + 1))), (2, .long (papL W H)), (0, .ref (a 0)), (1, .int (nI m0))]) [0, 2, 3, 4] rfl ?_
                refine KW.asw (congrArg (fun zz => (kWork y a (nI W, nI H, nI N, nI D, p1, p2, p3, col, od, zz, zS slp N) : va_W)) (show (addB (fs c1) ((ofL p1 p2 p3 c1) &&& (papL W H)) (cutB p1 p2 p3 (papL W H) N fs blk c1) N) = (cutB p1 p2 p3 (papL W H) N fs blk (c1 + 1)) from by first | (simp [cutB, c_62]; done))) ?_
                exact ih_38 (c1 + 1) (by first | assumption | omega | (simp; done)) (by omega)
        refine KW.loc (lv' := [(4, .int (nI 0)), (2, .long (papL W H)), (0, .ref (a 0)), (1, .int (nI m0))]) [0, 1, 2, 3] rfl ?_
        refine KW.asw (congrArg (fun zz => (kWork y a (nI W, nI H, nI N, nI D, p1, p2, p3, col, od, zz, zS slp i) : va_W)) (show (zB blk i) = (cutB p1 p2 p3 (papL W H) N fs blk 0) from by rw [show i = N from by omega]; rfl)) ?_
        refine KW.asw (congrArg (fun zz => (kWork y a (nI W, nI H, nI N, nI D, p1, p2, p3, col, od, cutB p1 p2 p3 (papL W H) N fs blk 0, zz) : va_W)) (show (zS slp i) = (zS slp N) from by rw [show i = N from by omega])) ?_
        exact L38_3 (8 - 0 + 1) 0 (by first | assumption | omega | (simp; done)) (Nat.lt_succ_self _)
      ·
        refine kw_aload_n C 1 dX5_cutFor_10 rfl ?_
        refine kw_get (v := .ref (a 4)) (T := TX5) C 0 7 rfl rfl (by decide) (fun w h => mT (fwX5 w h)) rfl (mT wd_103) rfl dX5_cutFor_11 ?_
        refine kw_iload_n C 0 dX5_cutFor_14 rfl ?_
        refine kw_lconst (v := 0) C dX5_cutFor_15 (by decide) ?_
        refine kw_last C 4 (kWork y a (nI W, nI H, nI N, nI D, p1, p2, p3, col, od, vp_updL (zB blk i) i 0, zS slp i)) rfl (by omega) (by decide) dX5_cutFor_16 rfl ?_
        refine kw_aload_n C 1 dX5_cutFor_17 rfl ?_
        refine kw_get (v := .ref (a 5)) (T := TX5) C 0 8 rfl rfl (by decide) (fun w h => mT (fwX5 w h)) rfl (mT wd_105) rfl dX5_cutFor_18 ?_
        refine kw_iload_n C 0 dX5_cutFor_21 rfl ?_
        refine kw_iconst (v := nI 4) C dX5_cutFor_22 (by decide) ?_
        refine kw_iast C 5 (kWork y a (nI W, nI H, nI N, nI D, p1, p2, p3, col, od, vp_updL (zB blk i) i 0, upd (zS slp i) i (nI 4))) rfl (by omega) (by decide) dX5_cutFor_23 rfl ?_
        refine kw_iinc (v := nI (i + 1)) C [(2, .int (nI (i + 1))), (0, .ref (a 0)), (1, .int (nI m0))] 0 dX5_cutFor_24 rfl (nI_1 _) (by decide) rfl ?_
        refine kw_goto (tgt := 2) C dX5_cutFor_27 (by decide) ?_
        refine KW.loc (lv' := [(2, .int (nI (i + 1))), (0, .ref (a 0)), (1, .int (nI m0))]) [0, 1, 2] rfl ?_
        refine KW.asw (congrArg (fun zz => (kWork y a (nI W, nI H, nI N, nI D, p1, p2, p3, col, od, zz, upd (zS slp i) i (nI 4)) : va_W)) (show (vp_updL (zB blk i) i 0) = (zB blk (i + 1)) from by rfl)) ?_
        refine KW.asw (congrArg (fun zz => (kWork y a (nI W, nI H, nI N, nI D, p1, p2, p3, col, od, zB blk (i + 1), zz) : va_W)) (show (upd (zS slp i) i (nI 4)) = (zS slp (i + 1)) from by rfl)) ?_
        exact ih_2 (i + 1) (by first | assumption | omega | (simp; done)) (by omega)
  refine KW.loc (lv' := [(2, .int (nI 0)), (0, .ref (a 0)), (1, .int (nI m0))]) [0, 1, 2] rfl ?_
  refine KW.asw (congrArg (fun zz => (kWork y a (nI W, nI H, nI N, nI D, p1, p2, p3, col, od, zz, slp) : va_W)) (show blk = (zB blk 0) from by rfl)) ?_
  refine KW.asw (congrArg (fun zz => (kWork y a (nI W, nI H, nI N, nI D, p1, p2, p3, col, od, zB blk 0, zz) : va_W)) (show slp = (zS slp 0) from by rfl)) ?_
  exact L2_1 (N - 0 + 1) 0 (by first | assumption | omega | (simp; done)) (Nat.lt_succ_self _)
