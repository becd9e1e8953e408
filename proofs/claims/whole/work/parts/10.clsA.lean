set_option maxHeartbeats 4000000 in
set_option maxRecDepth 100000 in
theorem c_X6_cellBit (l : Launch) (G : va_G) (y : Nat → ClassId) (t : Nat) (x : Nat) (z : Nat) (sz : Nat) : Met l yX6_cellBit (Cond.code yX6_cellBit cX6_cellBit 2 (some .long) :: TG) ({ frames := 0, cells := 0, slots := 0, locals := 0 }) (va_Pc [.int (nI x), .int (nI z)] (PR G y t ([]) sz)) (va_Ql (fun (r : Int64) (u : Unit) => r = (cbL (8 * z + x))) (fun (u : Unit) t => PO G (va_A ([]) sz) ([]) t) (va_A ([]) sz)) 0 0 (va_A ([]) sz) := by
  refine kMet (cc := cX6_cellBit) (maxL := 2) (ret := some .long) (Qc := fun A => va_Ql (fun (r : Int64) (u : Unit) => r = (cbL (8 * z + x))) (fun (u : Unit) t => PO G A ([]) t) A) (by decide) rfl (Nat.le_of_ble_eq_true rfl) (fun p e s m below meth c A hsz C hin => ?_)
  refine KW.loc (lv' := [(0, .int (nI x)), (1, .int (nI z))]) [0, 1] rfl ?_
  refine kw_lconst (v := 1) C dX6_cellBit_0 (by decide) ?_
  refine kw_bipush (v := nI 8) C dX6_cellBit_1 (by decide) ?_
  refine kw_iload_n C 1 dX6_cellBit_3 rfl ?_
  refine kw_imul C dX6_cellBit_4 (kw_top (pk_mul _ _) ?_)
  refine kw_iload_n C 0 dX6_cellBit_5 rfl ?_
  refine kw_iadd C dX6_cellBit_6 (kw_top (nI_add _ _) ?_)
  refine kw_lshl (v := (1 : Int64) <<< ((nI ((8 * z) + x)).toInt64 &&& 63)) C dX6_cellBit_7 rfl ?_
  refine kR_l C () dX6_cellBit_8 ?_ rfl
  first | rfl | trivial | (simp; done) | omega

set_option maxHeartbeats 4000000 in
set_option maxRecDepth 100000 in
theorem c_X6_slipOf (l : Launch) (G : va_G) (y : Nat → ClassId) (t : Nat) (dx : Int32) (dy : Int32) (sz : Nat) : Met l yX6_slipOf (Cond.code yX6_slipOf cX6_slipOf 2 (some .int) :: TG) ({ frames := 0, cells := 0, slots := 0, locals := 0 }) (va_Pc [.int dx, .int dy] (PR G y t ([]) sz)) (va_Qi (fun (r : Int32) (u : Unit) => r = (nI 3 * (dy + nI 1) + dx + nI 1)) (fun (u : Unit) t => PO G (va_A ([]) sz) ([]) t) (va_A ([]) sz)) 0 0 (va_A ([]) sz) := by
  refine kMet (cc := cX6_slipOf) (maxL := 2) (ret := some .int) (Qc := fun A => va_Qi (fun (r : Int32) (u : Unit) => r = (nI 3 * (dy + nI 1) + dx + nI 1)) (fun (u : Unit) t => PO G A ([]) t) A) (by decide) rfl (Nat.le_of_ble_eq_true rfl) (fun p e s m below meth c A hsz C hin => ?_)
  refine KW.loc (lv' := [(0, .int dx), (1, .int dy)]) [0, 1] rfl ?_
  refine kw_iconst (v := nI 3) C dX6_slipOf_0 (by decide) ?_
  refine kw_iload_n C 1 dX6_slipOf_1 rfl ?_
  refine kw_iconst (v := nI 1) C dX6_slipOf_2 (by decide) ?_
  refine kw_iadd C dX6_slipOf_3 ?_
  refine kw_imul C dX6_slipOf_4 ?_
  refine kw_iload_n C 0 dX6_slipOf_5 rfl ?_
  refine kw_iadd C dX6_slipOf_6 ?_
  refine kw_iconst (v := nI 1) C dX6_slipOf_7 (by decide) ?_
  refine kw_iadd C dX6_slipOf_8 ?_
  refine kR_i C () dX6_slipOf_9 ?_ rfl
  first | rfl | trivial | (simp; done) | omega

set_option maxHeartbeats 4000000 in
set_option maxRecDepth 100000 in
theorem c_X6_dxOf (l : Launch) (G : va_G) (y : Nat → ClassId) (t : Nat) (k : Nat) (hk : k < 9) (sz : Nat) : Met l yX6_dxOf (Cond.code yX6_dxOf cX6_dxOf 1 (some .int) :: TG) ({ frames := 0, cells := 0, slots := 0, locals := 0 }) (va_Pc [.int (nI k)] (PR G y t ([]) sz)) (va_Qi (fun (r : Int32) (u : Unit) => r = (nI (k % 3) - nI 1)) (fun (u : Unit) t => PO G (va_A ([]) sz) ([]) t) (va_A ([]) sz)) 0 0 (va_A ([]) sz) := by
  refine kMet (cc := cX6_dxOf) (maxL := 1) (ret := some .int) (Qc := fun A => va_Qi (fun (r : Int32) (u : Unit) => r = (nI (k % 3) - nI 1)) (fun (u : Unit) t => PO G A ([]) t) A) (by decide) rfl (Nat.le_of_ble_eq_true rfl) (fun p e s m below meth c A hsz C hin => ?_)
  refine KW.loc (lv' := [(0, .int (nI k))]) [0] rfl ?_
  refine kw_iload_n C 0 dX6_dxOf_0 rfl ?_
  refine kw_iconst (v := nI 3) C dX6_dxOf_1 (by decide) ?_
  refine kw_irem C dX6_dxOf_2 (by decide) (kw_top (pk_rem (by omega) (by decide) (by decide)) ?_)
  refine kw_iconst (v := nI 1) C dX6_dxOf_3 (by decide) ?_
  refine kw_isub C dX6_dxOf_4 ?_
  refine kR_i C () dX6_dxOf_5 ?_ rfl
  first | rfl | trivial | (simp; done) | omega

set_option maxHeartbeats 4000000 in
set_option maxRecDepth 100000 in
theorem c_X6_dyOf (l : Launch) (G : va_G) (y : Nat → ClassId) (t : Nat) (k : Nat) (hk : k < 9) (sz : Nat) : Met l yX6_dyOf (Cond.code yX6_dyOf cX6_dyOf 1 (some .int) :: TG) ({ frames := 0, cells := 0, slots := 0, locals := 0 }) (va_Pc [.int (nI k)] (PR G y t ([]) sz)) (va_Qi (fun (r : Int32) (u : Unit) => r = (nI (k / 3) - nI 1)) (fun (u : Unit) t => PO G (va_A ([]) sz) ([]) t) (va_A ([]) sz)) 0 0 (va_A ([]) sz) := by
  refine kMet (cc := cX6_dyOf) (maxL := 1) (ret := some .int) (Qc := fun A => va_Qi (fun (r : Int32) (u : Unit) => r = (nI (k / 3) - nI 1)) (fun (u : Unit) t => PO G A ([]) t) A) (by decide) rfl (Nat.le_of_ble_eq_true rfl) (fun p e s m below meth c A hsz C hin => ?_)
  refine KW.loc (lv' := [(0, .int (nI k))]) [0] rfl ?_
  refine kw_iload_n C 0 dX6_dyOf_0 rfl ?_
  refine kw_iconst (v := nI 3) C dX6_dyOf_1 (by decide) ?_
  refine kw_idiv C dX6_dyOf_2 (by decide) (kw_top (pk_div (by omega) (by decide) (by decide)) ?_)
  refine kw_iconst (v := nI 1) C dX6_dyOf_3 (by decide) ?_
  refine kw_isub C dX6_dyOf_4 ?_
  refine kR_i C () dX6_dyOf_5 ?_ rfl
  first | rfl | trivial | (simp; done) | omega

set_option maxHeartbeats 4000000 in
set_option maxRecDepth 100000 in
theorem c_X6_slipped (l : Launch) (G : va_G) (y : Nat → ClassId) (t : Nat) (c0 : Int64) (k : Nat) (hk : k < 9) (sz : Nat) : Met l yX6_slipped (Cond.code yX6_slipped cX6_slipped 4 (some .long) :: TG) ({ frames := 1, cells := 0, slots := 0, locals := 20 }) (va_Pc [.long c0, .int (nI k)] (PR G y t ([]) sz)) (va_Ql (fun (r : Int64) (u : Unit) => r = (slipL c0 k)) (fun (u : Unit) t => PO G (va_A ([]) sz) ([]) t) (va_A ([]) sz)) 0 0 (va_A ([]) sz) := by
  refine kMet (cc := cX6_slipped) (maxL := 4) (ret := some .long) (Qc := fun A => va_Ql (fun (r : Int64) (u : Unit) => r = (slipL c0 k)) (fun (u : Unit) t => PO G A ([]) t) A) (by decide) rfl (Nat.le_of_ble_eq_true rfl) (fun p e s m below meth c A hsz C hin => ?_)
  refine KW.loc (lv' := [(0, .long c0), (2, .int (nI k))]) [0, 1] rfl ?_
  refine kw_bipush (v := nI 8) C dX6_slipped_0 (by decide) ?_
  refine kw_iload_n C 1 dX6_slipped_2 rfl ?_
  refine kS_i (As := [.int (nI k)]) (rest := [.int (nI 8)]) (ws' := fun (u : Unit) => []) C (c_X6_dyOf l G y t k (by first | assumption | omega | decide)) (va_cwS 1 C.2.2.2.2.1 (goodS cT wd_441 wd_439 wd_440 wd_41) rfl rfl rfl (by decide +kernel) ⟨by decide, by decide⟩) [] [] [] rfl (by decide) rfl (by decide) (by decide) (fun _ => rfl) (by decide) rfl (Nat.le_of_ble_eq_true rfl) ⟨by decide, by decide⟩ dX6_slipped_3 (fun r u hr_1 => ?_)
  subst hr_1
  refine kw_imul C dX6_slipped_6 ?_
  refine kw_iload_n C 1 dX6_slipped_7 rfl ?_
  refine kS_i (As := [.int (nI k)]) (rest := [.int ((nI 8) * (nI (k / 3) - nI 1))]) (ws' := fun (u : Unit) => []) C (c_X6_dxOf l G y t k (by first | assumption | omega | decide)) (va_cwS 1 C.2.2.2.2.1 (goodS cT wd_444 wd_442 wd_443 wd_41) rfl rfl rfl (by decide +kernel) ⟨by decide, by decide⟩) [] [] [] rfl (by decide) rfl (by decide) (by decide) (fun _ => rfl) (by decide) rfl (Nat.le_of_ble_eq_true rfl) ⟨by decide, by decide⟩ dX6_slipped_8 (fun r u hr_2 => ?_)
  subst hr_2
  refine kw_iadd C dX6_slipped_11 ?_
  refine kw_top (show (((nI 8) * (nI (k / 3) - nI 1)) + (nI (k % 3) - nI 1)) = (byS k) from by rfl) ?_
  refine kw_istore_n C [(3, .int (byS k)), (0, .long c0), (2, .int (nI k))] dX6_slipped_12 rfl (by decide) rfl ?_
  refine kw_iload_n C 0 dX6_slipped_13 rfl ?_
  refine kw_if_lt (tgt := 23) C dX6_slipped_14 (by decide) (fun c_14 => ?_) (fun c_14 => ?_)
  ·
    refine kw_lload_n C 1 dX6_slipped_23 rfl ?_
    refine kw_iload_n C 0 dX6_slipped_24 rfl ?_
    refine kw_ineg C dX6_slipped_25 ?_
    refine kw_lushr (v := (c0.toUInt64 >>> ((-(byS k)).toInt64.toUInt64 &&& Int64.toUInt64 63)).toInt64) C dX6_slipped_26 rfl ?_
    refine kR_l C () dX6_slipped_27 ?_ rfl
    simp only [slipL, c_14, if_true, if_false]
  ·
    refine kw_lload_n C 1 dX6_slipped_17 rfl ?_
    refine kw_iload_n C 0 dX6_slipped_18 rfl ?_
    refine kw_lshl (v := c0 <<< ((byS k).toInt64 &&& 63)) C dX6_slipped_19 rfl ?_
    refine kw_goto (tgt := 27) C dX6_slipped_20 (by decide) ?_
    refine kR_l C () dX6_slipped_27 ?_ rfl
    simp only [slipL, c_14, if_true, if_false]

set_option maxHeartbeats 4000000 in
set_option maxRecDepth 100000 in
theorem c_X6_onBoard (l : Launch) (G : va_G) (y : Nat → ClassId) (t : Nat) (x : Int32) (z : Int32) (sz : Nat) : Met l yX6_onBoard (Cond.code yX6_onBoard cX6_onBoard 2 (some .boolean) :: TG) ({ frames := 0, cells := 0, slots := 0, locals := 0 }) (va_Pc [.int x, .int z] (PR G y t ([]) sz)) (va_Qi (fun (r : Int32) (u : Unit) => r = (bI (decide (inR x 6 ∧ inR z 6)))) (fun (u : Unit) t => PO G (va_A ([]) sz) ([]) t) (va_A ([]) sz)) 0 0 (va_A ([]) sz) := by
  refine kMet (cc := cX6_onBoard) (maxL := 2) (ret := some .boolean) (Qc := fun A => va_Qi (fun (r : Int32) (u : Unit) => r = (bI (decide (inR x 6 ∧ inR z 6)))) (fun (u : Unit) t => PO G A ([]) t) A) (by decide) rfl (Nat.le_of_ble_eq_true rfl) (fun p e s m below meth c A hsz C hin => ?_)
  refine KW.loc (lv' := [(0, .int x), (1, .int z)]) [0, 1] rfl ?_
  refine kw_iload_n C 0 dX6_onBoard_0 rfl ?_
  refine kw_if_lt (tgt := 24) C dX6_onBoard_1 (by decide) (fun c_1 => ?_) (fun c_1 => ?_)
  ·
    refine kw_iconst (v := nI 0) C dX6_onBoard_24 (by decide) ?_
    refine kR_z C () dX6_onBoard_25 (by first | decide | exact bI_z _ | rfl) ?_ rfl
    first | exact (bI_t ⟨ir1 (by omega) c_1 c_7, ir1 (by omega) c_11 c_17⟩).symm | exact (bI_f (fun h => ir2 c_1 h.1)).symm | exact (bI_f (fun h => ir3 (by omega) c_7 h.1)).symm | exact (bI_f (fun h => ir2 c_11 h.2)).symm | exact (bI_f (fun h => ir3 (by omega) c_17 h.2)).symm
  ·
    refine kw_iload_n C 0 dX6_onBoard_4 rfl ?_
    refine kw_bipush (v := nI 6) C dX6_onBoard_5 (by decide) ?_
    refine kw_icmp_ge (tgt := 24) C dX6_onBoard_7 (by decide) (fun c_7 => ?_) (fun c_7 => ?_)
    ·
      refine kw_iconst (v := nI 0) C dX6_onBoard_24 (by decide) ?_
      refine kR_z C () dX6_onBoard_25 (by first | decide | exact bI_z _ | rfl) ?_ rfl
      first | exact (bI_t ⟨ir1 (by omega) c_1 c_7, ir1 (by omega) c_11 c_17⟩).symm | exact (bI_f (fun h => ir2 c_1 h.1)).symm | exact (bI_f (fun h => ir3 (by omega) c_7 h.1)).symm | exact (bI_f (fun h => ir2 c_11 h.2)).symm | exact (bI_f (fun h => ir3 (by omega) c_17 h.2)).symm
    ·
      refine kw_iload_n C 1 dX6_onBoard_10 rfl ?_
      refine kw_if_lt (tgt := 24) C dX6_onBoard_11 (by decide) (fun c_11 => ?_) (fun c_11 => ?_)
      ·
        refine kw_iconst (v := nI 0) C dX6_onBoard_24 (by decide) ?_
        refine kR_z C () dX6_onBoard_25 (by first | decide | exact bI_z _ | rfl) ?_ rfl
        first | exact (bI_t ⟨ir1 (by omega) c_1 c_7, ir1 (by omega) c_11 c_17⟩).symm | exact (bI_f (fun h => ir2 c_1 h.1)).symm | exact (bI_f (fun h => ir3 (by omega) c_7 h.1)).symm | exact (bI_f (fun h => ir2 c_11 h.2)).symm | exact (bI_f (fun h => ir3 (by omega) c_17 h.2)).symm
      ·
        refine kw_iload_n C 1 dX6_onBoard_14 rfl ?_
        refine kw_bipush (v := nI 6) C dX6_onBoard_15 (by decide) ?_
        refine kw_icmp_ge (tgt := 24) C dX6_onBoard_17 (by decide) (fun c_17 => ?_) (fun c_17 => ?_)
        ·
          refine kw_iconst (v := nI 0) C dX6_onBoard_24 (by decide) ?_
          refine kR_z C () dX6_onBoard_25 (by first | decide | exact bI_z _ | rfl) ?_ rfl
          first | exact (bI_t ⟨ir1 (by omega) c_1 c_7, ir1 (by omega) c_11 c_17⟩).symm | exact (bI_f (fun h => ir2 c_1 h.1)).symm | exact (bI_f (fun h => ir3 (by omega) c_7 h.1)).symm | exact (bI_f (fun h => ir2 c_11 h.2)).symm | exact (bI_f (fun h => ir3 (by omega) c_17 h.2)).symm
        ·
          refine kw_iconst (v := nI 1) C dX6_onBoard_20 (by decide) ?_
          refine kw_goto (tgt := 25) C dX6_onBoard_21 (by decide) ?_
          refine kR_z C () dX6_onBoard_25 (by first | decide | exact bI_z _ | rfl) ?_ rfl
          first | exact (bI_t ⟨ir1 (by omega) c_1 c_7, ir1 (by omega) c_11 c_17⟩).symm | exact (bI_f (fun h => ir2 c_1 h.1)).symm | exact (bI_f (fun h => ir3 (by omega) c_7 h.1)).symm | exact (bI_f (fun h => ir2 c_11 h.2)).symm | exact (bI_f (fun h => ir3 (by omega) c_17 h.2)).symm

set_option maxHeartbeats 4000000 in
set_option maxRecDepth 100000 in
theorem c_X2_printed (l : Launch) (G : va_G) (y : Nat → ClassId) (t : Nat) (pl : Int64) (ce : Int64) (has : Bool) (dn : Bool) (sz : Nat) : Met l yX2_printed (Cond.code yX2_printed cX2_printed 6 (some .long) :: TG) ({ frames := 0, cells := 0, slots := 0, locals := 0 }) (va_Pc [.long pl, .long ce, .int (bI has), .int (bI dn)] (PR G y t ([]) sz)) (va_Ql (fun (r : Int64) (u : Unit) => r = (prL pl ce has dn)) (fun (u : Unit) t => PO G (va_A ([]) sz) ([]) t) (va_A ([]) sz)) 0 0 (va_A ([]) sz) := by
  refine kMet (cc := cX2_printed) (maxL := 6) (ret := some .long) (Qc := fun A => va_Ql (fun (r : Int64) (u : Unit) => r = (prL pl ce has dn)) (fun (u : Unit) t => PO G A ([]) t) A) (by decide) rfl (Nat.le_of_ble_eq_true rfl) (fun p e s m below meth c A hsz C hin => ?_)
  refine KW.loc (lv' := [(0, .long pl), (2, .long ce), (4, .int (bI has)), (5, .int (bI dn))]) [0, 1, 2, 3] rfl ?_
  refine kw_iload C 2 dX2_printed_0 rfl ?_
  refine kw_if_eq (tgt := 9) C dX2_printed_2 (by decide) (fun c_2 => ?_) (fun c_2 => ?_)
  ·
    refine kw_iload C 3 dX2_printed_9 rfl ?_
    refine kw_if_eq (tgt := 24) C dX2_printed_11 (by decide) (fun c_11 => ?_) (fun c_11 => ?_)
    ·
      refine kw_lload_n C 0 dX2_printed_24 rfl ?_
      refine kR_l C () dX2_printed_25 ?_ rfl
      cases has with
      | true => exact absurd c_2 (by decide)
      | false => cases dn with
        | true => first | rfl | exact absurd c_11 (by decide)
        | false => first | rfl | exact absurd rfl c_11
    ·
      refine kw_lload_n C 0 dX2_printed_14 rfl ?_
      refine kw_lload_n C 1 dX2_printed_15 rfl ?_
      refine kw_ldc2 (v := (-1)) C (mT wd_303) dX2_printed_16 ?_
      refine kw_lxor C dX2_printed_19 ?_
      refine kw_land C dX2_printed_20 ?_
      refine kw_goto (tgt := 25) C dX2_printed_21 (by decide) ?_
      refine kR_l C () dX2_printed_25 ?_ rfl
      cases has with
      | true => exact absurd c_2 (by decide)
      | false => cases dn with
        | true => first | rfl | exact absurd c_11 (by decide)
        | false => first | rfl | exact absurd rfl c_11
  ·
    refine kw_lload_n C 0 dX2_printed_5 rfl ?_
    refine kw_lload_n C 1 dX2_printed_6 rfl ?_
    refine kw_lor C dX2_printed_7 ?_
    refine kR_l C () dX2_printed_8 ?_ rfl
    cases has with
    | true => rfl
    | false => exact absurd rfl c_2

set_option maxHeartbeats 4000000 in
set_option maxRecDepth 100000 in
theorem c_X2_print (l : Launch) (G : va_G) (y : Nat → ClassId) (t : Nat) (b : Nat) (p1 : Int64) (p2 : Int64) (p3 : Int64) (ce : Int64) (q : Nat) (dn : Bool) (hq : q < 8) (sz : Nat) : Met l yX2_print (Cond.code yX2_print cX2_print 5 (none) :: TG) ({ frames := 1, cells := 0, slots := 0, locals := 25 }) (va_Pc [.ref b, .long ce, .int (nI q), .int (bI dn)] (PR G y t (kSheet b (p1, p2, p3)) sz)) (va_Qv (fun (u : Unit) => True) (fun (u : Unit) t => PO G (va_A (kSheet b (p1, p2, p3)) sz) (kSheet b (prL p1 ce (q.testBit 0) dn, prL p2 ce (q.testBit 1) dn, prL p3 ce (q.testBit 2) dn)) t) (va_A (kSheet b (p1, p2, p3)) sz)) 0 0 (va_A (kSheet b (p1, p2, p3)) sz) := by
  refine kMet (cc := cX2_print) (maxL := 5) (ret := none) (Qc := fun A => va_Qv (fun (u : Unit) => True) (fun (u : Unit) t => PO G A (kSheet b (prL p1 ce (q.testBit 0) dn, prL p2 ce (q.testBit 1) dn, prL p3 ce (q.testBit 2) dn)) t) A) (by decide) rfl (Nat.le_of_ble_eq_true rfl) (fun p e s m below meth c A hsz C hin => ?_)
  refine KW.loc (lv' := [(0, .ref b), (1, .long ce), (3, .int (nI q)), (4, .int (bI dn))]) [0, 1, 2, 3] rfl ?_
  refine kw_aload_n C 0 dX2_print_0 rfl ?_
  refine kw_aload_n C 0 dX2_print_1 rfl ?_
  refine kw_get (v := .long p1) (T := TX2) C 0 0 rfl rfl (by decide) (fun w h => mT (fwX2 w h)) rfl (mT wd_73) rfl dX2_print_2 ?_
  refine kw_lload_n C 1 dX2_print_5 rfl ?_
  refine kw_iload_n C 2 dX2_print_6 rfl ?_
  refine kw_iconst (v := nI 1) C dX2_print_7 (by decide) ?_
  refine kw_iand C dX2_print_8 (kw_top (n_and _ _) ?_)
  have J17_1 : ∀ (_ : Unit), KW p l e ({ frames := 1, cells := 0, slots := 0, locals := 25 }) s m ([.ref b, .long ce, .int (nI q), .int (bI dn)] : List Value).toArray below meth c 0 0 (MQ below (va_Qv (fun (u : Unit) => True) (fun (u : Unit) t => PO G A (kSheet b (prL p1 ce (q.testBit 0) dn, prL p2 ce (q.testBit 1) dn, prL p3 ce (q.testBit 2) dn)) t) A) ([.ref b, .long ce, .int (nI q), .int (bI dn)] : List Value).toArray s 0 0 A) G A 5 (kSheet b (p1, p2, p3)) [(0, .ref b), (1, .long ce), (3, .int (nI q)), (4, .int (bI dn))] 17 [.int (bI (q.testBit 0)), .long ce, .long p1, .ref b] := by
    intro _
    refine kw_iload C 3 dX2_print_17 rfl ?_
    refine kS_l (As := [.long p1, .long ce, .int (bI (q.testBit 0)), .int (bI dn)]) (rest := [.ref b]) (ws' := fun (u : Unit) => kSheet b (p1, p2, p3)) C (c_X2_printed l G y t p1 ce (q.testBit 0) dn) (va_cwS 4 C.2.2.2.2.1 (goodS cT wd_302 wd_300 wd_301 wd_43) rfl rfl rfl (by decide +kernel) ⟨by decide, by decide⟩) [] [0] [0] rfl (by decide) rfl (by decide) (by decide) (fun _ => rfl) (by decide) rfl (Nat.le_of_ble_eq_true rfl) ⟨by decide, by decide⟩ dX2_print_19 (fun r u hr_2 => ?_)
    subst hr_2
    refine kw_put (T := TX2) (ty := .long) C 0 0 (kSheet b (prL p1 ce (q.testBit 0) dn, p2, p3)) rfl rfl (by decide) (fun w h => mT (fwX2 w h)) tyX2 tyX2_ok nmX2 rfl (mT wd_73) rfl (by decide +kernel) rfl rfl (Nat.le_of_ble_eq_true rfl) dX2_print_22 rfl ?_
    refine kw_aload_n C 0 dX2_print_25 rfl ?_
    refine kw_aload_n C 0 dX2_print_26 rfl ?_
    refine kw_get (v := .long p2) (T := TX2) C 0 1 rfl rfl (by decide) (fun w h => mT (fwX2 w h)) rfl (mT wd_74) rfl dX2_print_27 ?_
    refine kw_lload_n C 1 dX2_print_30 rfl ?_
    refine kw_iload_n C 2 dX2_print_31 rfl ?_
    refine kw_iconst (v := nI 2) C dX2_print_32 (by decide) ?_
    refine kw_iand C dX2_print_33 (kw_top (n_and _ _) ?_)
    have J42_3 : ∀ (_ : Unit), KW p l e ({ frames := 1, cells := 0, slots := 0, locals := 25 }) s m ([.ref b, .long ce, .int (nI q), .int (bI dn)] : List Value).toArray below meth c 0 0 (MQ below (va_Qv (fun (u : Unit) => True) (fun (u : Unit) t => PO G A (kSheet b (prL p1 ce (q.testBit 0) dn, prL p2 ce (q.testBit 1) dn, prL p3 ce (q.testBit 2) dn)) t) A) ([.ref b, .long ce, .int (nI q), .int (bI dn)] : List Value).toArray s 0 0 A) G A 5 (kSheet b (prL p1 ce (q.testBit 0) dn, p2, p3)) [(0, .ref b), (1, .long ce), (3, .int (nI q)), (4, .int (bI dn))] 42 [.int (bI (q.testBit 1)), .long ce, .long p2, .ref b] := by
      intro _
      refine kw_iload C 3 dX2_print_42 rfl ?_
      refine kS_l (As := [.long p2, .long ce, .int (bI (q.testBit 1)), .int (bI dn)]) (rest := [.ref b]) (ws' := fun (u : Unit) => kSheet b (prL p1 ce (q.testBit 0) dn, p2, p3)) C (c_X2_printed l G y t p2 ce (q.testBit 1) dn) (va_cwS 4 C.2.2.2.2.1 (goodS cT wd_302 wd_300 wd_301 wd_43) rfl rfl rfl (by decide +kernel) ⟨by decide, by decide⟩) [] [0] [0] rfl (by decide) rfl (by decide) (by decide) (fun _ => rfl) (by decide) rfl (Nat.le_of_ble_eq_true rfl) ⟨by decide, by decide⟩ dX2_print_44 (fun r u hr_4 => ?_)
      subst hr_4
      refine kw_put (T := TX2) (ty := .long) C 0 1 (kSheet b (prL p1 ce (q.testBit 0) dn, prL p2 ce (q.testBit 1) dn, p3)) rfl rfl (by decide) (fun w h => mT (fwX2 w h)) tyX2 tyX2_ok nmX2 rfl (mT wd_74) rfl (by decide +kernel) rfl rfl (Nat.le_of_ble_eq_true rfl) dX2_print_47 rfl ?_
      refine kw_aload_n C 0 dX2_print_50 rfl ?_
      refine kw_aload_n C 0 dX2_print_51 rfl ?_
      refine kw_get (v := .long p3) (T := TX2) C 0 2 rfl rfl (by decide) (fun w h => mT (fwX2 w h)) rfl (mT wd_75) rfl dX2_print_52 ?_
      refine kw_lload_n C 1 dX2_print_55 rfl ?_
      refine kw_iload_n C 2 dX2_print_56 rfl ?_
      refine kw_iconst (v := nI 4) C dX2_print_57 (by decide) ?_
      refine kw_iand C dX2_print_58 (kw_top (n_and _ _) ?_)
      have J67_5 : ∀ (_ : Unit), KW p l e ({ frames := 1, cells := 0, slots := 0, locals := 25 }) s m ([.ref b, .long ce, .int (nI q), .int (bI dn)] : List Value).toArray below meth c 0 0 (MQ below (va_Qv (fun (u : Unit) => True) (fun (u : Unit) t => PO G A (kSheet b (prL p1 ce (q.testBit 0) dn, prL p2 ce (q.testBit 1) dn, prL p3 ce (q.testBit 2) dn)) t) A) ([.ref b, .long ce, .int (nI q), .int (bI dn)] : List Value).toArray s 0 0 A) G A 5 (kSheet b (prL p1 ce (q.testBit 0) dn, prL p2 ce (q.testBit 1) dn, p3)) [(0, .ref b), (1, .long ce), (3, .int (nI q)), (4, .int (bI dn))] 67 [.int (bI (q.testBit 2)), .long ce, .long p3, .ref b] := by
        intro _
        refine kw_iload C 3 dX2_print_67 rfl ?_
        refine kS_l (As := [.long p3, .long ce, .int (bI (q.testBit 2)), .int (bI dn)]) (rest := [.ref b]) (ws' := fun (u : Unit) => kSheet b (prL p1 ce (q.testBit 0) dn, prL p2 ce (q.testBit 1) dn, p3)) C (c_X2_printed l G y t p3 ce (q.testBit 2) dn) (va_cwS 4 C.2.2.2.2.1 (goodS cT wd_302 wd_300 wd_301 wd_43) rfl rfl rfl (by decide +kernel) ⟨by decide, by decide⟩) [] [0] [0] rfl (by decide) rfl (by decide) (by decide) (fun _ => rfl) (by decide) rfl (Nat.le_of_ble_eq_true rfl) ⟨by decide, by decide⟩ dX2_print_69 (fun r u hr_6 => ?_)
        subst hr_6
        refine kw_put (T := TX2) (ty := .long) C 0 2 (kSheet b (prL p1 ce (q.testBit 0) dn, prL p2 ce (q.testBit 1) dn, prL p3 ce (q.testBit 2) dn)) rfl rfl (by decide) (fun w h => mT (fwX2 w h)) tyX2 tyX2_ok nmX2 rfl (mT wd_75) rfl (by decide +kernel) rfl rfl (Nat.le_of_ble_eq_true rfl) dX2_print_72 rfl ?_
        refine kR_v C () dX2_print_75 ?_ rfl
        first | rfl | trivial | (simp; done) | omega
      refine kw_if_eq_N (tgt := 66) C (by exact Nat.lt_of_le_of_lt Nat.and_le_left (by omega)) dX2_print_59 (by decide) (fun c_59 => ?_) (fun c_59 => ?_)
      ·
        refine kw_iconst (v := nI 0) C dX2_print_66 (by decide) ?_
        refine KW.loc (lv' := [(0, .ref b), (1, .long ce), (3, .int (nI q)), (4, .int (bI dn))]) [0, 1, 2, 3] rfl ?_
        refine KW.ass (congrArg (fun zz => ([.int zz, .long ce, .long p3, .ref b] : List Value)) (show (nI 0) = (bI (q.testBit 2)) from by first | exact bt_0 2 c_59 | exact bt_1 2 c_59)) ?_
        exact J67_5 ()
      ·
        refine kw_iconst (v := nI 1) C dX2_print_62 (by decide) ?_
        refine kw_goto (tgt := 67) C dX2_print_63 (by decide) ?_
        refine KW.loc (lv' := [(0, .ref b), (1, .long ce), (3, .int (nI q)), (4, .int (bI dn))]) [0, 1, 2, 3] rfl ?_
        refine KW.ass (congrArg (fun zz => ([.int zz, .long ce, .long p3, .ref b] : List Value)) (show (nI 1) = (bI (q.testBit 2)) from by first | exact bt_0 2 c_59 | exact bt_1 2 c_59)) ?_
        exact J67_5 ()
    refine kw_if_eq_N (tgt := 41) C (by exact Nat.lt_of_le_of_lt Nat.and_le_left (by omega)) dX2_print_34 (by decide) (fun c_34 => ?_) (fun c_34 => ?_)
    ·
      refine kw_iconst (v := nI 0) C dX2_print_41 (by decide) ?_
      refine KW.loc (lv' := [(0, .ref b), (1, .long ce), (3, .int (nI q)), (4, .int (bI dn))]) [0, 1, 2, 3] rfl ?_
      refine KW.ass (congrArg (fun zz => ([.int zz, .long ce, .long p2, .ref b] : List Value)) (show (nI 0) = (bI (q.testBit 1)) from by first | exact bt_0 1 c_34 | exact bt_1 1 c_34)) ?_
      exact J42_3 ()
    ·
      refine kw_iconst (v := nI 1) C dX2_print_37 (by decide) ?_
      refine kw_goto (tgt := 42) C dX2_print_38 (by decide) ?_
      refine KW.loc (lv' := [(0, .ref b), (1, .long ce), (3, .int (nI q)), (4, .int (bI dn))]) [0, 1, 2, 3] rfl ?_
      refine KW.ass (congrArg (fun zz => ([.int zz, .long ce, .long p2, .ref b] : List Value)) (show (nI 1) = (bI (q.testBit 1)) from by first | exact bt_0 1 c_34 | exact bt_1 1 c_34)) ?_
      exact J42_3 ()
  refine kw_if_eq_N (tgt := 16) C (by exact Nat.lt_of_le_of_lt Nat.and_le_left (by omega)) dX2_print_9 (by decide) (fun c_9 => ?_) (fun c_9 => ?_)
  ·
    refine kw_iconst (v := nI 0) C dX2_print_16 (by decide) ?_
    refine KW.loc (lv' := [(0, .ref b), (1, .long ce), (3, .int (nI q)), (4, .int (bI dn))]) [0, 1, 2, 3] rfl ?_
    refine KW.ass (congrArg (fun zz => ([.int zz, .long ce, .long p1, .ref b] : List Value)) (show (nI 0) = (bI (q.testBit 0)) from by first | exact bt_0 0 c_9 | exact bt_1 0 c_9)) ?_
    exact J17_1 ()
  ·
    refine kw_iconst (v := nI 1) C dX2_print_12 (by decide) ?_
    refine kw_goto (tgt := 17) C dX2_print_13 (by decide) ?_
    refine KW.loc (lv' := [(0, .ref b), (1, .long ce), (3, .int (nI q)), (4, .int (bI dn))]) [0, 1, 2, 3] rfl ?_
    refine KW.ass (congrArg (fun zz => ([.int zz, .long ce, .long p1, .ref b] : List Value)) (show (nI 1) = (bI (q.testBit 0)) from by first | exact bt_0 0 c_9 | exact bt_1 0 c_9)) ?_
    exact J17_1 ()

set_option maxHeartbeats 4000000 in
set_option maxRecDepth 100000 in
theorem c_X2_wipe (l : Launch) (G : va_G) (y : Nat → ClassId) (t : Nat) (b : Nat) (p1 : Int64) (p2 : Int64) (p3 : Int64) (sz : Nat) : Met l yX2_wipe (Cond.code yX2_wipe cX2_wipe 1 (none) :: TG) ({ frames := 0, cells := 0, slots := 0, locals := 0 }) (va_Pc [.ref b] (PR G y t (kSheet b (p1, p2, p3)) sz)) (va_Qv (fun (u : Unit) => True) (fun (u : Unit) t => PO G (va_A (kSheet b (p1, p2, p3)) sz) (kSheet b (0, 0, 0)) t) (va_A (kSheet b (p1, p2, p3)) sz)) 0 0 (va_A (kSheet b (p1, p2, p3)) sz) := by
  refine kMet (cc := cX2_wipe) (maxL := 1) (ret := none) (Qc := fun A => va_Qv (fun (u : Unit) => True) (fun (u : Unit) t => PO G A (kSheet b (0, 0, 0)) t) A) (by decide) rfl (Nat.le_of_ble_eq_true rfl) (fun p e s m below meth c A hsz C hin => ?_)
  refine KW.loc (lv' := [(0, .ref b)]) [0] rfl ?_
  refine kw_aload_n C 0 dX2_wipe_0 rfl ?_
  refine kw_lconst (v := 0) C dX2_wipe_1 (by decide) ?_
  refine kw_put (T := TX2) (ty := .long) C 0 0 (kSheet b (0, p2, p3)) rfl rfl (by decide) (fun w h => mT (fwX2 w h)) tyX2 tyX2_ok nmX2 rfl (mT wd_73) rfl (by decide +kernel) rfl rfl (Nat.le_of_ble_eq_true rfl) dX2_wipe_2 rfl ?_
  refine kw_aload_n C 0 dX2_wipe_5 rfl ?_
  refine kw_lconst (v := 0) C dX2_wipe_6 (by decide) ?_
  refine kw_put (T := TX2) (ty := .long) C 0 1 (kSheet b (0, 0, p3)) rfl rfl (by decide) (fun w h => mT (fwX2 w h)) tyX2 tyX2_ok nmX2 rfl (mT wd_74) rfl (by decide +kernel) rfl rfl (Nat.le_of_ble_eq_true rfl) dX2_wipe_7 rfl ?_
  refine kw_aload_n C 0 dX2_wipe_10 rfl ?_
  refine kw_lconst (v := 0) C dX2_wipe_11 (by decide) ?_
  refine kw_put (T := TX2) (ty := .long) C 0 2 (kSheet b (0, 0, 0)) rfl rfl (by decide) (fun w h => mT (fwX2 w h)) tyX2 tyX2_ok nmX2 rfl (mT wd_75) rfl (by decide +kernel) rfl rfl (Nat.le_of_ble_eq_true rfl) dX2_wipe_12 rfl ?_
  refine kR_v C () dX2_wipe_15 ?_ rfl
  first | rfl | trivial | (simp; done) | omega

set_option maxHeartbeats 4000000 in
set_option maxRecDepth 100000 in
theorem c_X2_copy (l : Launch) (G : va_G) (y : Nat → ClassId) (t : Nat) (b : Nat) (p1 : Int64) (p2 : Int64) (p3 : Int64) (b2 : Nat) (q1 : Int64) (q2 : Int64) (q3 : Int64) (sz : Nat) : Met l yX2_copy (Cond.code yX2_copy cX2_copy 2 (none) :: TG) ({ frames := 0, cells := 0, slots := 0, locals := 0 }) (va_Pc [.ref b, .ref b2] (PR G y t (kSheet b (p1, p2, p3) ++ kSheet b2 (q1, q2, q3)) sz)) (va_Qv (fun (u : Unit) => True) (fun (u : Unit) t => PO G (va_A (kSheet b (p1, p2, p3) ++ kSheet b2 (q1, q2, q3)) sz) (kSheet b (q1, q2, q3) ++ kSheet b2 (q1, q2, q3)) t) (va_A (kSheet b (p1, p2, p3) ++ kSheet b2 (q1, q2, q3)) sz)) 0 0 (va_A (kSheet b (p1, p2, p3) ++ kSheet b2 (q1, q2, q3)) sz) := by
  refine kMet (cc := cX2_copy) (maxL := 2) (ret := none) (Qc := fun A => va_Qv (fun (u : Unit) => True) (fun (u : Unit) t => PO G A (kSheet b (q1, q2, q3) ++ kSheet b2 (q1, q2, q3)) t) A) (by decide) rfl (Nat.le_of_ble_eq_true rfl) (fun p e s m below meth c A hsz C hin => ?_)
  refine KW.loc (lv' := [(0, .ref b), (1, .ref b2)]) [0, 1] rfl ?_
  refine kw_aload_n C 0 dX2_copy_0 rfl ?_
  refine kw_aload_n C 1 dX2_copy_1 rfl ?_
  refine kw_get (v := .long q1) (T := TX2) C 1 0 rfl rfl (by decide) (fun w h => mT (fwX2 w h)) rfl (mT wd_73) rfl dX2_copy_2 ?_
  refine kw_put (T := TX2) (ty := .long) C 0 0 (kSheet b (q1, p2, p3) ++ kSheet b2 (q1, q2, q3)) rfl rfl (by decide) (fun w h => mT (fwX2 w h)) tyX2 tyX2_ok nmX2 rfl (mT wd_73) rfl (by decide +kernel) rfl rfl (Nat.le_of_ble_eq_true rfl) dX2_copy_5 rfl ?_
  refine kw_aload_n C 0 dX2_copy_8 rfl ?_
  refine kw_aload_n C 1 dX2_copy_9 rfl ?_
  refine kw_get (v := .long q2) (T := TX2) C 1 1 rfl rfl (by decide) (fun w h => mT (fwX2 w h)) rfl (mT wd_74) rfl dX2_copy_10 ?_
  refine kw_put (T := TX2) (ty := .long) C 0 1 (kSheet b (q1, q2, p3) ++ kSheet b2 (q1, q2, q3)) rfl rfl (by decide) (fun w h => mT (fwX2 w h)) tyX2 tyX2_ok nmX2 rfl (mT wd_74) rfl (by decide +kernel) rfl rfl (Nat.le_of_ble_eq_true rfl) dX2_copy_13 rfl ?_
  refine kw_aload_n C 0 dX2_copy_16 rfl ?_
  refine kw_aload_n C 1 dX2_copy_17 rfl ?_
  refine kw_get (v := .long q3) (T := TX2) C 1 2 rfl rfl (by decide) (fun w h => mT (fwX2 w h)) rfl (mT wd_75) rfl dX2_copy_18 ?_
  refine kw_put (T := TX2) (ty := .long) C 0 2 (kSheet b (q1, q2, q3) ++ kSheet b2 (q1, q2, q3)) rfl rfl (by decide) (fun w h => mT (fwX2 w h)) tyX2 tyX2_ok nmX2 rfl (mT wd_75) rfl (by decide +kernel) rfl rfl (Nat.le_of_ble_eq_true rfl) dX2_copy_21 rfl ?_
  refine kR_v C () dX2_copy_24 ?_ rfl
  first | rfl | trivial | (simp; done) | omega

set_option maxHeartbeats 4000000 in
set_option maxRecDepth 100000 in
theorem c_X2_at (l : Launch) (G : va_G) (y : Nat → ClassId) (t : Nat) (b : Nat) (p1 : Int64) (p2 : Int64) (p3 : Int64) (x : Nat) (z : Nat) (sz : Nat) : Met l yX2_at (Cond.code yX2_at cX2_at 5 (some .int) :: TG) ({ frames := 1, cells := 0, slots := 0, locals := 21 }) (va_Pc [.ref b, .int (nI x), .int (nI z)] (PR G y t (kSheet b (p1, p2, p3)) sz)) (va_Qi (fun (r : Int32) (u : Unit) => r = (nI (atL p1 p2 p3 (8 * z + x)))) (fun (u : Unit) t => PO G (va_A (kSheet b (p1, p2, p3)) sz) (kSheet b (p1, p2, p3)) t) (va_A (kSheet b (p1, p2, p3)) sz)) 0 0 (va_A (kSheet b (p1, p2, p3)) sz) := by
  refine kMet (cc := cX2_at) (maxL := 5) (ret := some .int) (Qc := fun A => va_Qi (fun (r : Int32) (u : Unit) => r = (nI (atL p1 p2 p3 (8 * z + x)))) (fun (u : Unit) t => PO G A (kSheet b (p1, p2, p3)) t) A) (by decide) rfl (Nat.le_of_ble_eq_true rfl) (fun p e s m below meth c A hsz C hin => ?_)
  refine KW.loc (lv' := [(0, .ref b), (1, .int (nI x)), (2, .int (nI z))]) [0, 1, 2] rfl ?_
  refine kw_iload_n C 1 dX2_at_0 rfl ?_
  refine kw_iload_n C 2 dX2_at_1 rfl ?_
  refine kSN_l (As := [.int (nI x), .int (nI z)]) (rest := []) (ws' := fun (u : Unit) => kSheet b (p1, p2, p3)) C (c_X6_cellBit l G y t x z) ⟨va_cnB 2 C.2.2.2.2.1 (goodTG cT wd_295) rfl rfl rfl (C.2.2.2.2.2.2.2.2.2.1.2 _ (List.mem_of_getElem? (i := 10) rfl)) (C.2.2.2.2.1 _ (mT wd_41)) (by decide +kernel) ⟨by decide, by decide⟩, C.2.2.2.2.1 _ (mT wd_294), trivial⟩ [] [0] [0] rfl (by decide) rfl (by decide) (by decide) (fun _ => rfl) (by decide) rfl (Nat.le_of_ble_eq_true rfl) ⟨by decide, by decide⟩ dX2_at_2 (fun r u hr_1 => ?_)
  subst hr_1
  refine kw_lstore_n C [(3, .long (cbL (8 * z + x))), (0, .ref b), (1, .int (nI x)), (2, .int (nI z))] dX2_at_5 rfl (by decide) rfl ?_
  refine kw_aload_n C 1 dX2_at_6 rfl ?_
  refine kw_get (v := .long p1) (T := TX2) C 0 0 rfl rfl (by decide) (fun w h => mT (fwX2 w h)) rfl (mT wd_73) rfl dX2_at_7 ?_
  refine kw_lload_n C 0 dX2_at_10 rfl ?_
  refine kw_land C dX2_at_11 ?_
  refine kw_lconst (v := 0) C dX2_at_12 (by decide) ?_
  refine kw_lcmp C dX2_at_13 ?_
  have J22_2 : ∀ (_ : Unit), KW p l e ({ frames := 1, cells := 0, slots := 0, locals := 21 }) s m ([.ref b, .int (nI x), .int (nI z)] : List Value).toArray below meth c 0 0 (MQ below (va_Qi (fun (r : Int32) (u : Unit) => r = (nI (atL p1 p2 p3 (8 * z + x)))) (fun (u : Unit) t => PO G A (kSheet b (p1, p2, p3)) t) A) ([.ref b, .int (nI x), .int (nI z)] : List Value).toArray s 0 0 A) G A 5 (kSheet b (p1, p2, p3)) [(3, .long (cbL (8 * z + x))), (0, .ref b), (1, .int (nI x)), (2, .int (nI z))] 22 [.int (nI (if tl p1 (8 * z + x) then 1 else 0))] := by
    intro _
    refine kw_aload_n C 1 dX2_at_22 rfl ?_
    refine kw_get (v := .long p2) (T := TX2) C 0 1 rfl rfl (by decide) (fun w h => mT (fwX2 w h)) rfl (mT wd_74) rfl dX2_at_23 ?_
    refine kw_lload_n C 0 dX2_at_26 rfl ?_
    refine kw_land C dX2_at_27 ?_
    refine kw_lconst (v := 0) C dX2_at_28 (by decide) ?_
    refine kw_lcmp C dX2_at_29 ?_
    have J38_3 : ∀ (_ : Unit), KW p l e ({ frames := 1, cells := 0, slots := 0, locals := 21 }) s m ([.ref b, .int (nI x), .int (nI z)] : List Value).toArray below meth c 0 0 (MQ below (va_Qi (fun (r : Int32) (u : Unit) => r = (nI (atL p1 p2 p3 (8 * z + x)))) (fun (u : Unit) t => PO G A (kSheet b (p1, p2, p3)) t) A) ([.ref b, .int (nI x), .int (nI z)] : List Value).toArray s 0 0 A) G A 5 (kSheet b (p1, p2, p3)) [(3, .long (cbL (8 * z + x))), (0, .ref b), (1, .int (nI x)), (2, .int (nI z))] 38 [.int (nI (if tl p2 (8 * z + x) then 2 else 0)), .int (nI (if tl p1 (8 * z + x) then 1 else 0))] := by
      intro _
      refine kw_ior C dX2_at_38 (kw_top (n_or _ _) ?_)
      refine kw_aload_n C 1 dX2_at_39 rfl ?_
      refine kw_get (v := .long p3) (T := TX2) C 0 2 rfl rfl (by decide) (fun w h => mT (fwX2 w h)) rfl (mT wd_75) rfl dX2_at_40 ?_
      refine kw_lload_n C 0 dX2_at_43 rfl ?_
      refine kw_land C dX2_at_44 ?_
      refine kw_lconst (v := 0) C dX2_at_45 (by decide) ?_
      refine kw_lcmp C dX2_at_46 ?_
      have J55_4 : ∀ (_ : Unit), KW p l e ({ frames := 1, cells := 0, slots := 0, locals := 21 }) s m ([.ref b, .int (nI x), .int (nI z)] : List Value).toArray below meth c 0 0 (MQ below (va_Qi (fun (r : Int32) (u : Unit) => r = (nI (atL p1 p2 p3 (8 * z + x)))) (fun (u : Unit) t => PO G A (kSheet b (p1, p2, p3)) t) A) ([.ref b, .int (nI x), .int (nI z)] : List Value).toArray s 0 0 A) G A 5 (kSheet b (p1, p2, p3)) [(3, .long (cbL (8 * z + x))), (0, .ref b), (1, .int (nI x)), (2, .int (nI z))] 55 [.int (nI (if tl p3 (8 * z + x) then 4 else 0)), .int (nI ((if tl p1 (8 * z + x) then 1 else 0) ||| (if tl p2 (8 * z + x) then 2 else 0)))] := by
        intro _
        refine kw_ior C dX2_at_55 (kw_top (n_or _ _) ?_)
        refine kR_i C () dX2_at_56 ?_ rfl
        rfl
      refine kw_if_eq_L (tgt := 54) C dX2_at_47 (by decide) (fun c_47 => ?_) (fun c_47 => ?_)
      ·
        refine kw_iconst (v := nI 0) C dX2_at_54 (by decide) ?_
        refine KW.loc (lv' := [(3, .long (cbL (8 * z + x))), (0, .ref b), (1, .int (nI x)), (2, .int (nI z))]) [0, 1, 2, 3] rfl ?_
        refine KW.ass (congrArg (fun zz => ([.int zz, .int (nI ((if tl p1 (8 * z + x) then 1 else 0) ||| (if tl p2 (8 * z + x) then 2 else 0)))] : List Value)) (show (nI 0) = (nI (if tl p3 (8 * z + x) then 4 else 0)) from by simp [tl, c_47])) ?_
        exact J55_4 ()
      ·
        refine kw_iconst (v := nI 4) C dX2_at_50 (by decide) ?_
        refine kw_goto (tgt := 55) C dX2_at_51 (by decide) ?_
        refine KW.loc (lv' := [(3, .long (cbL (8 * z + x))), (0, .ref b), (1, .int (nI x)), (2, .int (nI z))]) [0, 1, 2, 3] rfl ?_
        refine KW.ass (congrArg (fun zz => ([.int zz, .int (nI ((if tl p1 (8 * z + x) then 1 else 0) ||| (if tl p2 (8 * z + x) then 2 else 0)))] : List Value)) (show (nI 4) = (nI (if tl p3 (8 * z + x) then 4 else 0)) from by simp [tl, c_47])) ?_
        exact J55_4 ()
    refine kw_if_eq_L (tgt := 37) C dX2_at_30 (by decide) (fun c_30 => ?_) (fun c_30 => ?_)
    ·
      refine kw_iconst (v := nI 0) C dX2_at_37 (by decide) ?_
      refine KW.loc (lv' := [(3, .long (cbL (8 * z + x))), (0, .ref b), (1, .int (nI x)), (2, .int (nI z))]) [0, 1, 2, 3] rfl ?_
      refine KW.ass (congrArg (fun zz => ([.int zz, .int (nI (if tl p1 (8 * z + x) then 1 else 0))] : List Value)) (show (nI 0) = (nI (if tl p2 (8 * z + x) then 2 else 0)) from by simp [tl, c_30])) ?_
      exact J38_3 ()
    ·
      refine kw_iconst (v := nI 2) C dX2_at_33 (by decide) ?_
      refine kw_goto (tgt := 38) C dX2_at_34 (by decide) ?_
      refine KW.loc (lv' := [(3, .long (cbL (8 * z + x))), (0, .ref b), (1, .int (nI x)), (2, .int (nI z))]) [0, 1, 2, 3] rfl ?_
      refine KW.ass (congrArg (fun zz => ([.int zz, .int (nI (if tl p1 (8 * z + x) then 1 else 0))] : List Value)) (show (nI 2) = (nI (if tl p2 (8 * z + x) then 2 else 0)) from by simp [tl, c_30])) ?_
      exact J38_3 ()
  refine kw_if_eq_L (tgt := 21) C dX2_at_14 (by decide) (fun c_14 => ?_) (fun c_14 => ?_)
  ·
    refine kw_iconst (v := nI 0) C dX2_at_21 (by decide) ?_
    refine KW.loc (lv' := [(3, .long (cbL (8 * z + x))), (0, .ref b), (1, .int (nI x)), (2, .int (nI z))]) [0, 1, 2, 3] rfl ?_
    refine KW.ass (congrArg (fun zz => ([.int zz] : List Value)) (show (nI 0) = (nI (if tl p1 (8 * z + x) then 1 else 0)) from by simp [tl, c_14])) ?_
    exact J22_2 ()
  ·
    refine kw_iconst (v := nI 1) C dX2_at_17 (by decide) ?_
    refine kw_goto (tgt := 22) C dX2_at_18 (by decide) ?_
    refine KW.loc (lv' := [(3, .long (cbL (8 * z + x))), (0, .ref b), (1, .int (nI x)), (2, .int (nI z))]) [0, 1, 2, 3] rfl ?_
    refine KW.ass (congrArg (fun zz => ([.int zz] : List Value)) (show (nI 1) = (nI (if tl p1 (8 * z + x) then 1 else 0)) from by simp [tl, c_14])) ?_
    exact J22_2 ()

set_option maxHeartbeats 4000000 in
set_option maxRecDepth 100000 in
theorem c_X2_cellsOf (l : Launch) (G : va_G) (y : Nat → ClassId) (t : Nat) (b : Nat) (p1 : Int64) (p2 : Int64) (p3 : Int64) (q : Nat) (hq : q < 8) (sz : Nat) : Met l yX2_cellsOf (Cond.code yX2_cellsOf cX2_cellsOf 2 (some .long) :: TG) ({ frames := 0, cells := 0, slots := 0, locals := 0 }) (va_Pc [.ref b, .int (nI q)] (PR G y t (kSheet b (p1, p2, p3)) sz)) (va_Ql (fun (r : Int64) (u : Unit) => r = (ofL p1 p2 p3 q)) (fun (u : Unit) t => PO G (va_A (kSheet b (p1, p2, p3)) sz) (kSheet b (p1, p2, p3)) t) (va_A (kSheet b (p1, p2, p3)) sz)) 0 0 (va_A (kSheet b (p1, p2, p3)) sz) := by
  refine kMet (cc := cX2_cellsOf) (maxL := 2) (ret := some .long) (Qc := fun A => va_Ql (fun (r : Int64) (u : Unit) => r = (ofL p1 p2 p3 q)) (fun (u : Unit) t => PO G A (kSheet b (p1, p2, p3)) t) A) (by decide) rfl (Nat.le_of_ble_eq_true rfl) (fun p e s m below meth c A hsz C hin => ?_)
  refine KW.loc (lv' := [(0, .ref b), (1, .int (nI q))]) [0, 1] rfl ?_
  refine kw_iload_n C 1 dX2_cellsOf_0 rfl ?_
  refine kw_iconst (v := nI 1) C dX2_cellsOf_1 (by decide) ?_
  refine kw_iand C dX2_cellsOf_2 (kw_top (n_and _ _) ?_)
  have J21_1 : ∀ (_ : Unit), KW p l e ({ frames := 0, cells := 0, slots := 0, locals := 0 }) s m ([.ref b, .int (nI q)] : List Value).toArray below meth c 0 0 (MQ below (va_Ql (fun (r : Int64) (u : Unit) => r = (ofL p1 p2 p3 q)) (fun (u : Unit) t => PO G A (kSheet b (p1, p2, p3)) t) A) ([.ref b, .int (nI q)] : List Value).toArray s 0 0 A) G A 2 (kSheet b (p1, p2, p3)) [(0, .ref b), (1, .int (nI q))] 21 [.long (if q.testBit 0 then p1 else p1 ^^^ (-1))] := by
    intro _
    refine kw_iload_n C 1 dX2_cellsOf_21 rfl ?_
    refine kw_iconst (v := nI 2) C dX2_cellsOf_22 (by decide) ?_
    refine kw_iand C dX2_cellsOf_23 (kw_top (n_and _ _) ?_)
    have J42_2 : ∀ (_ : Unit), KW p l e ({ frames := 0, cells := 0, slots := 0, locals := 0 }) s m ([.ref b, .int (nI q)] : List Value).toArray below meth c 0 0 (MQ below (va_Ql (fun (r : Int64) (u : Unit) => r = (ofL p1 p2 p3 q)) (fun (u : Unit) t => PO G A (kSheet b (p1, p2, p3)) t) A) ([.ref b, .int (nI q)] : List Value).toArray s 0 0 A) G A 2 (kSheet b (p1, p2, p3)) [(0, .ref b), (1, .int (nI q))] 42 [.long (if q.testBit 1 then p2 else p2 ^^^ (-1)), .long (if q.testBit 0 then p1 else p1 ^^^ (-1))] := by
      intro _
      refine kw_land C dX2_cellsOf_42 ?_
      refine kw_iload_n C 1 dX2_cellsOf_43 rfl ?_
      refine kw_iconst (v := nI 4) C dX2_cellsOf_44 (by decide) ?_
      refine kw_iand C dX2_cellsOf_45 (kw_top (n_and _ _) ?_)
      have J64_3 : ∀ (_ : Unit), KW p l e ({ frames := 0, cells := 0, slots := 0, locals := 0 }) s m ([.ref b, .int (nI q)] : List Value).toArray below meth c 0 0 (MQ below (va_Ql (fun (r : Int64) (u : Unit) => r = (ofL p1 p2 p3 q)) (fun (u : Unit) t => PO G A (kSheet b (p1, p2, p3)) t) A) ([.ref b, .int (nI q)] : List Value).toArray s 0 0 A) G A 2 (kSheet b (p1, p2, p3)) [(0, .ref b), (1, .int (nI q))] 64 [.long (if q.testBit 2 then p3 else p3 ^^^ (-1)), .long ((if q.testBit 0 then p1 else p1 ^^^ (-1)) &&& (if q.testBit 1 then p2 else p2 ^^^ (-1)))] := by
        intro _
        refine kw_land C dX2_cellsOf_64 ?_
        refine kR_l C () dX2_cellsOf_65 ?_ rfl
        rfl
      refine kw_if_eq_N (tgt := 56) C (by exact Nat.lt_of_le_of_lt Nat.and_le_left (by omega)) dX2_cellsOf_46 (by decide) (fun c_46 => ?_) (fun c_46 => ?_)
      ·
        refine kw_aload_n C 0 dX2_cellsOf_56 rfl ?_
        refine kw_get (v := .long p3) (T := TX2) C 0 2 rfl rfl (by decide) (fun w h => mT (fwX2 w h)) rfl (mT wd_75) rfl dX2_cellsOf_57 ?_
        refine kw_ldc2 (v := (-1)) C (mT wd_303) dX2_cellsOf_60 ?_
        refine kw_lxor C dX2_cellsOf_63 ?_
        refine KW.loc (lv' := [(0, .ref b), (1, .int (nI q))]) [0, 1] rfl ?_
        refine KW.ass (congrArg (fun zz => ([.long zz, .long ((if q.testBit 0 then p1 else p1 ^^^ (-1)) &&& (if q.testBit 1 then p2 else p2 ^^^ (-1)))] : List Value)) (show (p3 ^^^ (-1)) = (if q.testBit 2 then p3 else p3 ^^^ (-1)) from by first | (rw [tb_f 2 c_46]; rfl) | (rw [tb_t 2 c_46]; rfl))) ?_
        exact J64_3 ()
      ·
        refine kw_aload_n C 0 dX2_cellsOf_49 rfl ?_
        refine kw_get (v := .long p3) (T := TX2) C 0 2 rfl rfl (by decide) (fun w h => mT (fwX2 w h)) rfl (mT wd_75) rfl dX2_cellsOf_50 ?_
        refine kw_goto (tgt := 64) C dX2_cellsOf_53 (by decide) ?_
        refine KW.loc (lv' := [(0, .ref b), (1, .int (nI q))]) [0, 1] rfl ?_
        refine KW.ass (congrArg (fun zz => ([.long zz, .long ((if q.testBit 0 then p1 else p1 ^^^ (-1)) &&& (if q.testBit 1 then p2 else p2 ^^^ (-1)))] : List Value)) (show p3 = (if q.testBit 2 then p3 else p3 ^^^ (-1)) from by first | (rw [tb_f 2 c_46]; rfl) | (rw [tb_t 2 c_46]; rfl))) ?_
        exact J64_3 ()
    refine kw_if_eq_N (tgt := 34) C (by exact Nat.lt_of_le_of_lt Nat.and_le_left (by omega)) dX2_cellsOf_24 (by decide) (fun c_24 => ?_) (fun c_24 => ?_)
    ·
      refine kw_aload_n C 0 dX2_cellsOf_34 rfl ?_
      refine kw_get (v := .long p2) (T := TX2) C 0 1 rfl rfl (by decide) (fun w h => mT (fwX2 w h)) rfl (mT wd_74) rfl dX2_cellsOf_35 ?_
      refine kw_ldc2 (v := (-1)) C (mT wd_303) dX2_cellsOf_38 ?_
      refine kw_lxor C dX2_cellsOf_41 ?_
      refine KW.loc (lv' := [(0, .ref b), (1, .int (nI q))]) [0, 1] rfl ?_
      refine KW.ass (congrArg (fun zz => ([.long zz, .long (if q.testBit 0 then p1 else p1 ^^^ (-1))] : List Value)) (show (p2 ^^^ (-1)) = (if q.testBit 1 then p2 else p2 ^^^ (-1)) from by first | (rw [tb_f 1 c_24]; rfl) | (rw [tb_t 1 c_24]; rfl))) ?_
      exact J42_2 ()
    ·
      refine kw_aload_n C 0 dX2_cellsOf_27 rfl ?_
      refine kw_get (v := .long p2) (T := TX2) C 0 1 rfl rfl (by decide) (fun w h => mT (fwX2 w h)) rfl (mT wd_74) rfl dX2_cellsOf_28 ?_
      refine kw_goto (tgt := 42) C dX2_cellsOf_31 (by decide) ?_
      refine KW.loc (lv' := [(0, .ref b), (1, .int (nI q))]) [0, 1] rfl ?_
      refine KW.ass (congrArg (fun zz => ([.long zz, .long (if q.testBit 0 then p1 else p1 ^^^ (-1))] : List Value)) (show p2 = (if q.testBit 1 then p2 else p2 ^^^ (-1)) from by first | (rw [tb_f 1 c_24]; rfl) | (rw [tb_t 1 c_24]; rfl))) ?_
      exact J42_2 ()
  refine kw_if_eq_N (tgt := 13) C (by exact Nat.lt_of_le_of_lt Nat.and_le_left (by omega)) dX2_cellsOf_3 (by decide) (fun c_3 => ?_) (fun c_3 => ?_)
  ·
    refine kw_aload_n C 0 dX2_cellsOf_13 rfl ?_
    refine kw_get (v := .long p1) (T := TX2) C 0 0 rfl rfl (by decide) (fun w h => mT (fwX2 w h)) rfl (mT wd_73) rfl dX2_cellsOf_14 ?_
    refine kw_ldc2 (v := (-1)) C (mT wd_303) dX2_cellsOf_17 ?_
    refine kw_lxor C dX2_cellsOf_20 ?_
    refine KW.loc (lv' := [(0, .ref b), (1, .int (nI q))]) [0, 1] rfl ?_
    refine KW.ass (congrArg (fun zz => ([.long zz] : List Value)) (show (p1 ^^^ (-1)) = (if q.testBit 0 then p1 else p1 ^^^ (-1)) from by first | (rw [tb_f 0 c_3]; rfl) | (rw [tb_t 0 c_3]; rfl))) ?_
    exact J21_1 ()
  ·
    refine kw_aload_n C 0 dX2_cellsOf_6 rfl ?_
    refine kw_get (v := .long p1) (T := TX2) C 0 0 rfl rfl (by decide) (fun w h => mT (fwX2 w h)) rfl (mT wd_73) rfl dX2_cellsOf_7 ?_
    refine kw_goto (tgt := 21) C dX2_cellsOf_10 (by decide) ?_
    refine KW.loc (lv' := [(0, .ref b), (1, .int (nI q))]) [0, 1] rfl ?_
    refine KW.ass (congrArg (fun zz => ([.long zz] : List Value)) (show p1 = (if q.testBit 0 then p1 else p1 ^^^ (-1)) from by first | (rw [tb_f 0 c_3]; rfl) | (rw [tb_t 0 c_3]; rfl))) ?_
    exact J21_1 ()

set_option maxHeartbeats 4000000 in
set_option maxRecDepth 100000 in
theorem c_X2_unlike (l : Launch) (G : va_G) (y : Nat → ClassId) (t : Nat) (b : Nat) (p1 : Int64) (p2 : Int64) (p3 : Int64) (b2 : Nat) (q1 : Int64) (q2 : Int64) (q3 : Int64) (sz : Nat) : Met l yX2_unlike (Cond.code yX2_unlike cX2_unlike 2 (some .long) :: TG) ({ frames := 0, cells := 0, slots := 0, locals := 0 }) (va_Pc [.ref b, .ref b2] (PR G y t (kSheet b (p1, p2, p3) ++ kSheet b2 (q1, q2, q3)) sz)) (va_Ql (fun (r : Int64) (u : Unit) => r = (((p1 ^^^ q1) ||| (p2 ^^^ q2)) ||| (p3 ^^^ q3))) (fun (u : Unit) t => PO G (va_A (kSheet b (p1, p2, p3) ++ kSheet b2 (q1, q2, q3)) sz) (kSheet b (p1, p2, p3) ++ kSheet b2 (q1, q2, q3)) t) (va_A (kSheet b (p1, p2, p3) ++ kSheet b2 (q1, q2, q3)) sz)) 0 0 (va_A (kSheet b (p1, p2, p3) ++ kSheet b2 (q1, q2, q3)) sz) := by
  refine kMet (cc := cX2_unlike) (maxL := 2) (ret := some .long) (Qc := fun A => va_Ql (fun (r : Int64) (u : Unit) => r = (((p1 ^^^ q1) ||| (p2 ^^^ q2)) ||| (p3 ^^^ q3))) (fun (u : Unit) t => PO G A (kSheet b (p1, p2, p3) ++ kSheet b2 (q1, q2, q3)) t) A) (by decide) rfl (Nat.le_of_ble_eq_true rfl) (fun p e s m below meth c A hsz C hin => ?_)
  refine KW.loc (lv' := [(0, .ref b), (1, .ref b2)]) [0, 1] rfl ?_
  refine kw_aload_n C 0 dX2_unlike_0 rfl ?_
  refine kw_get (v := .long p1) (T := TX2) C 0 0 rfl rfl (by decide) (fun w h => mT (fwX2 w h)) rfl (mT wd_73) rfl dX2_unlike_1 ?_
  refine kw_aload_n C 1 dX2_unlike_4 rfl ?_
  refine kw_get (v := .long q1) (T := TX2) C 1 0 rfl rfl (by decide) (fun w h => mT (fwX2 w h)) rfl (mT wd_73) rfl dX2_unlike_5 ?_
  refine kw_lxor C dX2_unlike_8 ?_
  refine kw_aload_n C 0 dX2_unlike_9 rfl ?_
  refine kw_get (v := .long p2) (T := TX2) C 0 1 rfl rfl (by decide) (fun w h => mT (fwX2 w h)) rfl (mT wd_74) rfl dX2_unlike_10 ?_
  refine kw_aload_n C 1 dX2_unlike_13 rfl ?_
  refine kw_get (v := .long q2) (T := TX2) C 1 1 rfl rfl (by decide) (fun w h => mT (fwX2 w h)) rfl (mT wd_74) rfl dX2_unlike_14 ?_
  refine kw_lxor C dX2_unlike_17 ?_
  refine kw_lor C dX2_unlike_18 ?_
  refine kw_aload_n C 0 dX2_unlike_19 rfl ?_
  refine kw_get (v := .long p3) (T := TX2) C 0 2 rfl rfl (by decide) (fun w h => mT (fwX2 w h)) rfl (mT wd_75) rfl dX2_unlike_20 ?_
  refine kw_aload_n C 1 dX2_unlike_23 rfl ?_
  refine kw_get (v := .long q3) (T := TX2) C 1 2 rfl rfl (by decide) (fun w h => mT (fwX2 w h)) rfl (mT wd_75) rfl dX2_unlike_24 ?_
  refine kw_lxor C dX2_unlike_27 ?_
  refine kw_lor C dX2_unlike_28 ?_
  refine kR_l C () dX2_unlike_29 ?_ rfl
  first | rfl | trivial | (simp; done) | omega

set_option maxHeartbeats 4000000 in
set_option maxRecDepth 100000 in
theorem c_X5_hasInk (l : Launch) (G : va_G) (y : Nat → ClassId) (t : Nat) (a : Nat → Nat) (W : Nat) (H : Nat) (N : Nat) (D : Nat) (p1 : Int64) (p2 : Int64) (p3 : Int64) (col : Nat → Int32) (od : Nat → Int32) (blk : Nat → Int64) (slp : Nat → Int32) (i : Int32) (hN : N ≤ 6) (sz : Nat) : Met l yX5_hasInk (Cond.code yX5_hasInk cX5_hasInk 2 (some .boolean) :: TG) ({ frames := 0, cells := 0, slots := 0, locals := 0 }) (va_Pc [.ref (a 0), .int i] (PR G y t (kWork y a (nI W, nI H, nI N, nI D, p1, p2, p3, col, od, blk, slp)) sz)) (va_Qi (fun (r : Int32) (u : Unit) => r = (bI (decide (inR i N)))) (fun (u : Unit) t => PO G (va_A (kWork y a (nI W, nI H, nI N, nI D, p1, p2, p3, col, od, blk, slp)) sz) (kWork y a (nI W, nI H, nI N, nI D, p1, p2, p3, col, od, blk, slp)) t) (va_A (kWork y a (nI W, nI H, nI N, nI D, p1, p2, p3, col, od, blk, slp)) sz)) 0 0 (va_A (kWork y a (nI W, nI H, nI N, nI D, p1, p2, p3, col, od, blk, slp)) sz) := by
  refine kMet (cc := cX5_hasInk) (maxL := 2) (ret := some .boolean) (Qc := fun A => va_Qi (fun (r : Int32) (u : Unit) => r = (bI (decide (inR i N)))) (fun (u : Unit) t => PO G A (kWork y a (nI W, nI H, nI N, nI D, p1, p2, p3, col, od, blk, slp)) t) A) (by decide) rfl (Nat.le_of_ble_eq_true rfl) (fun p e s m below meth c A hsz C hin => ?_)
  refine KW.loc (lv' := [(0, .ref (a 0)), (1, .int i)]) [0, 1] rfl ?_
  refine kw_iload_n C 1 dX5_hasInk_0 rfl ?_
  refine kw_if_lt (tgt := 16) C dX5_hasInk_1 (by decide) (fun c_1 => ?_) (fun c_1 => ?_)
  ·
    refine kw_iconst (v := nI 0) C dX5_hasInk_16 (by decide) ?_
    refine kR_z C () dX5_hasInk_17 (by first | decide | exact bI_z _ | rfl) ?_ rfl
    first | exact (bI_t (ir1 (by omega) c_1 c_9)).symm | exact (bI_f (ir2 c_1)).symm | exact (bI_f (ir3 (by omega) c_9)).symm
  ·
    refine kw_iload_n C 1 dX5_hasInk_4 rfl ?_
    refine kw_aload_n C 0 dX5_hasInk_5 rfl ?_
    refine kw_get (v := .int (nI N)) (T := TX5) C 0 2 rfl rfl (by decide) (fun w h => mT (fwX5 w h)) rfl (mT wd_91) rfl dX5_hasInk_6 ?_
    refine kw_icmp_ge (tgt := 16) C dX5_hasInk_9 (by decide) (fun c_9 => ?_) (fun c_9 => ?_)
    ·
      refine kw_iconst (v := nI 0) C dX5_hasInk_16 (by decide) ?_
      refine kR_z C () dX5_hasInk_17 (by first | decide | exact bI_z _ | rfl) ?_ rfl
      first | exact (bI_t (ir1 (by omega) c_1 c_9)).symm | exact (bI_f (ir2 c_1)).symm | exact (bI_f (ir3 (by omega) c_9)).symm
    ·
      refine kw_iconst (v := nI 1) C dX5_hasInk_12 (by decide) ?_
      refine kw_goto (tgt := 17) C dX5_hasInk_13 (by decide) ?_
      refine kR_z C () dX5_hasInk_17 (by first | decide | exact bI_z _ | rfl) ?_ rfl
      first | exact (bI_t (ir1 (by omega) c_1 c_9)).symm | exact (bI_f (ir2 c_1)).symm | exact (bI_f (ir3 (by omega) c_9)).symm

set_option maxHeartbeats 4000000 in
set_option maxRecDepth 100000 in
theorem c_X5_hasCell (l : Launch) (G : va_G) (y : Nat → ClassId) (t : Nat) (a : Nat → Nat) (W : Nat) (H : Nat) (N : Nat) (D : Nat) (p1 : Int64) (p2 : Int64) (p3 : Int64) (col : Nat → Int32) (od : Nat → Int32) (blk : Nat → Int64) (slp : Nat → Int32) (x : Int32) (z : Int32) (hW : W ≤ 6) (hH : H ≤ 6) (sz : Nat) : Met l yX5_hasCell (Cond.code yX5_hasCell cX5_hasCell 3 (some .boolean) :: TG) ({ frames := 0, cells := 0, slots := 0, locals := 0 }) (va_Pc [.ref (a 0), .int x, .int z] (PR G y t (kWork y a (nI W, nI H, nI N, nI D, p1, p2, p3, col, od, blk, slp)) sz)) (va_Qi (fun (r : Int32) (u : Unit) => r = (bI (decide (inR x W ∧ inR z H)))) (fun (u : Unit) t => PO G (va_A (kWork y a (nI W, nI H, nI N, nI D, p1, p2, p3, col, od, blk, slp)) sz) (kWork y a (nI W, nI H, nI N, nI D, p1, p2, p3, col, od, blk, slp)) t) (va_A (kWork y a (nI W, nI H, nI N, nI D, p1, p2, p3, col, od, blk, slp)) sz)) 0 0 (va_A (kWork y a (nI W, nI H, nI N, nI D, p1, p2, p3, col, od, blk, slp)) sz) := by
  refine kMet (cc := cX5_hasCell) (maxL := 3) (ret := some .boolean) (Qc := fun A => va_Qi (fun (r : Int32) (u : Unit) => r = (bI (decide (inR x W ∧ inR z H)))) (fun (u : Unit) t => PO G A (kWork y a (nI W, nI H, nI N, nI D, p1, p2, p3, col, od, blk, slp)) t) A) (by decide) rfl (Nat.le_of_ble_eq_true rfl) (fun p e s m below meth c A hsz C hin => ?_)
  refine KW.loc (lv' := [(0, .ref (a 0)), (1, .int x), (2, .int z)]) [0, 1, 2] rfl ?_
  refine kw_iload_n C 1 dX5_hasCell_0 rfl ?_
  refine kw_if_lt (tgt := 28) C dX5_hasCell_1 (by decide) (fun c_1 => ?_) (fun c_1 => ?_)
  ·
    refine kw_iconst (v := nI 0) C dX5_hasCell_28 (by decide) ?_
    refine kR_z C () dX5_hasCell_29 (by first | decide | exact bI_z _ | rfl) ?_ rfl
    first | exact (bI_t ⟨ir1 (by omega) c_1 c_9, ir1 (by omega) c_13 c_21⟩).symm | exact (bI_f (fun h => ir2 c_1 h.1)).symm | exact (bI_f (fun h => ir3 (by omega) c_9 h.1)).symm | exact (bI_f (fun h => ir2 c_13 h.2)).symm | exact (bI_f (fun h => ir3 (by omega) c_21 h.2)).symm
  ·
    refine kw_iload_n C 1 dX5_hasCell_4 rfl ?_
    refine kw_aload_n C 0 dX5_hasCell_5 rfl ?_
    refine kw_get (v := .int (nI W)) (T := TX5) C 0 0 rfl rfl (by decide) (fun w h => mT (fwX5 w h)) rfl (mT wd_83) rfl dX5_hasCell_6 ?_
    refine kw_icmp_ge (tgt := 28) C dX5_hasCell_9 (by decide) (fun c_9 => ?_) (fun c_9 => ?_)
    ·
      refine kw_iconst (v := nI 0) C dX5_hasCell_28 (by decide) ?_
      refine kR_z C () dX5_hasCell_29 (by first | decide | exact bI_z _ | rfl) ?_ rfl
      first | exact (bI_t ⟨ir1 (by omega) c_1 c_9, ir1 (by omega) c_13 c_21⟩).symm | exact (bI_f (fun h => ir2 c_1 h.1)).symm | exact (bI_f (fun h => ir3 (by omega) c_9 h.1)).symm | exact (bI_f (fun h => ir2 c_13 h.2)).symm | exact (bI_f (fun h => ir3 (by omega) c_21 h.2)).symm
    ·
      refine kw_iload_n C 2 dX5_hasCell_12 rfl ?_
      refine kw_if_lt (tgt := 28) C dX5_hasCell_13 (by decide) (fun c_13 => ?_) (fun c_13 => ?_)
      ·
        refine kw_iconst (v := nI 0) C dX5_hasCell_28 (by decide) ?_
        refine kR_z C () dX5_hasCell_29 (by first | decide | exact bI_z _ | rfl) ?_ rfl
        first | exact (bI_t ⟨ir1 (by omega) c_1 c_9, ir1 (by omega) c_13 c_21⟩).symm | exact (bI_f (fun h => ir2 c_1 h.1)).symm | exact (bI_f (fun h => ir3 (by omega) c_9 h.1)).symm | exact (bI_f (fun h => ir2 c_13 h.2)).symm | exact (bI_f (fun h => ir3 (by omega) c_21 h.2)).symm
      ·
        refine kw_iload_n C 2 dX5_hasCell_16 rfl ?_
        refine kw_aload_n C 0 dX5_hasCell_17 rfl ?_
        refine kw_get (v := .int (nI H)) (T := TX5) C 0 1 rfl rfl (by decide) (fun w h => mT (fwX5 w h)) rfl (mT wd_87) rfl dX5_hasCell_18 ?_
        refine kw_icmp_ge (tgt := 28) C dX5_hasCell_21 (by decide) (fun c_21 => ?_) (fun c_21 => ?_)
        ·
          refine kw_iconst (v := nI 0) C dX5_hasCell_28 (by decide) ?_
          refine kR_z C () dX5_hasCell_29 (by first | decide | exact bI_z _ | rfl) ?_ rfl
          first | exact (bI_t ⟨ir1 (by omega) c_1 c_9, ir1 (by omega) c_13 c_21⟩).symm | exact (bI_f (fun h => ir2 c_1 h.1)).symm | exact (bI_f (fun h => ir3 (by omega) c_9 h.1)).symm | exact (bI_f (fun h => ir2 c_13 h.2)).symm | exact (bI_f (fun h => ir3 (by omega) c_21 h.2)).symm
        ·
          refine kw_iconst (v := nI 1) C dX5_hasCell_24 (by decide) ?_
          refine kw_goto (tgt := 29) C dX5_hasCell_25 (by decide) ?_
          refine kR_z C () dX5_hasCell_29 (by first | decide | exact bI_z _ | rfl) ?_ rfl
          first | exact (bI_t ⟨ir1 (by omega) c_1 c_9, ir1 (by omega) c_13 c_21⟩).symm | exact (bI_f (fun h => ir2 c_1 h.1)).symm | exact (bI_f (fun h => ir3 (by omega) c_9 h.1)).symm | exact (bI_f (fun h => ir2 c_13 h.2)).symm | exact (bI_f (fun h => ir3 (by omega) c_21 h.2)).symm

set_option maxHeartbeats 4000000 in
set_option maxRecDepth 100000 in
theorem c_X5_isDense (l : Launch) (G : va_G) (y : Nat → ClassId) (t : Nat) (a : Nat → Nat) (W : Nat) (H : Nat) (N : Nat) (D : Nat) (p1 : Int64) (p2 : Int64) (p3 : Int64) (col : Nat → Int32) (od : Nat → Int32) (blk : Nat → Int64) (slp : Nat → Int32) (i : Nat) (hD : D < 64) (hi : i < 6) (sz : Nat) : Met l yX5_isDense (Cond.code yX5_isDense cX5_isDense 2 (some .boolean) :: TG) ({ frames := 0, cells := 0, slots := 0, locals := 0 }) (va_Pc [.ref (a 0), .int (nI i)] (PR G y t (kWork y a (nI W, nI H, nI N, nI D, p1, p2, p3, col, od, blk, slp)) sz)) (va_Qi (fun (r : Int32) (u : Unit) => r = (bI (D.testBit i))) (fun (u : Unit) t => PO G (va_A (kWork y a (nI W, nI H, nI N, nI D, p1, p2, p3, col, od, blk, slp)) sz) (kWork y a (nI W, nI H, nI N, nI D, p1, p2, p3, col, od, blk, slp)) t) (va_A (kWork y a (nI W, nI H, nI N, nI D, p1, p2, p3, col, od, blk, slp)) sz)) 0 0 (va_A (kWork y a (nI W, nI H, nI N, nI D, p1, p2, p3, col, od, blk, slp)) sz) := by
  refine kMet (cc := cX5_isDense) (maxL := 2) (ret := some .boolean) (Qc := fun A => va_Qi (fun (r : Int32) (u : Unit) => r = (bI (D.testBit i))) (fun (u : Unit) t => PO G A (kWork y a (nI W, nI H, nI N, nI D, p1, p2, p3, col, od, blk, slp)) t) A) (by decide) rfl (Nat.le_of_ble_eq_true rfl) (fun p e s m below meth c A hsz C hin => ?_)
  refine KW.loc (lv' := [(0, .ref (a 0)), (1, .int (nI i))]) [0, 1] rfl ?_
  refine kw_aload_n C 0 dX5_isDense_0 rfl ?_
  refine kw_get (v := .int (nI D)) (T := TX5) C 0 3 rfl rfl (by decide) (fun w h => mT (fwX5 w h)) rfl (mT wd_96) rfl dX5_isDense_1 ?_
  refine kw_iload_n C 1 dX5_isDense_4 rfl ?_
  refine kw_ishr C dX5_isDense_5 (kw_top (n_shr (by omega) (by omega)) ?_)
  refine kw_iconst (v := nI 1) C dX5_isDense_6 (by decide) ?_
  refine kw_iand C dX5_isDense_7 (kw_top (n_and _ _) ?_)
  refine kw_if_eq_N (tgt := 15) C (by exact Nat.lt_of_le_of_lt Nat.and_le_right (by omega)) dX5_isDense_8 (by decide) (fun c_8 => ?_) (fun c_8 => ?_)
  ·
    refine kw_iconst (v := nI 0) C dX5_isDense_15 (by decide) ?_
    refine kR_z C () dX5_isDense_16 (by first | decide | exact bI_z _ | rfl) ?_ rfl
    first | exact dns_0 c_8 | exact dns_1 c_8
  ·
    refine kw_iconst (v := nI 1) C dX5_isDense_11 (by decide) ?_
    refine kw_goto (tgt := 16) C dX5_isDense_12 (by decide) ?_
    refine kR_z C () dX5_isDense_16 (by first | decide | exact bI_z _ | rfl) ?_ rfl
    first | exact dns_0 c_8 | exact dns_1 c_8

set_option maxHeartbeats 4000000 in
set_option maxRecDepth 100000 in
theorem c_X5_paper (l : Launch) (G : va_G) (y : Nat → ClassId) (t : Nat) (a : Nat → Nat) (W : Nat) (H : Nat) (N : Nat) (D : Nat) (p1 : Int64) (p2 : Int64) (p3 : Int64) (col : Nat → Int32) (od : Nat → Int32) (blk : Nat → Int64) (slp : Nat → Int32) (hW : W ≤ 6) (hH : H ≤ 6) (sz : Nat) : Met l yX5_paper (Cond.code yX5_paper cX5_paper 6 (some .long) :: TG) ({ frames := 0, cells := 0, slots := 0, locals := 0 }) (va_Pc [.ref (a 0)] (PR G y t (kWork y a (nI W, nI H, nI N, nI D, p1, p2, p3, col, od, blk, slp)) sz)) (va_Ql (fun (r : Int64) (u : Unit) => r = (papL W H)) (fun (u : Unit) t => PO G (va_A (kWork y a (nI W, nI H, nI N, nI D, p1, p2, p3, col, od, blk, slp)) sz) (kWork y a (nI W, nI H, nI N, nI D, p1, p2, p3, col, od, blk, slp)) t) (va_A (kWork y a (nI W, nI H, nI N, nI D, p1, p2, p3, col, od, blk, slp)) sz)) 0 0 (va_A (kWork y a (nI W, nI H, nI N, nI D, p1, p2, p3, col, od, blk, slp)) sz) := by
  refine kMet (cc := cX5_paper) (maxL := 6) (ret := some .long) (Qc := fun A => va_Ql (fun (r : Int64) (u : Unit) => r = (papL W H)) (fun (u : Unit) t => PO G A (kWork y a (nI W, nI H, nI N, nI D, p1, p2, p3, col, od, blk, slp)) t) A) (by decide) rfl (Nat.le_of_ble_eq_true rfl) (fun p e s m below meth c A hsz C hin => ?_)
  refine KW.loc (lv' := [(0, .ref (a 0))]) [0] rfl ?_
  refine kw_lconst (v := 1) C dX5_paper_0 (by decide) ?_
  refine kw_aload_n C 0 dX5_paper_1 rfl ?_
  refine kw_get (v := .int (nI W)) (T := TX5) C 0 0 rfl rfl (by decide) (fun w h => mT (fwX5 w h)) rfl (mT wd_83) rfl dX5_paper_2 ?_
  refine kw_lshl (v := (1 : Int64) <<< ((nI W).toInt64 &&& 63)) C dX5_paper_5 rfl ?_
  refine kw_lconst (v := 1) C dX5_paper_6 (by decide) ?_
  refine kw_lsub C dX5_paper_7 ?_
  refine kw_lstore_n C [(1, .long (((1 : Int64) <<< ((nI W).toInt64 &&& 63)) - 1)), (0, .ref (a 0))] dX5_paper_8 rfl (by decide) rfl ?_
  refine kw_lconst (v := 0) C dX5_paper_9 (by decide) ?_
  refine kw_lstore_n C [(3, .long 0), (1, .long (((1 : Int64) <<< ((nI W).toInt64 &&& 63)) - 1)), (0, .ref (a 0))] dX5_paper_10 rfl (by decide) rfl ?_
  refine kw_iconst (v := nI 0) C dX5_paper_11 (by decide) ?_
  refine kw_istore C [(5, .int (nI 0)), (3, .long 0), (1, .long (((1 : Int64) <<< ((nI W).toInt64 &&& 63)) - 1)), (0, .ref (a 0))] dX5_paper_12 (by decide) rfl ?_
  have L14_1 : ∀ (nn : Nat) (i : Nat) (hi : i ≤ H) (hms : H - i < nn), KW p l e ({ frames := 0, cells := 0, slots := 0, locals := 0 }) s m ([.ref (a 0)] : List Value).toArray below meth c 0 0 (MQ below (va_Ql (fun (r : Int64) (u : Unit) => r = (papL W H)) (fun (u : Unit) t => PO G A (kWork y a (nI W, nI H, nI N, nI D, p1, p2, p3, col, od, blk, slp)) t) A) ([.ref (a 0)] : List Value).toArray s 0 0 A) G A 6 (kWork y a (nI W, nI H, nI N, nI D, p1, p2, p3, col, od, blk, slp)) [(5, .int (nI i)), (3, .long (papL W i)), (1, .long (((1 : Int64) <<< ((nI W).toInt64 &&& 63)) - 1)), (0, .ref (a 0))] 14 [] := by
    intro nn
    induction nn with
    | zero => intro i hi hms; exact absurd hms (Nat.not_lt_zero _)
    | succ nn ih_14 =>
      intro i hi hms
      refine kw_iload C 0 dX5_paper_14 rfl ?_
      refine kw_aload_n C 3 dX5_paper_16 rfl ?_
      refine kw_get (v := .int (nI H)) (T := TX5) C 0 1 rfl rfl (by decide) (fun w h => mT (fwX5 w h)) rfl (mT wd_87) rfl dX5_paper_17 ?_
      refine kw_icmp_ge_N (tgt := 39) C (by omega) (by omega) dX5_paper_20 (by decide) (fun c_20 => ?_) (fun c_20 => ?_)
      ·
        refine kw_lload_n C 1 dX5_paper_39 rfl ?_
        refine kR_l C () dX5_paper_40 ?_ rfl
        rw [show i = H from by omega]
      ·
        refine kw_lload_n C 1 dX5_paper_23 rfl ?_
        refine kw_lload_n C 2 dX5_paper_24 rfl ?_
        refine kw_bipush (v := nI 8) C dX5_paper_25 (by decide) ?_
        refine kw_iload C 0 dX5_paper_27 rfl ?_
        refine kw_imul C dX5_paper_29 (kw_top (pk_mul _ _) ?_)
        refine kw_lshl (v := (((1 : Int64) <<< ((nI W).toInt64 &&& 63)) - 1) <<< ((nI (8 * i)).toInt64 &&& 63)) C dX5_paper_30 rfl ?_
        refine kw_lor C dX5_paper_31 ?_
        refine kw_lstore_n C [(3, .long ((papL W i) ||| ((((1 : Int64) <<< ((nI W).toInt64 &&& 63)) - 1) <<< ((nI (8 * i)).toInt64 &&& 63)))), (5, .int (nI i)), (1, .long (((1 : Int64) <<< ((nI W).toInt64 &&& 63)) - 1)), (0, .ref (a 0))] dX5_paper_32 rfl (by decide) rfl ?_
        refine kw_iinc (v := nI (i + 1)) C [(5, .int (nI (i + 1))), (3, .long ((papL W i) ||| ((((1 : Int64) <<< ((nI W).toInt64 &&& 63)) - 1) <<< ((nI (8 * i)).toInt64 &&& 63)))), (1, .long (((1 : Int64) <<< ((nI W).toInt64 &&& 63)) - 1)), (0, .ref (a 0))] 1 dX5_paper_33 rfl (nI_1 _) (by decide) rfl ?_
        refine kw_goto (tgt := 14) C dX5_paper_36 (by decide) ?_
        refine KW.loc (lv' := [(5, .int (nI (i + 1))), (3, .long ((papL W i) ||| ((((1 : Int64) <<< ((nI W).toInt64 &&& 63)) - 1) <<< ((nI (8 * i)).toInt64 &&& 63)))), (1, .long (((1 : Int64) <<< ((nI W).toInt64 &&& 63)) - 1)), (0, .ref (a 0))]) [0, 1, 2, 3] rfl ?_
        refine KW.asl (congrArg (fun zz => ([(5, .int (nI (i + 1))), (3, .long zz), (1, .long (((1 : Int64) <<< ((nI W).toInt64 &&& 63)) - 1)), (0, .ref (a 0))] : List (Nat × Value))) (show ((papL W i) ||| ((((1 : Int64) <<< ((nI W).toInt64 &&& 63)) - 1) <<< ((nI (8 * i)).toInt64 &&& 63))) = (papL W (i + 1)) from by rfl)) ?_
        exact ih_14 (i + 1) (by first | assumption | omega | (simp; done)) (by omega)
  refine KW.loc (lv' := [(5, .int (nI 0)), (3, .long 0), (1, .long (((1 : Int64) <<< ((nI W).toInt64 &&& 63)) - 1)), (0, .ref (a 0))]) [0, 1, 2, 3] rfl ?_
  refine KW.asl (congrArg (fun zz => ([(5, .int (nI 0)), (3, .long zz), (1, .long (((1 : Int64) <<< ((nI W).toInt64 &&& 63)) - 1)), (0, .ref (a 0))] : List (Nat × Value))) (show 0 = (papL W 0) from by rfl)) ?_
  exact L14_1 (H - 0 + 1) 0 (by first | assumption | omega | (simp; done)) (Nat.lt_succ_self _)
