set_option maxHeartbeats 4000000 in
set_option maxRecDepth 100000 in
theorem c_X7_in (l : Launch) (G : va_G) (y : Nat → ClassId) (t : Nat) (v : Int32) (lo : Int32) (hi : Int32) (sz : Nat) : Met l yX7_in (Cond.code yX7_in cX7_in 3 (some .boolean) :: TG) ({ frames := 0, cells := 0, slots := 0, locals := 0 }) (va_Pc [.int v, .int lo, .int hi] (PR G y t ([]) sz)) (va_Qi (fun (r : Int32) (u : Unit) => r = (bI (decide (¬ v < lo ∧ ¬ hi < v)))) (fun (u : Unit) t => PO G (va_A ([]) sz) ([]) t) (va_A ([]) sz)) 0 0 (va_A ([]) sz) := by
  refine kMet (cc := cX7_in) (maxL := 3) (ret := some .boolean) (Qc := fun A => va_Qi (fun (r : Int32) (u : Unit) => r = (bI (decide (¬ v < lo ∧ ¬ hi < v)))) (fun (u : Unit) t => PO G A ([]) t) A) (by decide) rfl (Nat.le_of_ble_eq_true rfl) (fun p e s m below meth c A hsz C hin => ?_)
  refine KW.loc (lv' := [(0, .int v), (1, .int lo), (2, .int hi)]) [0, 1, 2] rfl ?_
  refine kw_iload_n C 0 dX7_in_0 rfl ?_
  refine kw_iload_n C 1 dX7_in_1 rfl ?_
  refine kw_icmp_lt (tgt := 14) C dX7_in_2 (by decide) (fun c_2 => ?_) (fun c_2 => ?_)
  ·
    refine kw_iconst (v := nI 0) C dX7_in_14 (by decide) ?_
    refine kR_z C () dX7_in_15 (by first | decide | exact bI_z _ | rfl) ?_ rfl
    first | exact (bI_t (And.intro c_2 c_7)).symm | exact (bI_f (fun h => h.1 c_2)).symm | exact (bI_f (fun h => h.2 c_7)).symm
  ·
    refine kw_iload_n C 0 dX7_in_5 rfl ?_
    refine kw_iload_n C 2 dX7_in_6 rfl ?_
    refine kw_icmp_gt (tgt := 14) C dX7_in_7 (by decide) (fun c_7 => ?_) (fun c_7 => ?_)
    ·
      refine kw_iconst (v := nI 0) C dX7_in_14 (by decide) ?_
      refine kR_z C () dX7_in_15 (by first | decide | exact bI_z _ | rfl) ?_ rfl
      first | exact (bI_t (And.intro c_2 c_7)).symm | exact (bI_f (fun h => h.1 c_2)).symm | exact (bI_f (fun h => h.2 c_7)).symm
    ·
      refine kw_iconst (v := nI 1) C dX7_in_10 (by decide) ?_
      refine kw_goto (tgt := 15) C dX7_in_11 (by decide) ?_
      refine kR_z C () dX7_in_15 (by first | decide | exact bI_z _ | rfl) ?_ rfl
      first | exact (bI_t (And.intro c_2 c_7)).symm | exact (bI_f (fun h => h.1 c_2)).symm | exact (bI_f (fun h => h.2 c_7)).symm

set_option maxHeartbeats 4000000 in
set_option maxRecDepth 100000 in
theorem c_X7_ones (l : Launch) (G : va_G) (y : Nat → ClassId) (t : Nat) (x : Int32) (sz : Nat) : Met l yX7_ones (Cond.code yX7_ones cX7_ones 3 (some .int) :: TG) ({ frames := 0, cells := 0, slots := 0, locals := 0 }) (va_Pc [.int x] (PR G y t ([]) sz)) (va_Qi (fun (r : Int32) (u : Unit) => r = (onI x 8)) (fun (u : Unit) t => PO G (va_A ([]) sz) ([]) t) (va_A ([]) sz)) 0 0 (va_A ([]) sz) := by
  refine kMet (cc := cX7_ones) (maxL := 3) (ret := some .int) (Qc := fun A => va_Qi (fun (r : Int32) (u : Unit) => r = (onI x 8)) (fun (u : Unit) t => PO G A ([]) t) A) (by decide) rfl (Nat.le_of_ble_eq_true rfl) (fun p e s m below meth c A hsz C hin => ?_)
  refine KW.loc (lv' := [(0, .int x)]) [0] rfl ?_
  refine kw_iconst (v := nI 0) C dX7_ones_0 (by decide) ?_
  refine kw_istore_n C [(1, .int (nI 0)), (0, .int x)] dX7_ones_1 rfl (by decide) rfl ?_
  refine kw_iconst (v := nI 0) C dX7_ones_2 (by decide) ?_
  refine kw_istore_n C [(2, .int (nI 0)), (1, .int (nI 0)), (0, .int x)] dX7_ones_3 rfl (by decide) rfl ?_
  have L4_1 : ∀ (nn : Nat) (i : Nat) (hi : i ≤ 8) (hms : 8 - i < nn), KW p l e ({ frames := 0, cells := 0, slots := 0, locals := 0 }) s m ([.int x] : List Value).toArray below meth c 0 0 (MQ below (va_Qi (fun (r : Int32) (u : Unit) => r = (onI x 8)) (fun (u : Unit) t => PO G A ([]) t) A) ([.int x] : List Value).toArray s 0 0 A) G A 3 ([]) [(2, .int (nI i)), (1, .int (onI x i)), (0, .int x)] 4 [] := by
    intro nn
    induction nn with
    | zero => intro i hi hms; exact absurd hms (Nat.not_lt_zero _)
    | succ nn ih_4 =>
      intro i hi hms
      refine kw_iload_n C 0 dX7_ones_4 rfl ?_
      refine kw_bipush (v := nI 8) C dX7_ones_5 (by decide) ?_
      refine kw_icmp_ge_N (tgt := 24) C (by omega) (by omega) dX7_ones_7 (by decide) (fun c_7 => ?_) (fun c_7 => ?_)
      ·
        refine kw_iload_n C 1 dX7_ones_24 rfl ?_
        refine kR_i C () dX7_ones_25 ?_ rfl
        rw [show i = 8 from by omega]
      ·
        refine kw_iload_n C 1 dX7_ones_10 rfl ?_
        refine kw_iload_n C 2 dX7_ones_11 rfl ?_
        refine kw_iload_n C 0 dX7_ones_12 rfl ?_
        refine kw_ishr C dX7_ones_13 ?_
        refine kw_iconst (v := nI 1) C dX7_ones_14 (by decide) ?_
        refine kw_iand C dX7_ones_15 ?_
        refine kw_iadd C dX7_ones_16 ?_
        refine kw_istore_n C [(1, .int ((onI x i) + ((x >>> ((nI i) &&& 31)) &&& (nI 1)))), (2, .int (nI i)), (0, .int x)] dX7_ones_17 rfl (by decide) rfl ?_
        refine kw_iinc (v := nI (i + 1)) C [(2, .int (nI (i + 1))), (1, .int ((onI x i) + ((x >>> ((nI i) &&& 31)) &&& (nI 1)))), (0, .int x)] 1 dX7_ones_18 rfl (nI_1 _) (by decide) rfl ?_
        refine kw_goto (tgt := 4) C dX7_ones_21 (by decide) ?_
        refine KW.loc (lv' := [(2, .int (nI (i + 1))), (1, .int ((onI x i) + ((x >>> ((nI i) &&& 31)) &&& (nI 1)))), (0, .int x)]) [0, 1, 2] rfl ?_
        refine KW.asl (congrArg (fun zz => ([(2, .int (nI (i + 1))), (1, .int zz), (0, .int x)] : List (Nat × Value))) (show ((onI x i) + ((x >>> ((nI i) &&& 31)) &&& (nI 1))) = (onI x (i + 1)) from by rfl)) ?_
        exact ih_4 (i + 1) (by first | assumption | omega | (simp; done)) (by omega)
  refine KW.loc (lv' := [(2, .int (nI 0)), (1, .int (nI 0)), (0, .int x)]) [0, 1, 2] rfl ?_
  refine KW.asl (congrArg (fun zz => ([(2, .int (nI 0)), (1, .int zz), (0, .int x)] : List (Nat × Value))) (show (nI 0) = (onI x 0) from by rfl)) ?_
  exact L4_1 (8 - 0 + 1) 0 (by first | assumption | omega | (simp; done)) (Nat.lt_succ_self _)

set_option maxHeartbeats 4000000 in
set_option maxRecDepth 100000 in
theorem c_X7_printed (l : Launch) (G : va_G) (y : Nat → ClassId) (t : Nat) (b0 : Nat) (v0 : Nat) (hb0 : b0 < 16) (sz : Nat) : Met l yX7_printed (Cond.code yX7_printed cX7_printed 2 (some .int) :: TG) ({ frames := 0, cells := 0, slots := 0, locals := 0 }) (va_Pc [.int (nI b0), .int (nI v0)] (PR G y t ([]) sz)) (va_Qi (fun (r : Int32) (u : Unit) => r = (nI (prN b0 v0))) (fun (u : Unit) t => PO G (va_A ([]) sz) ([]) t) (va_A ([]) sz)) 0 0 (va_A ([]) sz) := by
  refine kMet (cc := cX7_printed) (maxL := 2) (ret := some .int) (Qc := fun A => va_Qi (fun (r : Int32) (u : Unit) => r = (nI (prN b0 v0))) (fun (u : Unit) t => PO G A ([]) t) A) (by decide) rfl (Nat.le_of_ble_eq_true rfl) (fun p e s m below meth c A hsz C hin => ?_)
  refine KW.loc (lv' := [(0, .int (nI b0)), (1, .int (nI v0))]) [0, 1] rfl ?_
  refine kw_iload_n C 0 dX7_printed_0 rfl ?_
  refine kw_bipush (v := nI 8) C dX7_printed_1 (by decide) ?_
  refine kw_icmp_lt_N (tgt := 13) C (by omega) (by omega) dX7_printed_3 (by decide) (fun c_3 => ?_) (fun c_3 => ?_)
  ·
    refine kw_iload_n C 1 dX7_printed_13 rfl ?_
    refine kw_iload_n C 0 dX7_printed_14 rfl ?_
    refine kw_ior C dX7_printed_15 (kw_top (n_or _ _) ?_)
    refine kR_i C () dX7_printed_16 ?_ rfl
    unfold prN; first | rw [if_pos (by omega)] | rw [if_neg (by omega)]
  ·
    refine kw_iload_n C 0 dX7_printed_6 rfl ?_
    refine kw_bipush (v := nI 8) C dX7_printed_7 (by decide) ?_
    refine kw_isub C dX7_printed_9 (kw_top (pk_sub (by omega)) ?_)
    refine kw_goto (tgt := 16) C dX7_printed_10 (by decide) ?_
    refine kR_i C () dX7_printed_16 ?_ rfl
    unfold prN; first | rw [if_pos (by omega)] | rw [if_neg (by omega)]

set_option maxHeartbeats 4000000 in
set_option maxRecDepth 100000 in
theorem c_X7_isInk (l : Launch) (G : va_G) (y : Nat → ClassId) (t : Nat) (a : Nat → Nat) (th : Int32) (Sr : Nat → Int32) (dr : Nat → Int32) (pa : Nat → Int32) (um : Int32) (im : Nat → Int32) (ikp : Nat → Int32) (tx : Nat → Int32) (ty : Int32) (sn : Nat → Int32) (sm : Int32) (at1 : Int32) (pl : Int32) (tk : Int32) (vl : Int32) (fa : Int32) (pf : Nat → Int32) (odr : Nat → Int32) (gv : Nat → Int32) (mk : Nat → Int32) (bo : Nat → Int32) (bq : Nat → Int32) (i : Int32) (W : Nat) (H : Nat) (N : Nat) (pcl : Nat → Nat) (ik : Nat → Nat) (o : Nat → Nat) (bk : Nat → Nat) (kk : Nat → Nat) (hR : RowOk Sr W H N pcl ik o bk kk) (sz : Nat) : Met l yX7_isInk (Cond.code yX7_isInk cX7_isInk 2 (some .boolean) :: TG) ({ frames := 1, cells := 0, slots := 0, locals := 22 }) (va_Pc [.ref (a 0), .int i] (PR G y t (kModel y a (th, Sr, dr, pa, um, im, ikp, tx, ty, sn, sm, at1, pl, tk, vl, fa, pf, odr, gv, mk, bo, bq)) sz)) (va_Qi (fun (r : Int32) (u : Unit) => r = (bI (decide (inR i N)))) (fun (u : Unit) t => PO G (va_A (kModel y a (th, Sr, dr, pa, um, im, ikp, tx, ty, sn, sm, at1, pl, tk, vl, fa, pf, odr, gv, mk, bo, bq)) sz) (kModel y a (th, Sr, dr, pa, um, im, ikp, tx, ty, sn, sm, at1, pl, tk, vl, fa, pf, odr, gv, mk, bo, bq)) t) (va_A (kModel y a (th, Sr, dr, pa, um, im, ikp, tx, ty, sn, sm, at1, pl, tk, vl, fa, pf, odr, gv, mk, bo, bq)) sz)) 0 0 (va_A (kModel y a (th, Sr, dr, pa, um, im, ikp, tx, ty, sn, sm, at1, pl, tk, vl, fa, pf, odr, gv, mk, bo, bq)) sz) := by
  refine kMet (cc := cX7_isInk) (maxL := 2) (ret := some .boolean) (Qc := fun A => va_Qi (fun (r : Int32) (u : Unit) => r = (bI (decide (inR i N)))) (fun (u : Unit) t => PO G A (kModel y a (th, Sr, dr, pa, um, im, ikp, tx, ty, sn, sm, at1, pl, tk, vl, fa, pf, odr, gv, mk, bo, bq)) t) A) (by decide) rfl (Nat.le_of_ble_eq_true rfl) (fun p e s m below meth c A hsz C hin => ?_)
  obtain ⟨hS0, hS1, hS2, hW, hH, hN, hpic, hink, hord, hblk, hdx⟩ := id hR
  refine KW.loc (lv' := [(0, .ref (a 0)), (1, .int i)]) [0, 1] rfl ?_
  refine kw_iload_n C 1 dX7_isInk_0 rfl ?_
  refine kw_iconst (v := nI 0) C dX7_isInk_1 (by decide) ?_
  refine kw_aload_n C 0 dX7_isInk_2 rfl ?_
  refine kw_get (v := .ref (a 1)) (T := TX7) C 0 1 rfl rfl (by decide) (fun w h => mT (fwX7 w h)) rfl (mT wd_616) rfl dX7_isInk_3 ?_
  refine kw_iconst (v := nI 2) C dX7_isInk_6 (by decide) ?_
  refine kw_iald (f := Sr) C 1 rfl (by omega) (by decide) dX7_isInk_7 ?_
  refine kw_top (show (Sr 2) = (nI N) from by exact hS2) ?_
  refine kw_iconst (v := nI 1) C dX7_isInk_8 (by decide) ?_
  refine kw_isub C dX7_isInk_9 ?_
  refine kS_i (As := [.int i, .int (nI 0), .int ((nI N) - (nI 1))]) (rest := []) (ws' := fun (u : Unit) => kModel y a (th, Sr, dr, pa, um, im, ikp, tx, ty, sn, sm, at1, pl, tk, vl, fa, pf, odr, gv, mk, bo, bq)) C (c_X7_in l G y t i (nI 0) ((nI N) - (nI 1))) (va_cwS 3 C.2.2.2.2.1 (goodS cT wd_688 wd_686 wd_687 wd_48) rfl rfl rfl (by decide +kernel) ⟨by decide, by decide⟩) [] [0, 1, 2, 3, 4, 5, 6, 7, 8, 9, 10, 11, 12, 13] [0, 1, 2, 3, 4, 5, 6, 7, 8, 9, 10, 11, 12, 13] rfl (by decide) rfl (by decide) (by decide) (fun _ => rfl) (by decide) rfl (Nat.le_of_ble_eq_true rfl) ⟨by decide, by decide⟩ dX7_isInk_10 (fun r u hr_1 => ?_)
  subst hr_1
  refine kR_z C () dX7_isInk_13 (by first | decide | exact bI_z _ | rfl) ?_ rfl
  exact bI_iff (in_R (by omega))

set_option maxHeartbeats 4000000 in
set_option maxRecDepth 100000 in
theorem c_X7_isCell (l : Launch) (G : va_G) (y : Nat → ClassId) (t : Nat) (a : Nat → Nat) (th : Int32) (Sr : Nat → Int32) (dr : Nat → Int32) (pa : Nat → Int32) (um : Int32) (im : Nat → Int32) (ikp : Nat → Int32) (tx : Nat → Int32) (ty : Int32) (sn : Nat → Int32) (sm : Int32) (at1 : Int32) (pl : Int32) (tk : Int32) (vl : Int32) (fa : Int32) (pf : Nat → Int32) (odr : Nat → Int32) (gv : Nat → Int32) (mk : Nat → Int32) (bo : Nat → Int32) (bq : Nat → Int32) (x : Int32) (z : Int32) (W : Nat) (H : Nat) (N : Nat) (pcl : Nat → Nat) (ik : Nat → Nat) (o : Nat → Nat) (bk : Nat → Nat) (kk : Nat → Nat) (hR : RowOk Sr W H N pcl ik o bk kk) (sz : Nat) : Met l yX7_isCell (Cond.code yX7_isCell cX7_isCell 3 (some .boolean) :: TG) ({ frames := 1, cells := 0, slots := 0, locals := 22 }) (va_Pc [.ref (a 0), .int x, .int z] (PR G y t (kModel y a (th, Sr, dr, pa, um, im, ikp, tx, ty, sn, sm, at1, pl, tk, vl, fa, pf, odr, gv, mk, bo, bq)) sz)) (va_Qi (fun (r : Int32) (u : Unit) => r = (bI (decide (inR x W ∧ inR z H)))) (fun (u : Unit) t => PO G (va_A (kModel y a (th, Sr, dr, pa, um, im, ikp, tx, ty, sn, sm, at1, pl, tk, vl, fa, pf, odr, gv, mk, bo, bq)) sz) (kModel y a (th, Sr, dr, pa, um, im, ikp, tx, ty, sn, sm, at1, pl, tk, vl, fa, pf, odr, gv, mk, bo, bq)) t) (va_A (kModel y a (th, Sr, dr, pa, um, im, ikp, tx, ty, sn, sm, at1, pl, tk, vl, fa, pf, odr, gv, mk, bo, bq)) sz)) 0 0 (va_A (kModel y a (th, Sr, dr, pa, um, im, ikp, tx, ty, sn, sm, at1, pl, tk, vl, fa, pf, odr, gv, mk, bo, bq)) sz) := by
  refine kMet (cc := cX7_isCell) (maxL := 3) (ret := some .boolean) (Qc := fun A => va_Qi (fun (r : Int32) (u : Unit) => r = (bI (decide (inR x W ∧ inR z H)))) (fun (u : Unit) t => PO G A (kModel y a (th, Sr, dr, pa, um, im, ikp, tx, ty, sn, sm, at1, pl, tk, vl, fa, pf, odr, gv, mk, bo, bq)) t) A) (by decide) rfl (Nat.le_of_ble_eq_true rfl) (fun p e s m below meth c A hsz C hin => ?_)
  obtain ⟨hS0, hS1, hS2, hW, hH, hN, hpic, hink, hord, hblk, hdx⟩ := id hR
  refine KW.loc (lv' := [(0, .ref (a 0)), (1, .int x), (2, .int z)]) [0, 1, 2] rfl ?_
  refine kw_iload_n C 1 dX7_isCell_0 rfl ?_
  refine kw_iconst (v := nI 0) C dX7_isCell_1 (by decide) ?_
  refine kw_aload_n C 0 dX7_isCell_2 rfl ?_
  refine kw_get (v := .ref (a 1)) (T := TX7) C 0 1 rfl rfl (by decide) (fun w h => mT (fwX7 w h)) rfl (mT wd_616) rfl dX7_isCell_3 ?_
  refine kw_iconst (v := nI 0) C dX7_isCell_6 (by decide) ?_
  refine kw_iald (f := Sr) C 1 rfl (by omega) (by decide) dX7_isCell_7 ?_
  refine kw_top (show (Sr 0) = (nI W) from by exact hS0) ?_
  refine kw_iconst (v := nI 1) C dX7_isCell_8 (by decide) ?_
  refine kw_isub C dX7_isCell_9 ?_
  refine kS_i (As := [.int x, .int (nI 0), .int ((nI W) - (nI 1))]) (rest := []) (ws' := fun (u : Unit) => kModel y a (th, Sr, dr, pa, um, im, ikp, tx, ty, sn, sm, at1, pl, tk, vl, fa, pf, odr, gv, mk, bo, bq)) C (c_X7_in l G y t x (nI 0) ((nI W) - (nI 1))) (va_cwS 3 C.2.2.2.2.1 (goodS cT wd_688 wd_686 wd_687 wd_48) rfl rfl rfl (by decide +kernel) ⟨by decide, by decide⟩) [] [0, 1, 2, 3, 4, 5, 6, 7, 8, 9, 10, 11, 12, 13] [0, 1, 2, 3, 4, 5, 6, 7, 8, 9, 10, 11, 12, 13] rfl (by decide) rfl (by decide) (by decide) (fun _ => rfl) (by decide) rfl (Nat.le_of_ble_eq_true rfl) ⟨by decide, by decide⟩ dX7_isCell_10 (fun r u hr_1 => ?_)
  subst hr_1
  refine kw_if_eq_D (tgt := 36) C dX7_isCell_13 (by decide) (fun c_13 => ?_) (fun c_13 => ?_)
  ·
    refine kw_iconst (v := nI 0) C dX7_isCell_36 (by decide) ?_
    refine kR_z C () dX7_isCell_37 (by first | decide | exact bI_z _ | rfl) ?_ rfl
    first | exact (bI_t (And.intro ((in_R (by omega)).mp c_13) ((in_R (by omega)).mp c_29))).symm | exact (bI_f (fun h => c_13 ((in_R (by omega)).mpr h.1))).symm | exact (bI_f (fun h => c_29 ((in_R (by omega)).mpr h.2))).symm
  ·
    refine kw_iload_n C 2 dX7_isCell_16 rfl ?_
    refine kw_iconst (v := nI 0) C dX7_isCell_17 (by decide) ?_
    refine kw_aload_n C 0 dX7_isCell_18 rfl ?_
    refine kw_get (v := .ref (a 1)) (T := TX7) C 0 1 rfl rfl (by decide) (fun w h => mT (fwX7 w h)) rfl (mT wd_616) rfl dX7_isCell_19 ?_
    refine kw_iconst (v := nI 1) C dX7_isCell_22 (by decide) ?_
    refine kw_iald (f := Sr) C 1 rfl (by omega) (by decide) dX7_isCell_23 ?_
    refine kw_top (show (Sr 1) = (nI H) from by exact hS1) ?_
    refine kw_iconst (v := nI 1) C dX7_isCell_24 (by decide) ?_
    refine kw_isub C dX7_isCell_25 ?_
    refine kS_i (As := [.int z, .int (nI 0), .int ((nI H) - (nI 1))]) (rest := []) (ws' := fun (u : Unit) => kModel y a (th, Sr, dr, pa, um, im, ikp, tx, ty, sn, sm, at1, pl, tk, vl, fa, pf, odr, gv, mk, bo, bq)) C (c_X7_in l G y t z (nI 0) ((nI H) - (nI 1))) (va_cwS 3 C.2.2.2.2.1 (goodS cT wd_688 wd_686 wd_687 wd_48) rfl rfl rfl (by decide +kernel) ⟨by decide, by decide⟩) [] [0, 1, 2, 3, 4, 5, 6, 7, 8, 9, 10, 11, 12, 13] [0, 1, 2, 3, 4, 5, 6, 7, 8, 9, 10, 11, 12, 13] rfl (by decide) rfl (by decide) (by decide) (fun _ => rfl) (by decide) rfl (Nat.le_of_ble_eq_true rfl) ⟨by decide, by decide⟩ dX7_isCell_26 (fun r u hr_2 => ?_)
    subst hr_2
    refine kw_if_eq_D (tgt := 36) C dX7_isCell_29 (by decide) (fun c_29 => ?_) (fun c_29 => ?_)
    ·
      refine kw_iconst (v := nI 0) C dX7_isCell_36 (by decide) ?_
      refine kR_z C () dX7_isCell_37 (by first | decide | exact bI_z _ | rfl) ?_ rfl
      first | exact (bI_t (And.intro ((in_R (by omega)).mp c_13) ((in_R (by omega)).mp c_29))).symm | exact (bI_f (fun h => c_13 ((in_R (by omega)).mpr h.1))).symm | exact (bI_f (fun h => c_29 ((in_R (by omega)).mpr h.2))).symm
    ·
      refine kw_iconst (v := nI 1) C dX7_isCell_32 (by decide) ?_
      refine kw_goto (tgt := 37) C dX7_isCell_33 (by decide) ?_
      refine kR_z C () dX7_isCell_37 (by first | decide | exact bI_z _ | rfl) ?_ rfl
      first | exact (bI_t (And.intro ((in_R (by omega)).mp c_13) ((in_R (by omega)).mp c_29))).symm | exact (bI_f (fun h => c_13 ((in_R (by omega)).mpr h.1))).symm | exact (bI_f (fun h => c_29 ((in_R (by omega)).mpr h.2))).symm

set_option maxHeartbeats 4000000 in
set_option maxRecDepth 100000 in
theorem c_X7_prints (l : Launch) (G : va_G) (y : Nat → ClassId) (t : Nat) (a : Nat → Nat) (th : Int32) (Sr : Nat → Int32) (dr : Nat → Int32) (pa : Nat → Int32) (um : Int32) (im : Nat → Int32) (ikp : Nat → Int32) (tx : Nat → Int32) (ty : Int32) (sn : Nat → Int32) (sm : Int32) (at1 : Int32) (pl : Int32) (tk : Int32) (vl : Int32) (fa : Int32) (odr : Nat → Int32) (gv : Nat → Int32) (mk : Nat → Int32) (bo : Nat → Int32) (bq : Nat → Int32) (pv : Nat → Nat) (i : Nat) (a0 : Nat) (b0 : Nat) (W : Nat) (H : Nat) (N : Nat) (pcl : Nat → Nat) (ik : Nat → Nat) (o : Nat → Nat) (bk : Nat → Nat) (kk : Nat → Nat) (hR : RowOk Sr W H N pcl ik o bk kk) (hi : i < N) (ha0 : a0 < 3) (hb0 : b0 < 3) (hpv : ∀ j, pv j < 8) (sz : Nat) : Met l yX7_prints (Cond.code yX7_prints cX7_prints 8 (none) :: TG) ({ frames := 1, cells := 0, slots := 0, locals := 22 }) (va_Pc [.ref (a 0), .int (nI i), .int (dI a0), .int (dI b0)] (PR G y t (kModel y a (th, Sr, dr, pa, um, im, ikp, tx, ty, sn, sm, at1, pl, tk, vl, fa, aN pv, odr, gv, mk, bo, bq)) sz)) (va_Qv (fun (u : Unit) => True) (fun (u : Unit) t => PO G (va_A (kModel y a (th, Sr, dr, pa, um, im, ikp, tx, ty, sn, sm, at1, pl, tk, vl, fa, aN pv, odr, gv, mk, bo, bq)) sz) (kModel y a (th, Sr, dr, pa, um, im, ikp, tx, ty, sn, sm, at1, pl, tk, vl, fa, aN (pvP W H bk (ik i) i a0 b0 36 pv), odr, gv, mk, bo, bq)) t) (va_A (kModel y a (th, Sr, dr, pa, um, im, ikp, tx, ty, sn, sm, at1, pl, tk, vl, fa, aN pv, odr, gv, mk, bo, bq)) sz)) 0 0 (va_A (kModel y a (th, Sr, dr, pa, um, im, ikp, tx, ty, sn, sm, at1, pl, tk, vl, fa, aN pv, odr, gv, mk, bo, bq)) sz) := by
  refine kMet (cc := cX7_prints) (maxL := 8) (ret := none) (Qc := fun A => va_Qv (fun (u : Unit) => True) (fun (u : Unit) t => PO G A (kModel y a (th, Sr, dr, pa, um, im, ikp, tx, ty, sn, sm, at1, pl, tk, vl, fa, aN (pvP W H bk (ik i) i a0 b0 36 pv), odr, gv, mk, bo, bq)) t) A) (by decide) rfl (Nat.le_of_ble_eq_true rfl) (fun p e s m below meth c A hsz C hin => ?_)
  obtain ⟨hS0, hS1, hS2, hW, hH, hN, hpic, hink, hord, hblk, hdx⟩ := id hR
  refine KW.loc (lv' := [(0, .ref (a 0)), (1, .int (nI i)), (2, .int (dI a0)), (3, .int (dI b0))]) [0, 1, 2, 3] rfl ?_
  refine kw_iconst (v := nI 0) C dX7_prints_0 (by decide) ?_
  refine kw_istore C [(4, .int (nI 0)), (0, .ref (a 0)), (1, .int (nI i)), (2, .int (dI a0)), (3, .int (dI b0))] dX7_prints_1 (by decide) rfl ?_
  have L3_1 : ∀ (nn : Nat) (k : Nat) (hk : k ≤ 36) (hms : 36 - k < nn), KW p l e ({ frames := 1, cells := 0, slots := 0, locals := 22 }) s m ([.ref (a 0), .int (nI i), .int (dI a0), .int (dI b0)] : List Value).toArray below meth c 0 0 (MQ below (va_Qv (fun (u : Unit) => True) (fun (u : Unit) t => PO G A (kModel y a (th, Sr, dr, pa, um, im, ikp, tx, ty, sn, sm, at1, pl, tk, vl, fa, aN (pvP W H bk (ik i) i a0 b0 36 pv), odr, gv, mk, bo, bq)) t) A) ([.ref (a 0), .int (nI i), .int (dI a0), .int (dI b0)] : List Value).toArray s 0 0 A) G A 8 (kModel y a (th, Sr, dr, pa, um, im, ikp, tx, ty, sn, sm, at1, pl, tk, vl, fa, aN (pvP W H bk (ik i) i a0 b0 k pv), odr, gv, mk, bo, bq)) [(4, .int (nI k)), (0, .ref (a 0)), (1, .int (nI i)), (2, .int (dI a0)), (3, .int (dI b0))] 3 [] := by
    intro nn
    induction nn with
    | zero => intro k hk hms; exact absurd hms (Nat.not_lt_zero _)
    | succ nn ih_3 =>
      intro k hk hms
      refine kw_iload C 0 dX7_prints_3 rfl ?_
      refine kw_bipush (v := nI 36) C dX7_prints_5 (by decide) ?_
      refine kw_icmp_ge_N (tgt := 148) C (by omega) (by omega) dX7_prints_7 (by decide) (fun c_7 => ?_) (fun c_7 => ?_)
      ·
        rw [show k = 36 from by omega]
        refine kR_v C () dX7_prints_148 ?_ rfl
        first | rfl | trivial | (simp; done) | omega
      ·
        have hk6 : k / 6 < 6 := by omega
        have hm6 : k % 6 < 6 := by omega
        refine kw_iload C 0 dX7_prints_10 rfl ?_
        refine kw_bipush (v := nI 6) C dX7_prints_12 (by decide) ?_
        refine kw_irem C dX7_prints_14 (by decide) (kw_top (pk_rem (by omega) (by decide) (by decide)) ?_)
        refine kw_iload_n C 3 dX7_prints_15 rfl ?_
        refine kw_iadd C dX7_prints_16 ?_
        refine kw_istore C [(5, .int ((nI (k % 6)) + (dI a0))), (4, .int (nI k)), (0, .ref (a 0)), (1, .int (nI i)), (2, .int (dI a0)), (3, .int (dI b0))] dX7_prints_17 (by decide) rfl ?_
        refine kw_iload C 1 dX7_prints_19 rfl ?_
        refine kw_bipush (v := nI 6) C dX7_prints_21 (by decide) ?_
        refine kw_idiv C dX7_prints_23 (by decide) (kw_top (pk_div (by omega) (by decide) (by decide)) ?_)
        refine kw_iload_n C 5 dX7_prints_24 rfl ?_
        refine kw_iadd C dX7_prints_25 ?_
        refine kw_istore C [(6, .int ((nI (k / 6)) + (dI b0))), (5, .int ((nI (k % 6)) + (dI a0))), (4, .int (nI k)), (0, .ref (a 0)), (1, .int (nI i)), (2, .int (dI a0)), (3, .int (dI b0))] dX7_prints_26 (by decide) rfl ?_
        refine kw_aload_n C 3 dX7_prints_28 rfl ?_
        refine kw_get (v := .ref (a 1)) (T := TX7) C 0 1 rfl rfl (by decide) (fun w h => mT (fwX7 w h)) rfl (mT wd_616) rfl dX7_prints_29 ?_
        refine kw_bipush (v := nI 51) C dX7_prints_32 (by decide) ?_
        refine kw_bipush (v := nI 6) C dX7_prints_34 (by decide) ?_
        refine kw_iload_n C 4 dX7_prints_36 rfl ?_
        refine kw_imul C dX7_prints_37 (kw_top (pk_mul _ _) ?_)
        refine kw_iadd C dX7_prints_38 (kw_top (nI_add _ _) ?_)
        refine kw_iload C 2 dX7_prints_39 rfl ?_
        refine kw_bipush (v := nI 6) C dX7_prints_41 (by decide) ?_
        refine kw_idiv C dX7_prints_43 (by decide) (kw_top (pk_div (by omega) (by decide) (by decide)) ?_)
        refine kw_iadd C dX7_prints_44 (kw_top (nI_add _ _) ?_)
        refine kw_iald (f := Sr) C 1 rfl (by omega) (by decide) dX7_prints_45 ?_
        refine kw_top (show (Sr ((51 + (6 * i)) + (k / 6))) = (nI (bk (6 * (i) + (k / 6)))) from by exact (hblk (i) (k / 6) (by first | assumption | omega) (by first | assumption | omega)).1) ?_
        have hl_45 := (hblk (i) (k / 6) (by first | assumption | omega) (by first | assumption | omega)).2
        refine kw_iload C 2 dX7_prints_46 rfl ?_
        refine kw_bipush (v := nI 6) C dX7_prints_48 (by decide) ?_
        refine kw_irem C dX7_prints_50 (by decide) (kw_top (pk_rem (by omega) (by decide) (by decide)) ?_)
        refine kw_ishr C dX7_prints_51 (kw_top (n_shr (by omega) (by omega)) ?_)
        refine kw_iconst (v := nI 1) C dX7_prints_52 (by decide) ?_
        refine kw_iand C dX7_prints_53 (kw_top (n_and _ _) ?_)
        refine kw_iconst (v := nI 1) C dX7_prints_54 (by decide) ?_
        have J63_2 : ∀ (_ : Unit), KW p l e ({ frames := 1, cells := 0, slots := 0, locals := 22 }) s m ([.ref (a 0), .int (nI i), .int (dI a0), .int (dI b0)] : List Value).toArray below meth c 0 0 (MQ below (va_Qv (fun (u : Unit) => True) (fun (u : Unit) t => PO G A (kModel y a (th, Sr, dr, pa, um, im, ikp, tx, ty, sn, sm, at1, pl, tk, vl, fa, aN (pvP W H bk (ik i) i a0 b0 36 pv), odr, gv, mk, bo, bq)) t) A) ([.ref (a 0), .int (nI i), .int (dI a0), .int (dI b0)] : List Value).toArray s 0 0 A) G A 8 (kModel y a (th, Sr, dr, pa, um, im, ikp, tx, ty, sn, sm, at1, pl, tk, vl, fa, aN (pvP W H bk (ik i) i a0 b0 k pv), odr, gv, mk, bo, bq)) [(6, .int ((nI (k / 6)) + (dI b0))), (5, .int ((nI (k % 6)) + (dI a0))), (4, .int (nI k)), (0, .ref (a 0)), (1, .int (nI i)), (2, .int (dI a0)), (3, .int (dI b0))] 63 [.int (bI (decide (bk (6 * i + k / 6) / 2 ^ (k % 6) &&& 1 = 1)))] := by
          intro _
          refine kw_istore C [(7, .int (bI (decide (bk (6 * i + k / 6) / 2 ^ (k % 6) &&& 1 = 1)))), (6, .int ((nI (k / 6)) + (dI b0))), (5, .int ((nI (k % 6)) + (dI a0))), (4, .int (nI k)), (0, .ref (a 0)), (1, .int (nI i)), (2, .int (dI a0)), (3, .int (dI b0))] dX7_prints_63 (by decide) rfl ?_
          refine kw_iload C 0 dX7_prints_65 rfl ?_
          refine kw_if_eq_D (tgt := 142) C dX7_prints_67 (by decide) (fun c_67 => ?_) (fun c_67 => ?_)
          ·
            refine kw_iinc (v := nI (k + 1)) C [(4, .int (nI (k + 1))), (7, .int (bI (decide (bk (6 * i + k / 6) / 2 ^ (k % 6) &&& 1 = 1)))), (6, .int ((nI (k / 6)) + (dI b0))), (5, .int ((nI (k % 6)) + (dI a0))), (0, .ref (a 0)), (1, .int (nI i)), (2, .int (dI a0)), (3, .int (dI b0))] 3 dX7_prints_142 rfl (nI_1 _) (by decide) rfl ?_
            refine kw_goto (tgt := 3) C dX7_prints_145 (by decide) ?_
            refine KW.loc (lv' := [(4, .int (nI (k + 1))), (0, .ref (a 0)), (1, .int (nI i)), (2, .int (dI a0)), (3, .int (dI b0))]) [0, 4, 5, 6, 7] rfl ?_
            refine KW.asw (congrArg (fun zz => (kModel y a (th, Sr, dr, pa, um, im, ikp, tx, ty, sn, sm, at1, pl, tk, vl, fa, zz, odr, gv, mk, bo, bq) : va_W)) (show (aN (pvP W H bk (ik i) i a0 b0 k pv)) = (aN (pvP W H bk (ik i) i a0 b0 (k + 1) pv)) from by first | (rw [upd_aN]; simp only [pvP]; rw [if_pos (And.intro (tbm_t c_67) (And.intro ho1 ho2))]; done) | (simp only [pvP]; rw [if_neg (fun h => c_67 (by rw [tbm_d, h.1]; rfl))]; done) | (simp only [pvP]; rw [if_neg (fun h => c_84 ((in_R (by omega)).mpr ((ix_ok _ (by omega) _ ha0 _ hW).mpr h.2.1)))]; done) | (simp only [pvP]; rw [if_neg (fun h => c_101 ((in_R (by omega)).mpr ((ix_ok _ (by omega) _ hb0 _ hH).mpr h.2.2)))]; done))) ?_
            exact ih_3 (k + 1) (by first | assumption | omega | (simp; done)) (by omega)
          ·
            refine kw_iload C 2 dX7_prints_70 rfl ?_
            refine kw_iconst (v := nI 0) C dX7_prints_72 (by decide) ?_
            refine kw_aload_n C 4 dX7_prints_73 rfl ?_
            refine kw_get (v := .ref (a 1)) (T := TX7) C 0 1 rfl rfl (by decide) (fun w h => mT (fwX7 w h)) rfl (mT wd_616) rfl dX7_prints_74 ?_
            refine kw_iconst (v := nI 0) C dX7_prints_77 (by decide) ?_
            refine kw_iald (f := Sr) C 1 rfl (by omega) (by decide) dX7_prints_78 ?_
            refine kw_top (show (Sr 0) = (nI W) from by exact hS0) ?_
            refine kw_iconst (v := nI 1) C dX7_prints_79 (by decide) ?_
            refine kw_isub C dX7_prints_80 ?_
            refine kS_i (As := [.int ((nI (k % 6)) + (dI a0)), .int (nI 0), .int ((nI W) - (nI 1))]) (rest := []) (ws' := fun (u : Unit) => kModel y a (th, Sr, dr, pa, um, im, ikp, tx, ty, sn, sm, at1, pl, tk, vl, fa, aN (pvP W H bk (ik i) i a0 b0 k pv), odr, gv, mk, bo, bq)) C (c_X7_in l G y t ((nI (k % 6)) + (dI a0)) (nI 0) ((nI W) - (nI 1))) (va_cwS 3 C.2.2.2.2.1 (goodS cT wd_688 wd_686 wd_687 wd_48) rfl rfl rfl (by decide +kernel) ⟨by decide, by decide⟩) [] [0, 1, 2, 3, 4, 5, 6, 7, 8, 9, 10, 11, 12, 13] [0, 1, 2, 3, 4, 5, 6, 7, 8, 9, 10, 11, 12, 13] rfl (by decide) rfl (by decide) (by decide) (fun _ => rfl) (by decide) rfl (Nat.le_of_ble_eq_true rfl) ⟨by decide, by decide⟩ dX7_prints_81 (fun r u hr_3 => ?_)
            subst hr_3
            refine kw_if_eq_D (tgt := 142) C dX7_prints_84 (by decide) (fun c_84 => ?_) (fun c_84 => ?_)
            ·
              refine kw_iinc (v := nI (k + 1)) C [(4, .int (nI (k + 1))), (7, .int (bI (decide (bk (6 * i + k / 6) / 2 ^ (k % 6) &&& 1 = 1)))), (6, .int ((nI (k / 6)) + (dI b0))), (5, .int ((nI (k % 6)) + (dI a0))), (0, .ref (a 0)), (1, .int (nI i)), (2, .int (dI a0)), (3, .int (dI b0))] 3 dX7_prints_142 rfl (nI_1 _) (by decide) rfl ?_
              refine kw_goto (tgt := 3) C dX7_prints_145 (by decide) ?_
              refine KW.loc (lv' := [(4, .int (nI (k + 1))), (0, .ref (a 0)), (1, .int (nI i)), (2, .int (dI a0)), (3, .int (dI b0))]) [0, 4, 5, 6, 7] rfl ?_
              refine KW.asw (congrArg (fun zz => (kModel y a (th, Sr, dr, pa, um, im, ikp, tx, ty, sn, sm, at1, pl, tk, vl, fa, zz, odr, gv, mk, bo, bq) : va_W)) (show (aN (pvP W H bk (ik i) i a0 b0 k pv)) = (aN (pvP W H bk (ik i) i a0 b0 (k + 1) pv)) from by first | (rw [upd_aN]; simp only [pvP]; rw [if_pos (And.intro (tbm_t c_67) (And.intro ho1 ho2))]; done) | (simp only [pvP]; rw [if_neg (fun h => c_67 (by rw [tbm_d, h.1]; rfl))]; done) | (simp only [pvP]; rw [if_neg (fun h => c_84 ((in_R (by omega)).mpr ((ix_ok _ (by omega) _ ha0 _ hW).mpr h.2.1)))]; done) | (simp only [pvP]; rw [if_neg (fun h => c_101 ((in_R (by omega)).mpr ((ix_ok _ (by omega) _ hb0 _ hH).mpr h.2.2)))]; done))) ?_
              exact ih_3 (k + 1) (by first | assumption | omega | (simp; done)) (by omega)
            ·
              have ho1 := (ix_ok (k % 6) hm6 a0 ha0 W hW).mp ((in_R (by omega)).mp c_84)
              refine kw_iload C 1 dX7_prints_87 rfl ?_
              refine kw_iconst (v := nI 0) C dX7_prints_89 (by decide) ?_
              refine kw_aload_n C 4 dX7_prints_90 rfl ?_
              refine kw_get (v := .ref (a 1)) (T := TX7) C 0 1 rfl rfl (by decide) (fun w h => mT (fwX7 w h)) rfl (mT wd_616) rfl dX7_prints_91 ?_
              refine kw_iconst (v := nI 1) C dX7_prints_94 (by decide) ?_
              refine kw_iald (f := Sr) C 1 rfl (by omega) (by decide) dX7_prints_95 ?_
              refine kw_top (show (Sr 1) = (nI H) from by exact hS1) ?_
              refine kw_iconst (v := nI 1) C dX7_prints_96 (by decide) ?_
              refine kw_isub C dX7_prints_97 ?_
              refine kS_i (As := [.int ((nI (k / 6)) + (dI b0)), .int (nI 0), .int ((nI H) - (nI 1))]) (rest := []) (ws' := fun (u : Unit) => kModel y a (th, Sr, dr, pa, um, im, ikp, tx, ty, sn, sm, at1, pl, tk, vl, fa, aN (pvP W H bk (ik i) i a0 b0 k pv), odr, gv, mk, bo, bq)) C (c_X7_in l G y t ((nI (k / 6)) + (dI b0)) (nI 0) ((nI H) - (nI 1))) (va_cwS 3 C.2.2.2.2.1 (goodS cT wd_688 wd_686 wd_687 wd_48) rfl rfl rfl (by decide +kernel) ⟨by decide, by decide⟩) [] [0, 1, 2, 3, 4, 5, 6, 7, 8, 9, 10, 11, 12, 13] [0, 1, 2, 3, 4, 5, 6, 7, 8, 9, 10, 11, 12, 13] rfl (by decide) rfl (by decide) (by decide) (fun _ => rfl) (by decide) rfl (Nat.le_of_ble_eq_true rfl) ⟨by decide, by decide⟩ dX7_prints_98 (fun r u hr_4 => ?_)
              subst hr_4
              refine kw_if_eq_D (tgt := 142) C dX7_prints_101 (by decide) (fun c_101 => ?_) (fun c_101 => ?_)
              ·
                refine kw_iinc (v := nI (k + 1)) C [(4, .int (nI (k + 1))), (7, .int (bI (decide (bk (6 * i + k / 6) / 2 ^ (k % 6) &&& 1 = 1)))), (6, .int ((nI (k / 6)) + (dI b0))), (5, .int ((nI (k % 6)) + (dI a0))), (0, .ref (a 0)), (1, .int (nI i)), (2, .int (dI a0)), (3, .int (dI b0))] 3 dX7_prints_142 rfl (nI_1 _) (by decide) rfl ?_
                refine kw_goto (tgt := 3) C dX7_prints_145 (by decide) ?_
                refine KW.loc (lv' := [(4, .int (nI (k + 1))), (0, .ref (a 0)), (1, .int (nI i)), (2, .int (dI a0)), (3, .int (dI b0))]) [0, 4, 5, 6, 7] rfl ?_
                refine KW.asw (congrArg (fun zz => (kModel y a (th, Sr, dr, pa, um, im, ikp, tx, ty, sn, sm, at1, pl, tk, vl, fa, zz, odr, gv, mk, bo, bq) : va_W)) (show (aN (pvP W H bk (ik i) i a0 b0 k pv)) = (aN (pvP W H bk (ik i) i a0 b0 (k + 1) pv)) from by first | (rw [upd_aN]; simp only [pvP]; rw [if_pos (And.intro (tbm_t c_67) (And.intro ho1 ho2))]; done) | (simp only [pvP]; rw [if_neg (fun h => c_67 (by rw [tbm_d, h.1]; rfl))]; done) | (simp only [pvP]; rw [if_neg (fun h => c_84 ((in_R (by omega)).mpr ((ix_ok _ (by omega) _ ha0 _ hW).mpr h.2.1)))]; done) | (simp only [pvP]; rw [if_neg (fun h => c_101 ((in_R (by omega)).mpr ((ix_ok _ (by omega) _ hb0 _ hH).mpr h.2.2)))]; done))) ?_
                exact ih_3 (k + 1) (by first | assumption | omega | (simp; done)) (by omega)
              ·
                have ho2 := (ix_ok (k / 6) hk6 b0 hb0 H hH).mp ((in_R (by omega)).mp c_101)
                refine kw_aload_n C 4 dX7_prints_104 rfl ?_
                refine kw_get (v := .ref (a 8)) (T := TX7) C 0 16 rfl rfl (by decide) (fun w h => mT (fwX7 w h)) rfl (mT wd_631) rfl dX7_prints_105 ?_
                refine kw_bipush (v := nI 6) C dX7_prints_108 (by decide) ?_
                refine kw_iload C 1 dX7_prints_110 rfl ?_
                refine kw_top (show ((nI (k / 6)) + (dI b0)) = (nI (k / 6 + b0 - 1)) from by exact ix_eq _ hk6 _ hb0 ho2.1) ?_
                refine kw_imul C dX7_prints_112 (kw_top (pk_mul _ _) ?_)
                refine kw_iload C 2 dX7_prints_113 rfl ?_
                refine kw_top (show ((nI (k % 6)) + (dI a0)) = (nI (k % 6 + a0 - 1)) from by exact ix_eq _ hm6 _ ha0 ho1.1) ?_
                refine kw_iadd C dX7_prints_115 (kw_top (nI_add _ _) ?_)
                refine kw_aload_n C 4 dX7_prints_116 rfl ?_
                refine kw_get (v := .ref (a 1)) (T := TX7) C 0 1 rfl rfl (by decide) (fun w h => mT (fwX7 w h)) rfl (mT wd_616) rfl dX7_prints_117 ?_
                refine kw_bipush (v := nI 39) C dX7_prints_120 (by decide) ?_
                refine kw_iload_n C 5 dX7_prints_122 rfl ?_
                refine kw_iadd C dX7_prints_123 (kw_top (nI_add _ _) ?_)
                refine kw_iald (f := Sr) C 1 rfl (by omega) (by decide) dX7_prints_124 ?_
                refine kw_top (show (Sr (39 + i)) = (nI (ik (i))) from by exact (hink (i) (by first | assumption | omega)).1) ?_
                have hl_124 := (hink (i) (by first | assumption | omega)).2
                refine kw_aload_n C 4 dX7_prints_125 rfl ?_
                refine kw_get (v := .ref (a 8)) (T := TX7) C 0 16 rfl rfl (by decide) (fun w h => mT (fwX7 w h)) rfl (mT wd_631) rfl dX7_prints_126 ?_
                refine kw_bipush (v := nI 6) C dX7_prints_129 (by decide) ?_
                refine kw_iload C 1 dX7_prints_131 rfl ?_
                refine kw_top (show ((nI (k / 6)) + (dI b0)) = (nI (k / 6 + b0 - 1)) from by exact ix_eq _ hk6 _ hb0 ho2.1) ?_
                refine kw_imul C dX7_prints_133 (kw_top (pk_mul _ _) ?_)
                refine kw_iload C 2 dX7_prints_134 rfl ?_
                refine kw_top (show ((nI (k % 6)) + (dI a0)) = (nI (k % 6 + a0 - 1)) from by exact ix_eq _ hm6 _ ha0 ho1.1) ?_
                refine kw_iadd C dX7_prints_136 (kw_top (nI_add _ _) ?_)
                refine kw_iald (f := aN (pvP W H bk (ik i) i a0 b0 k pv)) C 8 rfl (by omega) (by decide) dX7_prints_137 ?_
                refine kw_top (show ((aN (pvP W H bk (ik i) i a0 b0 k pv)) ((6 * (k / 6 + b0 - 1)) + (k % 6 + a0 - 1))) = (nI ((pvP W H bk (ik i) i a0 b0 k pv) ((6 * (k / 6 + b0 - 1)) + (k % 6 + a0 - 1)))) from by rfl) ?_
                refine kS_i (As := [.int (nI (ik (i))), .int (nI ((pvP W H bk (ik i) i a0 b0 k pv) ((6 * (k / 6 + b0 - 1)) + (k % 6 + a0 - 1))))]) (rest := [.int (nI ((6 * (k / 6 + b0 - 1)) + (k % 6 + a0 - 1))), .ref (a 8)]) (ws' := fun (u : Unit) => kModel y a (th, Sr, dr, pa, um, im, ikp, tx, ty, sn, sm, at1, pl, tk, vl, fa, aN (pvP W H bk (ik i) i a0 b0 k pv), odr, gv, mk, bo, bq)) C (c_X7_printed l G y t (ik (i)) ((pvP W H bk (ik i) i a0 b0 k pv) ((6 * (k / 6 + b0 - 1)) + (k % 6 + a0 - 1))) (by first | assumption | omega | decide)) (va_cwS 2 C.2.2.2.2.1 (goodS cT wd_747 wd_745 wd_746 wd_48) rfl rfl rfl (by decide +kernel) ⟨by decide, by decide⟩) [] [0, 1, 2, 3, 4, 5, 6, 7, 8, 9, 10, 11, 12, 13] [0, 1, 2, 3, 4, 5, 6, 7, 8, 9, 10, 11, 12, 13] rfl (by decide) rfl (by decide) (by decide) (fun _ => rfl) (by decide) rfl (Nat.le_of_ble_eq_true rfl) ⟨by decide, by decide⟩ dX7_prints_138 (fun r u hr_5 => ?_)
                subst hr_5
                refine kw_iast C 8 (kModel y a (th, Sr, dr, pa, um, im, ikp, tx, ty, sn, sm, at1, pl, tk, vl, fa, upd (aN (pvP W H bk (ik i) i a0 b0 k pv)) ((6 * (k / 6 + b0 - 1)) + (k % 6 + a0 - 1)) (nI (prN (ik (i)) ((pvP W H bk (ik i) i a0 b0 k pv) ((6 * (k / 6 + b0 - 1)) + (k % 6 + a0 - 1))))), odr, gv, mk, bo, bq)) rfl (by omega) (by decide) dX7_prints_141 rfl ?_
                refine kw_iinc (v := nI (k + 1)) C [(4, .int (nI (k + 1))), (7, .int (bI (decide (bk (6 * i + k / 6) / 2 ^ (k % 6) &&& 1 = 1)))), (6, .int ((nI (k / 6)) + (dI b0))), (5, .int ((nI (k % 6)) + (dI a0))), (0, .ref (a 0)), (1, .int (nI i)), (2, .int (dI a0)), (3, .int (dI b0))] 3 dX7_prints_142 rfl (nI_1 _) (by decide) rfl ?_
                refine kw_goto (tgt := 3) C dX7_prints_145 (by decide) ?_
                refine KW.loc (lv' := [(4, .int (nI (k + 1))), (0, .ref (a 0)), (1, .int (nI i)), (2, .int (dI a0)), (3, .int (dI b0))]) [0, 4, 5, 6, 7] rfl ?_
                refine KW.asw (congrArg (fun zz => (kModel y a (th, Sr, dr, pa, um, im, ikp, tx, ty, sn, sm, at1, pl, tk, vl, fa, zz, odr, gv, mk, bo, bq) : va_W)) (show (upd (aN (pvP W H bk (ik i) i a0 b0 k pv)) ((6 * (k / 6 + b0 - 1)) + (k % 6 + a0 - 1)) (nI (prN (ik (i)) ((pvP W H bk (ik i) i a0 b0 k pv) ((6 * (k / 6 + b0 - 1)) + (k % 6 + a0 - 1)))))) = (aN (pvP W H bk (ik i) i a0 b0 (k + 1) pv)) from by first | (rw [upd_aN]; simp only [pvP]; rw [if_pos (And.intro (tbm_t c_67) (And.intro ho1 ho2))]; done) | (simp only [pvP]; rw [if_neg (fun h => c_67 (by rw [tbm_d, h.1]; rfl))]; done) | (simp only [pvP]; rw [if_neg (fun h => c_84 ((in_R (by omega)).mpr ((ix_ok _ (by omega) _ ha0 _ hW).mpr h.2.1)))]; done) | (simp only [pvP]; rw [if_neg (fun h => c_101 ((in_R (by omega)).mpr ((ix_ok _ (by omega) _ hb0 _ hH).mpr h.2.2)))]; done))) ?_
                exact ih_3 (k + 1) (by first | assumption | omega | (simp; done)) (by omega)
        refine kw_icmp_ne_N (tgt := 62) C (by exact Nat.lt_of_le_of_lt Nat.and_le_right (by decide)) (by exact Nat.lt_of_le_of_lt Nat.and_le_right (by decide)) dX7_prints_55 (by decide) (fun c_55 => ?_) (fun c_55 => ?_)
        ·
          refine kw_iconst (v := nI 0) C dX7_prints_62 (by decide) ?_
          refine KW.loc (lv' := [(6, .int ((nI (k / 6)) + (dI b0))), (5, .int ((nI (k % 6)) + (dI a0))), (4, .int (nI k)), (0, .ref (a 0)), (1, .int (nI i)), (2, .int (dI a0)), (3, .int (dI b0))]) [0, 1, 2, 3, 4, 5, 6] rfl ?_
          refine KW.ass (congrArg (fun zz => ([.int zz] : List Value)) (show (nI 0) = (bI (decide (bk (6 * i + k / 6) / 2 ^ (k % 6) &&& 1 = 1))) from by first | exact (bI_t c_55).symm | exact (bI_f c_55).symm)) ?_
          exact J63_2 ()
        ·
          refine kw_iconst (v := nI 1) C dX7_prints_58 (by decide) ?_
          refine kw_goto (tgt := 63) C dX7_prints_59 (by decide) ?_
          refine KW.loc (lv' := [(6, .int ((nI (k / 6)) + (dI b0))), (5, .int ((nI (k % 6)) + (dI a0))), (4, .int (nI k)), (0, .ref (a 0)), (1, .int (nI i)), (2, .int (dI a0)), (3, .int (dI b0))]) [0, 1, 2, 3, 4, 5, 6] rfl ?_
          refine KW.ass (congrArg (fun zz => ([.int zz] : List Value)) (show (nI 1) = (bI (decide (bk (6 * i + k / 6) / 2 ^ (k % 6) &&& 1 = 1))) from by first | exact (bI_t c_55).symm | exact (bI_f c_55).symm)) ?_
          exact J63_2 ()
  refine KW.loc (lv' := [(4, .int (nI 0)), (0, .ref (a 0)), (1, .int (nI i)), (2, .int (dI a0)), (3, .int (dI b0))]) [0, 1, 2, 3, 4] rfl ?_
  refine KW.asw (congrArg (fun zz => (kModel y a (th, Sr, dr, pa, um, im, ikp, tx, ty, sn, sm, at1, pl, tk, vl, fa, zz, odr, gv, mk, bo, bq) : va_W)) (show (aN pv) = (aN (pvP W H bk (ik i) i a0 b0 0 pv)) from by rfl)) ?_
  exact L3_1 (36 - 0 + 1) 0 (by first | assumption | omega | (simp; done)) (Nat.lt_succ_self _)

set_option maxHeartbeats 4000000 in
set_option maxRecDepth 100000 in
theorem c_X7_proves (l : Launch) (G : va_G) (y : Nat → ClassId) (t : Nat) (a : Nat → Nat) (th : Int32) (Sr : Nat → Int32) (dr : Nat → Int32) (pa : Nat → Int32) (um : Int32) (im : Nat → Int32) (ikp : Nat → Int32) (tx : Nat → Int32) (ty : Int32) (sn : Nat → Int32) (sm : Int32) (at1 : Int32) (pl : Int32) (tk : Int32) (vl : Int32) (fa : Int32) (pf : Nat → Int32) (odr : Nat → Int32) (gv : Nat → Int32) (mk : Nat → Int32) (bo : Nat → Int32) (bq : Nat → Int32) (ox : Int32) (sk : Nat) (W : Nat) (H : Nat) (N : Nat) (pcl : Nat → Nat) (ik : Nat → Nat) (o : Nat → Nat) (bk : Nat → Nat) (kk : Nat → Nat) (hR : RowOk Sr W H N pcl ik o bk kk) (hsk : sk < 9) (sz : Nat) : Met l yX7_proves (Cond.code yX7_proves cX7_proves 6 (none) :: TG) ({ frames := 2, cells := 0, slots := 0, locals := 49 }) (va_Pc [.ref (a 0), .int ox, .int (dI (sk % 3)), .int (dI (sk / 3))] (PR G y t (kModel y a (th, Sr, dr, pa, um, im, ikp, tx, ty, sn, sm, at1, pl, tk, vl, fa, pf, odr, gv, mk, bo, bq)) sz)) (va_Qv (fun (u : Unit) => True) (fun (u : Unit) t => PO G (va_A (kModel y a (th, Sr, dr, pa, um, im, ikp, tx, ty, sn, sm, at1, pl, tk, vl, fa, pf, odr, gv, mk, bo, bq)) sz) (kModel y a (th, Sr, dr, pa, um, im, ikp, tx, ty, sn, sm, at1, pl, tk, vl, fa, aN (pvF W H bk ik o kk ox sk N), odr, gv, mk, bo, bq)) t) (va_A (kModel y a (th, Sr, dr, pa, um, im, ikp, tx, ty, sn, sm, at1, pl, tk, vl, fa, pf, odr, gv, mk, bo, bq)) sz)) 0 0 (va_A (kModel y a (th, Sr, dr, pa, um, im, ikp, tx, ty, sn, sm, at1, pl, tk, vl, fa, pf, odr, gv, mk, bo, bq)) sz) := by
  refine kMet (cc := cX7_proves) (maxL := 6) (ret := none) (Qc := fun A => va_Qv (fun (u : Unit) => True) (fun (u : Unit) t => PO G A (kModel y a (th, Sr, dr, pa, um, im, ikp, tx, ty, sn, sm, at1, pl, tk, vl, fa, aN (pvF W H bk ik o kk ox sk N), odr, gv, mk, bo, bq)) t) A) (by decide) rfl (Nat.le_of_ble_eq_true rfl) (fun p e s m below meth c A hsz C hin => ?_)
  obtain ⟨hS0, hS1, hS2, hW, hH, hN, hpic, hink, hord, hblk, hdx⟩ := id hR
  refine KW.loc (lv' := [(0, .ref (a 0)), (1, .int ox), (2, .int (dI (sk % 3))), (3, .int (dI (sk / 3)))]) [0, 1, 2, 3] rfl ?_
  refine kw_iconst (v := nI 0) C dX7_proves_0 (by decide) ?_
  refine kw_istore C [(4, .int (nI 0)), (0, .ref (a 0)), (1, .int ox), (2, .int (dI (sk % 3))), (3, .int (dI (sk / 3)))] dX7_proves_1 (by decide) rfl ?_
  have L3_1 : ∀ (nn : Nat) (k : Nat) (f0 : Nat → Int32) (hk : k ≤ 36) (hf0 : ∀ j, j < k → f0 j = nI 0) (hms : 36 - k < nn), KW p l e ({ frames := 2, cells := 0, slots := 0, locals := 49 }) s m ([.ref (a 0), .int ox, .int (dI (sk % 3)), .int (dI (sk / 3))] : List Value).toArray below meth c 0 0 (MQ below (va_Qv (fun (u : Unit) => True) (fun (u : Unit) t => PO G A (kModel y a (th, Sr, dr, pa, um, im, ikp, tx, ty, sn, sm, at1, pl, tk, vl, fa, aN (pvF W H bk ik o kk ox sk N), odr, gv, mk, bo, bq)) t) A) ([.ref (a 0), .int ox, .int (dI (sk % 3)), .int (dI (sk / 3))] : List Value).toArray s 0 0 A) G A 6 (kModel y a (th, Sr, dr, pa, um, im, ikp, tx, ty, sn, sm, at1, pl, tk, vl, fa, f0, odr, gv, mk, bo, bq)) [(4, .int (nI k)), (0, .ref (a 0)), (1, .int ox), (2, .int (dI (sk % 3))), (3, .int (dI (sk / 3)))] 3 [] := by
    intro nn
    induction nn with
    | zero => intro k f0 hk hf0 hms; exact absurd hms (Nat.not_lt_zero _)
    | succ nn ih_3 =>
      intro k f0 hk hf0 hms
      refine kw_iload C 0 dX7_proves_3 rfl ?_
      refine kw_bipush (v := nI 36) C dX7_proves_5 (by decide) ?_
      refine kw_icmp_ge_N (tgt := 24) C (by omega) (by omega) dX7_proves_7 (by decide) (fun c_7 => ?_) (fun c_7 => ?_)
      ·
        refine kw_iconst (v := nI 0) C dX7_proves_24 (by decide) ?_
        refine kw_exti (aN (fun _ => 0)) 8 (kModel y a (th, Sr, dr, pa, um, im, ikp, tx, ty, sn, sm, at1, pl, tk, vl, fa, aN (fun _ => 0), odr, gv, mk, bo, bq)) rfl (by intro j hj; exact hf0 j (by omega)) rfl ?_
        refine kw_istore C [(4, .int (nI 0)), (0, .ref (a 0)), (1, .int ox), (2, .int (dI (sk % 3))), (3, .int (dI (sk / 3)))] dX7_proves_25 (by decide) rfl ?_
        have L27_2 : ∀ (nn : Nat) (i : Nat) (hi : i ≤ N) (hpv : ∀ j, (pvF W H bk ik o kk ox sk i) j < 8) (hms : N - i < nn), KW p l e ({ frames := 2, cells := 0, slots := 0, locals := 49 }) s m ([.ref (a 0), .int ox, .int (dI (sk % 3)), .int (dI (sk / 3))] : List Value).toArray below meth c 0 0 (MQ below (va_Qv (fun (u : Unit) => True) (fun (u : Unit) t => PO G A (kModel y a (th, Sr, dr, pa, um, im, ikp, tx, ty, sn, sm, at1, pl, tk, vl, fa, aN (pvF W H bk ik o kk ox sk N), odr, gv, mk, bo, bq)) t) A) ([.ref (a 0), .int ox, .int (dI (sk % 3)), .int (dI (sk / 3))] : List Value).toArray s 0 0 A) G A 6 (kModel y a (th, Sr, dr, pa, um, im, ikp, tx, ty, sn, sm, at1, pl, tk, vl, fa, aN (pvF W H bk ik o kk ox sk i), odr, gv, mk, bo, bq)) [(4, .int (nI i)), (0, .ref (a 0)), (1, .int ox), (2, .int (dI (sk % 3))), (3, .int (dI (sk / 3)))] 27 [] := by
          intro nn
          induction nn with
          | zero => intro i hi hpv hms; exact absurd hms (Nat.not_lt_zero _)
          | succ nn ih_27 =>
            intro i hi hpv hms
            refine kw_iload C 0 dX7_proves_27 rfl ?_
            refine kw_aload_n C 1 dX7_proves_29 rfl ?_
            refine kw_get (v := .ref (a 1)) (T := TX7) C 0 1 rfl rfl (by decide) (fun w h => mT (fwX7 w h)) rfl (mT wd_616) rfl dX7_proves_30 ?_
            refine kw_iconst (v := nI 2) C dX7_proves_33 (by decide) ?_
            refine kw_iald (f := Sr) C 1 rfl (by omega) (by decide) dX7_proves_34 ?_
            refine kw_top (show (Sr 2) = (nI N) from by exact hS2) ?_
            refine kw_icmp_ge_N (tgt := 102) C (by omega) (by omega) dX7_proves_35 (by decide) (fun c_35 => ?_) (fun c_35 => ?_)
            ·
              rw [show i = N from by omega]
              refine kR_v C () dX7_proves_102 ?_ rfl
              first | rfl | trivial | (simp; done) | omega
            ·
              refine kw_aload_n C 1 dX7_proves_38 rfl ?_
              refine kw_get (v := .ref (a 1)) (T := TX7) C 0 1 rfl rfl (by decide) (fun w h => mT (fwX7 w h)) rfl (mT wd_616) rfl dX7_proves_39 ?_
              refine kw_bipush (v := nI 45) C dX7_proves_42 (by decide) ?_
              refine kw_iload C 0 dX7_proves_44 rfl ?_
              refine kw_iadd C dX7_proves_46 (kw_top (nI_add _ _) ?_)
              refine kw_iald (f := Sr) C 1 rfl (by omega) (by decide) dX7_proves_47 ?_
              refine kw_top (show (Sr (45 + i)) = (nI (o (i))) from by exact (hord (i) (by first | assumption | omega)).1) ?_
              have hl_47 := (hord (i) (by first | assumption | omega)).2
              refine kw_istore C [(5, .int (nI (o (i)))), (4, .int (nI i)), (0, .ref (a 0)), (1, .int ox), (2, .int (dI (sk % 3))), (3, .int (dI (sk / 3)))] dX7_proves_48 (by decide) rfl ?_
              refine kw_aload_n C 2 dX7_proves_50 rfl ?_
              refine kw_iload C 0 dX7_proves_51 rfl ?_
              refine kw_iload C 0 dX7_proves_53 rfl ?_
              refine kw_iload_n C 3 dX7_proves_55 rfl ?_
              have J73_3 : ∀ (_ : Unit), KW p l e ({ frames := 2, cells := 0, slots := 0, locals := 49 }) s m ([.ref (a 0), .int ox, .int (dI (sk % 3)), .int (dI (sk / 3))] : List Value).toArray below meth c 0 0 (MQ below (va_Qv (fun (u : Unit) => True) (fun (u : Unit) t => PO G A (kModel y a (th, Sr, dr, pa, um, im, ikp, tx, ty, sn, sm, at1, pl, tk, vl, fa, aN (pvF W H bk ik o kk ox sk N), odr, gv, mk, bo, bq)) t) A) ([.ref (a 0), .int ox, .int (dI (sk % 3)), .int (dI (sk / 3))] : List Value).toArray s 0 0 A) G A 6 (kModel y a (th, Sr, dr, pa, um, im, ikp, tx, ty, sn, sm, at1, pl, tk, vl, fa, aN (pvF W H bk ik o kk ox sk i), odr, gv, mk, bo, bq)) [(5, .int (nI (o (i)))), (4, .int (nI i)), (0, .ref (a 0)), (1, .int ox), (2, .int (dI (sk % 3))), (3, .int (dI (sk / 3)))] 73 [.int (dI (slOf ox sk kk (o i) % 3)), .int (nI (o (i))), .ref (a 0)] := by
                intro _
                refine kw_iload C 0 dX7_proves_73 rfl ?_
                refine kw_iload_n C 3 dX7_proves_75 rfl ?_
                have J93_4 : ∀ (_ : Unit), KW p l e ({ frames := 2, cells := 0, slots := 0, locals := 49 }) s m ([.ref (a 0), .int ox, .int (dI (sk % 3)), .int (dI (sk / 3))] : List Value).toArray below meth c 0 0 (MQ below (va_Qv (fun (u : Unit) => True) (fun (u : Unit) t => PO G A (kModel y a (th, Sr, dr, pa, um, im, ikp, tx, ty, sn, sm, at1, pl, tk, vl, fa, aN (pvF W H bk ik o kk ox sk N), odr, gv, mk, bo, bq)) t) A) ([.ref (a 0), .int ox, .int (dI (sk % 3)), .int (dI (sk / 3))] : List Value).toArray s 0 0 A) G A 6 (kModel y a (th, Sr, dr, pa, um, im, ikp, tx, ty, sn, sm, at1, pl, tk, vl, fa, aN (pvF W H bk ik o kk ox sk i), odr, gv, mk, bo, bq)) [(5, .int (nI (o (i)))), (4, .int (nI i)), (0, .ref (a 0)), (1, .int ox), (2, .int (dI (sk % 3))), (3, .int (dI (sk / 3)))] 93 [.int (dI (slOf ox sk kk (o i) / 3)), .int (dI (slOf ox sk kk (o i) % 3)), .int (nI (o (i))), .ref (a 0)] := by
                  intro _
                  have hs9 : slOf ox sk kk (o i) < 9 := by unfold slOf; split; exact hsk; exact (hdx _ hl_47).2.2
                  refine kV_v (As := [.int (nI (o (i))), .int (dI (slOf ox sk kk (o i) % 3)), .int (dI (slOf ox sk kk (o i) / 3))]) (rest := []) (ws' := fun (u : Unit) => kModel y a (th, Sr, dr, pa, um, im, ikp, tx, ty, sn, sm, at1, pl, tk, vl, fa, aN (pvP W H bk (ik (o (i))) (o (i)) (slOf ox sk kk (o i) % 3) (slOf ox sk kk (o i) / 3) 36 (pvF W H bk ik o kk ox sk i)), odr, gv, mk, bo, bq)) C (c_X7_prints l G y t a th Sr dr pa um im ikp tx ty sn sm at1 pl tk vl fa odr gv mk bo bq (pvF W H bk ik o kk ox sk i) (o (i)) (slOf ox sk kk (o i) % 3) (slOf ox sk kk (o i) / 3) W H N pcl ik o bk kk (by exact hR) (by exact hl_47) (by first | assumption | omega | decide) (by first | assumption | omega | decide) (by first | assumption | omega | decide)) (cwV 3 C.2.2.2.2.1 (goodV cT wd_790 wd_787 wd_789 wd_30 wd_48) rfl rfl rfl (by decide +kernel) ⟨by decide, by decide⟩) [0, 1, 2, 3, 4, 5, 6, 7, 8, 9, 10, 11, 12, 13] [] [0, 1, 2, 3, 4, 5, 6, 7, 8, 9, 10, 11, 12, 13] rfl (by decide) rfl (by decide) (by decide) (fun _ => rfl) (by decide) 0 rfl rfl rfl (Nat.le_of_ble_eq_true rfl) ⟨by decide, by decide⟩ dX7_proves_93 (fun u hr_5 => ?_)
                  refine kw_iinc (v := nI (i + 1)) C [(4, .int (nI (i + 1))), (5, .int (nI (o (i)))), (0, .ref (a 0)), (1, .int ox), (2, .int (dI (sk % 3))), (3, .int (dI (sk / 3)))] 1 dX7_proves_96 rfl (nI_1 _) (by decide) rfl ?_
                  refine kw_goto (tgt := 27) C dX7_proves_99 (by decide) ?_
                  refine KW.loc (lv' := [(4, .int (nI (i + 1))), (0, .ref (a 0)), (1, .int ox), (2, .int (dI (sk % 3))), (3, .int (dI (sk / 3)))]) [0, 2, 3, 4, 5] rfl ?_
                  refine KW.asw (congrArg (fun zz => (kModel y a (th, Sr, dr, pa, um, im, ikp, tx, ty, sn, sm, at1, pl, tk, vl, fa, zz, odr, gv, mk, bo, bq) : va_W)) (show (aN (pvP W H bk (ik (o (i))) (o (i)) (slOf ox sk kk (o i) % 3) (slOf ox sk kk (o i) / 3) 36 (pvF W H bk ik o kk ox sk i))) = (aN (pvF W H bk ik o kk ox sk (i + 1))) from by rfl)) ?_
                  exact ih_27 (i + 1) (by first | assumption | omega | (simp; done)) (by exact fun j => pvP_lt (hink _ hl_47).2 hpv 36 j) (by omega)
                refine kw_icmp_ne (tgt := 83) C dX7_proves_76 (by decide) (fun c_76 => ?_) (fun c_76 => ?_)
                ·
                  refine kw_aload_n C 2 dX7_proves_83 rfl ?_
                  refine kw_get (v := .ref (a 1)) (T := TX7) C 0 1 rfl rfl (by decide) (fun w h => mT (fwX7 w h)) rfl (mT wd_616) rfl dX7_proves_84 ?_
                  refine kw_bipush (v := nI 93) C dX7_proves_87 (by decide) ?_
                  refine kw_iload C 0 dX7_proves_89 rfl ?_
                  refine kw_iadd C dX7_proves_91 (kw_top (nI_add _ _) ?_)
                  refine kw_iald (f := Sr) C 1 rfl (by omega) (by decide) dX7_proves_92 ?_
                  refine kw_top (show (Sr (93 + (o (i)))) = (dI (kk (o i) / 3)) from by exact (hdx (o i) (by first | assumption | omega)).2.1) ?_
                  have hl_92 := (hdx (o i) (by first | assumption | omega)).2.2
                  refine KW.loc (lv' := [(5, .int (nI (o (i)))), (4, .int (nI i)), (0, .ref (a 0)), (1, .int ox), (2, .int (dI (sk % 3))), (3, .int (dI (sk / 3)))]) [0, 1, 2, 3, 4, 5] rfl ?_
                  refine KW.ass (congrArg (fun zz => ([.int zz, .int (dI (slOf ox sk kk (o i) % 3)), .int (nI (o (i))), .ref (a 0)] : List Value)) (show (dI (kk (o i) / 3)) = (dI (slOf ox sk kk (o i) / 3)) from by first | (unfold slOf; rw [if_pos c_76]; done) | (unfold slOf; rw [if_neg c_76]; done))) ?_
                  exact J93_4 ()
                ·
                  refine kw_iload_n C 5 dX7_proves_79 rfl ?_
                  refine kw_goto (tgt := 93) C dX7_proves_80 (by decide) ?_
                  refine KW.loc (lv' := [(5, .int (nI (o (i)))), (4, .int (nI i)), (0, .ref (a 0)), (1, .int ox), (2, .int (dI (sk % 3))), (3, .int (dI (sk / 3)))]) [0, 1, 2, 3, 4, 5] rfl ?_
                  refine KW.ass (congrArg (fun zz => ([.int zz, .int (dI (slOf ox sk kk (o i) % 3)), .int (nI (o (i))), .ref (a 0)] : List Value)) (show (dI (sk / 3)) = (dI (slOf ox sk kk (o i) / 3)) from by first | (unfold slOf; rw [if_pos c_76]; done) | (unfold slOf; rw [if_neg c_76]; done))) ?_
                  exact J93_4 ()
              refine kw_icmp_ne (tgt := 63) C dX7_proves_56 (by decide) (fun c_56 => ?_) (fun c_56 => ?_)
              ·
                refine kw_aload_n C 2 dX7_proves_63 rfl ?_
                refine kw_get (v := .ref (a 1)) (T := TX7) C 0 1 rfl rfl (by decide) (fun w h => mT (fwX7 w h)) rfl (mT wd_616) rfl dX7_proves_64 ?_
                refine kw_bipush (v := nI 87) C dX7_proves_67 (by decide) ?_
                refine kw_iload C 0 dX7_proves_69 rfl ?_
                refine kw_iadd C dX7_proves_71 (kw_top (nI_add _ _) ?_)
                refine kw_iald (f := Sr) C 1 rfl (by omega) (by decide) dX7_proves_72 ?_
                refine kw_top (show (Sr (87 + (o (i)))) = (dI (kk (o i) % 3)) from by exact (hdx (o i) (by first | assumption | omega)).1) ?_
                have hl_72 := (hdx (o i) (by first | assumption | omega)).2.2
                refine KW.loc (lv' := [(5, .int (nI (o (i)))), (4, .int (nI i)), (0, .ref (a 0)), (1, .int ox), (2, .int (dI (sk % 3))), (3, .int (dI (sk / 3)))]) [0, 1, 2, 3, 4, 5] rfl ?_
                refine KW.ass (congrArg (fun zz => ([.int zz, .int (nI (o (i))), .ref (a 0)] : List Value)) (show (dI (kk (o i) % 3)) = (dI (slOf ox sk kk (o i) % 3)) from by first | (unfold slOf; rw [if_pos c_56]; done) | (unfold slOf; rw [if_neg c_56]; done))) ?_
                exact J73_3 ()
              ·
                refine kw_iload_n C 4 dX7_proves_59 rfl ?_
                refine kw_goto (tgt := 73) C dX7_proves_60 (by decide) ?_
                refine KW.loc (lv' := [(5, .int (nI (o (i)))), (4, .int (nI i)), (0, .ref (a 0)), (1, .int ox), (2, .int (dI (sk % 3))), (3, .int (dI (sk / 3)))]) [0, 1, 2, 3, 4, 5] rfl ?_
                refine KW.ass (congrArg (fun zz => ([.int zz, .int (nI (o (i))), .ref (a 0)] : List Value)) (show (dI (sk % 3)) = (dI (slOf ox sk kk (o i) % 3)) from by first | (unfold slOf; rw [if_pos c_56]; done) | (unfold slOf; rw [if_neg c_56]; done))) ?_
                exact J73_3 ()
        refine KW.loc (lv' := [(4, .int (nI 0)), (0, .ref (a 0)), (1, .int ox), (2, .int (dI (sk % 3))), (3, .int (dI (sk / 3)))]) [0, 1, 2, 3, 4] rfl ?_
        refine KW.asw (congrArg (fun zz => (kModel y a (th, Sr, dr, pa, um, im, ikp, tx, ty, sn, sm, at1, pl, tk, vl, fa, zz, odr, gv, mk, bo, bq) : va_W)) (show (aN (fun _ => 0)) = (aN (pvF W H bk ik o kk ox sk 0)) from by rfl)) ?_
        exact L27_2 (N - 0 + 1) 0 (by first | assumption | omega | (simp; done)) (by intro j; show 0 < 8; decide) (Nat.lt_succ_self _)
      ·
        refine kw_aload_n C 1 dX7_proves_10 rfl ?_
        refine kw_get (v := .ref (a 8)) (T := TX7) C 0 16 rfl rfl (by decide) (fun w h => mT (fwX7 w h)) rfl (mT wd_631) rfl dX7_proves_11 ?_
        refine kw_iload C 0 dX7_proves_14 rfl ?_
        refine kw_iconst (v := nI 0) C dX7_proves_16 (by decide) ?_
        refine kw_iast C 8 (kModel y a (th, Sr, dr, pa, um, im, ikp, tx, ty, sn, sm, at1, pl, tk, vl, fa, upd f0 k (nI 0), odr, gv, mk, bo, bq)) rfl (by omega) (by decide) dX7_proves_17 rfl ?_
        refine kw_iinc (v := nI (k + 1)) C [(4, .int (nI (k + 1))), (0, .ref (a 0)), (1, .int ox), (2, .int (dI (sk % 3))), (3, .int (dI (sk / 3)))] 0 dX7_proves_18 rfl (nI_1 _) (by decide) rfl ?_
        refine kw_goto (tgt := 3) C dX7_proves_21 (by decide) ?_
        refine KW.loc (lv' := [(4, .int (nI (k + 1))), (0, .ref (a 0)), (1, .int ox), (2, .int (dI (sk % 3))), (3, .int (dI (sk / 3)))]) [0, 1, 2, 3, 4] rfl ?_
        exact ih_3 (k + 1) (upd f0 k (nI 0)) (by first | assumption | omega | (simp; done)) (by intro j hj; rcases Nat.lt_or_ge j k with h | h; rw [pk_un (by omega)]; exact hf0 j h; rw [show j = k from by omega]; exact pk_us) (by omega)
  refine KW.loc (lv' := [(4, .int (nI 0)), (0, .ref (a 0)), (1, .int ox), (2, .int (dI (sk % 3))), (3, .int (dI (sk / 3)))]) [0, 1, 2, 3, 4] rfl ?_
  exact L3_1 (36 - 0 + 1) 0 pf (by first | assumption | omega | (simp; done)) (by intro j hj; exact absurd hj (Nat.not_lt_zero _)) (Nat.lt_succ_self _)

set_option maxHeartbeats 4000000 in
set_option maxRecDepth 100000 in
theorem c_X7_wrongCells (l : Launch) (G : va_G) (y : Nat → ClassId) (t : Nat) (a : Nat → Nat) (th : Int32) (Sr : Nat → Int32) (dr : Nat → Int32) (pa : Nat → Int32) (um : Int32) (im : Nat → Int32) (ikp : Nat → Int32) (tx : Nat → Int32) (ty : Int32) (sn : Nat → Int32) (sm : Int32) (at1 : Int32) (pl : Int32) (tk : Int32) (vl : Int32) (fa : Int32) (odr : Nat → Int32) (gv : Nat → Int32) (mk : Nat → Int32) (bo : Nat → Int32) (bq : Nat → Int32) (pv : Nat → Nat) (W : Nat) (H : Nat) (N : Nat) (pcl : Nat → Nat) (ik : Nat → Nat) (o : Nat → Nat) (bk : Nat → Nat) (kk : Nat → Nat) (hR : RowOk Sr W H N pcl ik o bk kk) (hpv : ∀ j, pv j < 8) (sz : Nat) : Met l yX7_wrongCells (Cond.code yX7_wrongCells cX7_wrongCells 4 (some .int) :: TG) ({ frames := 0, cells := 0, slots := 0, locals := 0 }) (va_Pc [.ref (a 0)] (PR G y t (kModel y a (th, Sr, dr, pa, um, im, ikp, tx, ty, sn, sm, at1, pl, tk, vl, fa, aN pv, odr, gv, mk, bo, bq)) sz)) (va_Qi (fun (r : Int32) (u : Unit) => r = (nI (wcY pv pcl W H))) (fun (u : Unit) t => PO G (va_A (kModel y a (th, Sr, dr, pa, um, im, ikp, tx, ty, sn, sm, at1, pl, tk, vl, fa, aN pv, odr, gv, mk, bo, bq)) sz) (kModel y a (th, Sr, dr, pa, um, im, ikp, tx, ty, sn, sm, at1, pl, tk, vl, fa, aN pv, odr, gv, mk, bo, bq)) t) (va_A (kModel y a (th, Sr, dr, pa, um, im, ikp, tx, ty, sn, sm, at1, pl, tk, vl, fa, aN pv, odr, gv, mk, bo, bq)) sz)) 0 0 (va_A (kModel y a (th, Sr, dr, pa, um, im, ikp, tx, ty, sn, sm, at1, pl, tk, vl, fa, aN pv, odr, gv, mk, bo, bq)) sz) := by
  refine kMet (cc := cX7_wrongCells) (maxL := 4) (ret := some .int) (Qc := fun A => va_Qi (fun (r : Int32) (u : Unit) => r = (nI (wcY pv pcl W H))) (fun (u : Unit) t => PO G A (kModel y a (th, Sr, dr, pa, um, im, ikp, tx, ty, sn, sm, at1, pl, tk, vl, fa, aN pv, odr, gv, mk, bo, bq)) t) A) (by decide) rfl (Nat.le_of_ble_eq_true rfl) (fun p e s m below meth c A hsz C hin => ?_)
  obtain ⟨hS0, hS1, hS2, hW, hH, hN, hpic, hink, hord, hblk, hdx⟩ := id hR
  refine KW.loc (lv' := [(0, .ref (a 0))]) [0] rfl ?_
  refine kw_iconst (v := nI 0) C dX7_wrongCells_0 (by decide) ?_
  refine kw_istore_n C [(1, .int (nI 0)), (0, .ref (a 0))] dX7_wrongCells_1 rfl (by decide) rfl ?_
  refine kw_iconst (v := nI 0) C dX7_wrongCells_2 (by decide) ?_
  refine kw_istore_n C [(2, .int (nI 0)), (1, .int (nI 0)), (0, .ref (a 0))] dX7_wrongCells_3 rfl (by decide) rfl ?_
  have L4_1 : ∀ (nn : Nat) (yy : Nat) (hyy : yy ≤ H) (hms : H - yy < nn), KW p l e ({ frames := 0, cells := 0, slots := 0, locals := 0 }) s m ([.ref (a 0)] : List Value).toArray below meth c 0 0 (MQ below (va_Qi (fun (r : Int32) (u : Unit) => r = (nI (wcY pv pcl W H))) (fun (u : Unit) t => PO G A (kModel y a (th, Sr, dr, pa, um, im, ikp, tx, ty, sn, sm, at1, pl, tk, vl, fa, aN pv, odr, gv, mk, bo, bq)) t) A) ([.ref (a 0)] : List Value).toArray s 0 0 A) G A 4 (kModel y a (th, Sr, dr, pa, um, im, ikp, tx, ty, sn, sm, at1, pl, tk, vl, fa, aN pv, odr, gv, mk, bo, bq)) [(2, .int (nI yy)), (1, .int (nI (wcY pv pcl W yy))), (0, .ref (a 0))] 4 [] := by
    intro nn
    induction nn with
    | zero => intro yy hyy hms; exact absurd hms (Nat.not_lt_zero _)
    | succ nn ih_4 =>
      intro yy hyy hms
      refine kw_iload_n C 0 dX7_wrongCells_4 rfl ?_
      refine kw_aload_n C 2 dX7_wrongCells_5 rfl ?_
      refine kw_get (v := .ref (a 1)) (T := TX7) C 0 1 rfl rfl (by decide) (fun w h => mT (fwX7 w h)) rfl (mT wd_616) rfl dX7_wrongCells_6 ?_
      refine kw_iconst (v := nI 1) C dX7_wrongCells_9 (by decide) ?_
      refine kw_iald (f := Sr) C 1 rfl (by omega) (by decide) dX7_wrongCells_10 ?_
      refine kw_top (show (Sr 1) = (nI H) from by exact hS1) ?_
      refine kw_icmp_ge_N (tgt := 73) C (by omega) (by omega) dX7_wrongCells_11 (by decide) (fun c_11 => ?_) (fun c_11 => ?_)
      ·
        refine kw_iload_n C 1 dX7_wrongCells_73 rfl ?_
        refine kR_i C () dX7_wrongCells_74 ?_ rfl
        rw [show yy = H from by omega]
      ·
        refine kw_iconst (v := nI 0) C dX7_wrongCells_14 (by decide) ?_
        refine kw_istore_n C [(3, .int (nI 0)), (2, .int (nI yy)), (1, .int (nI (wcY pv pcl W yy))), (0, .ref (a 0))] dX7_wrongCells_15 rfl (by decide) rfl ?_
        have L16_2 : ∀ (nn : Nat) (xx : Nat) (hxx : xx ≤ W) (hms : W - xx < nn), KW p l e ({ frames := 0, cells := 0, slots := 0, locals := 0 }) s m ([.ref (a 0)] : List Value).toArray below meth c 0 0 (MQ below (va_Qi (fun (r : Int32) (u : Unit) => r = (nI (wcY pv pcl W H))) (fun (u : Unit) t => PO G A (kModel y a (th, Sr, dr, pa, um, im, ikp, tx, ty, sn, sm, at1, pl, tk, vl, fa, aN pv, odr, gv, mk, bo, bq)) t) A) ([.ref (a 0)] : List Value).toArray s 0 0 A) G A 4 (kModel y a (th, Sr, dr, pa, um, im, ikp, tx, ty, sn, sm, at1, pl, tk, vl, fa, aN pv, odr, gv, mk, bo, bq)) [(3, .int (nI xx)), (2, .int (nI yy)), (1, .int (nI (wcY pv pcl W yy + wcX pv pcl yy xx))), (0, .ref (a 0))] 16 [] := by
          intro nn
          induction nn with
          | zero => intro xx hxx hms; exact absurd hms (Nat.not_lt_zero _)
          | succ nn ih_16 =>
            intro xx hxx hms
            refine kw_iload_n C 0 dX7_wrongCells_16 rfl ?_
            refine kw_aload_n C 3 dX7_wrongCells_17 rfl ?_
            refine kw_get (v := .ref (a 1)) (T := TX7) C 0 1 rfl rfl (by decide) (fun w h => mT (fwX7 w h)) rfl (mT wd_616) rfl dX7_wrongCells_18 ?_
            refine kw_iconst (v := nI 0) C dX7_wrongCells_21 (by decide) ?_
            refine kw_iald (f := Sr) C 1 rfl (by omega) (by decide) dX7_wrongCells_22 ?_
            refine kw_top (show (Sr 0) = (nI W) from by exact hS0) ?_
            refine kw_icmp_ge_N (tgt := 67) C (by omega) (by omega) dX7_wrongCells_23 (by decide) (fun c_23 => ?_) (fun c_23 => ?_)
            ·
              refine kw_iinc (v := nI (yy + 1)) C [(2, .int (nI (yy + 1))), (3, .int (nI xx)), (1, .int (nI (wcY pv pcl W yy + wcX pv pcl yy xx))), (0, .ref (a 0))] 1 dX7_wrongCells_67 rfl (nI_1 _) (by decide) rfl ?_
              refine kw_goto (tgt := 4) C dX7_wrongCells_70 (by decide) ?_
              refine KW.loc (lv' := [(2, .int (nI (yy + 1))), (1, .int (nI (wcY pv pcl W yy + wcX pv pcl yy xx))), (0, .ref (a 0))]) [0, 2, 3] rfl ?_
              refine KW.asl (congrArg (fun zz => ([(2, .int (nI (yy + 1))), (1, .int zz), (0, .ref (a 0))] : List (Nat × Value))) (show (nI (wcY pv pcl W yy + wcX pv pcl yy xx)) = (nI (wcY pv pcl W (yy + 1))) from by rw [show xx = W from by omega]; rfl)) ?_
              exact ih_4 (yy + 1) (by first | assumption | omega | (simp; done)) (by omega)
            ·
              refine kw_iload_n C 2 dX7_wrongCells_26 rfl ?_
              refine kw_aload_n C 3 dX7_wrongCells_27 rfl ?_
              refine kw_get (v := .ref (a 8)) (T := TX7) C 0 16 rfl rfl (by decide) (fun w h => mT (fwX7 w h)) rfl (mT wd_631) rfl dX7_wrongCells_28 ?_
              refine kw_bipush (v := nI 6) C dX7_wrongCells_31 (by decide) ?_
              refine kw_iload_n C 1 dX7_wrongCells_33 rfl ?_
              refine kw_imul C dX7_wrongCells_34 (kw_top (pk_mul _ _) ?_)
              refine kw_iload_n C 0 dX7_wrongCells_35 rfl ?_
              refine kw_iadd C dX7_wrongCells_36 (kw_top (nI_add _ _) ?_)
              refine kw_iald (f := aN pv) C 8 rfl (by omega) (by decide) dX7_wrongCells_37 ?_
              refine kw_top (show ((aN pv) ((6 * yy) + xx)) = (nI (pv ((6 * yy) + xx))) from by rfl) ?_
              refine kw_aload_n C 3 dX7_wrongCells_38 rfl ?_
              refine kw_get (v := .ref (a 1)) (T := TX7) C 0 1 rfl rfl (by decide) (fun w h => mT (fwX7 w h)) rfl (mT wd_616) rfl dX7_wrongCells_39 ?_
              refine kw_iconst (v := nI 3) C dX7_wrongCells_42 (by decide) ?_
              refine kw_bipush (v := nI 6) C dX7_wrongCells_43 (by decide) ?_
              refine kw_iload_n C 1 dX7_wrongCells_45 rfl ?_
              refine kw_imul C dX7_wrongCells_46 (kw_top (pk_mul _ _) ?_)
              refine kw_iadd C dX7_wrongCells_47 (kw_top (nI_add _ _) ?_)
              refine kw_iload_n C 0 dX7_wrongCells_48 rfl ?_
              refine kw_iadd C dX7_wrongCells_49 (kw_top (nI_add _ _) ?_)
              refine kw_iald (f := Sr) C 1 rfl (by omega) (by decide) dX7_wrongCells_50 ?_
              refine kw_top (show (Sr ((3 + (6 * yy)) + xx)) = (nI (pcl (6 * yy + xx))) from by exact (hpic (yy) (xx) (by first | assumption | omega) (by first | assumption | omega)).1) ?_
              have hl_50 := (hpic (yy) (xx) (by first | assumption | omega) (by first | assumption | omega)).2
              have J59_3 : ∀ (_ : Unit), KW p l e ({ frames := 0, cells := 0, slots := 0, locals := 0 }) s m ([.ref (a 0)] : List Value).toArray below meth c 0 0 (MQ below (va_Qi (fun (r : Int32) (u : Unit) => r = (nI (wcY pv pcl W H))) (fun (u : Unit) t => PO G A (kModel y a (th, Sr, dr, pa, um, im, ikp, tx, ty, sn, sm, at1, pl, tk, vl, fa, aN pv, odr, gv, mk, bo, bq)) t) A) ([.ref (a 0)] : List Value).toArray s 0 0 A) G A 4 (kModel y a (th, Sr, dr, pa, um, im, ikp, tx, ty, sn, sm, at1, pl, tk, vl, fa, aN pv, odr, gv, mk, bo, bq)) [(3, .int (nI xx)), (2, .int (nI yy)), (1, .int (nI (wcY pv pcl W yy + wcX pv pcl yy xx))), (0, .ref (a 0))] 59 [.int (nI (if pv (6 * yy + xx) = pcl (6 * yy + xx) then 0 else 1)), .int (nI (wcY pv pcl W yy + wcX pv pcl yy xx))] := by
                intro _
                refine kw_iadd C dX7_wrongCells_59 (kw_top (nI_add _ _) ?_)
                refine kw_istore_n C [(1, .int (nI ((wcY pv pcl W yy + wcX pv pcl yy xx) + (if pv (6 * yy + xx) = pcl (6 * yy + xx) then 0 else 1)))), (3, .int (nI xx)), (2, .int (nI yy)), (0, .ref (a 0))] dX7_wrongCells_60 rfl (by decide) rfl ?_
                refine kw_iinc (v := nI (xx + 1)) C [(3, .int (nI (xx + 1))), (1, .int (nI ((wcY pv pcl W yy + wcX pv pcl yy xx) + (if pv (6 * yy + xx) = pcl (6 * yy + xx) then 0 else 1)))), (2, .int (nI yy)), (0, .ref (a 0))] 1 dX7_wrongCells_61 rfl (nI_1 _) (by decide) rfl ?_
                refine kw_goto (tgt := 16) C dX7_wrongCells_64 (by decide) ?_
                refine KW.loc (lv' := [(3, .int (nI (xx + 1))), (2, .int (nI yy)), (1, .int (nI ((wcY pv pcl W yy + wcX pv pcl yy xx) + (if pv (6 * yy + xx) = pcl (6 * yy + xx) then 0 else 1)))), (0, .ref (a 0))]) [0, 2, 1, 3] rfl ?_
                refine KW.asl (congrArg (fun zz => ([(3, .int (nI (xx + 1))), (2, .int (nI yy)), (1, .int zz), (0, .ref (a 0))] : List (Nat × Value))) (show (nI ((wcY pv pcl W yy + wcX pv pcl yy xx) + (if pv (6 * yy + xx) = pcl (6 * yy + xx) then 0 else 1))) = (nI (wcY pv pcl W yy + wcX pv pcl yy (xx + 1))) from by simp only [wcX]; first | rfl | (rw [Nat.add_assoc]; done))) ?_
                exact ih_16 (xx + 1) (by first | assumption | omega | (simp; done)) (by omega)
              refine kw_icmp_ne_N (tgt := 58) C (by first | omega | exact Nat.lt_trans (hpv _) (by decide)) (by first | omega | exact Nat.lt_trans (hpv _) (by decide)) dX7_wrongCells_51 (by decide) (fun c_51 => ?_) (fun c_51 => ?_)
              ·
                refine kw_iconst (v := nI 1) C dX7_wrongCells_58 (by decide) ?_
                refine KW.loc (lv' := [(3, .int (nI xx)), (2, .int (nI yy)), (1, .int (nI (wcY pv pcl W yy + wcX pv pcl yy xx))), (0, .ref (a 0))]) [0, 1, 2, 3] rfl ?_
                refine KW.ass (congrArg (fun zz => ([.int zz, .int (nI (wcY pv pcl W yy + wcX pv pcl yy xx))] : List Value)) (show (nI 1) = (nI (if pv (6 * yy + xx) = pcl (6 * yy + xx) then 0 else 1)) from by first | rw [if_pos c_51] | rw [if_neg c_51])) ?_
                exact J59_3 ()
              ·
                refine kw_iconst (v := nI 0) C dX7_wrongCells_54 (by decide) ?_
                refine kw_goto (tgt := 59) C dX7_wrongCells_55 (by decide) ?_
                refine KW.loc (lv' := [(3, .int (nI xx)), (2, .int (nI yy)), (1, .int (nI (wcY pv pcl W yy + wcX pv pcl yy xx))), (0, .ref (a 0))]) [0, 1, 2, 3] rfl ?_
                refine KW.ass (congrArg (fun zz => ([.int zz, .int (nI (wcY pv pcl W yy + wcX pv pcl yy xx))] : List Value)) (show (nI 0) = (nI (if pv (6 * yy + xx) = pcl (6 * yy + xx) then 0 else 1)) from by first | rw [if_pos c_51] | rw [if_neg c_51])) ?_
                exact J59_3 ()
        refine KW.loc (lv' := [(3, .int (nI 0)), (2, .int (nI yy)), (1, .int (nI (wcY pv pcl W yy))), (0, .ref (a 0))]) [0, 1, 2, 3] rfl ?_
        refine KW.asl (congrArg (fun zz => ([(3, .int (nI 0)), (2, .int (nI yy)), (1, .int zz), (0, .ref (a 0))] : List (Nat × Value))) (show (nI (wcY pv pcl W yy)) = (nI (wcY pv pcl W yy + wcX pv pcl yy 0)) from by rfl)) ?_
        exact L16_2 (W - 0 + 1) 0 (by first | assumption | omega | (simp; done)) (Nat.lt_succ_self _)
  refine KW.loc (lv' := [(2, .int (nI 0)), (1, .int (nI 0)), (0, .ref (a 0))]) [0, 1, 2] rfl ?_
  refine KW.asl (congrArg (fun zz => ([(2, .int (nI 0)), (1, .int zz), (0, .ref (a 0))] : List (Nat × Value))) (show (nI 0) = (nI (wcY pv pcl W 0)) from by rfl)) ?_
  exact L4_1 (H - 0 + 1) 0 (by first | assumption | omega | (simp; done)) (Nat.lt_succ_self _)

set_option maxHeartbeats 4000000 in
set_option maxRecDepth 100000 in
theorem c_X7_wanted (l : Launch) (G : va_G) (y : Nat → ClassId) (t : Nat) (a : Nat → Nat) (th : Int32) (Sr : Nat → Int32) (dr : Nat → Int32) (pa : Nat → Int32) (um : Int32) (im : Nat → Int32) (ikp : Nat → Int32) (tx : Nat → Int32) (ty : Int32) (sn : Nat → Int32) (sm : Int32) (at1 : Int32) (pl : Int32) (tk : Int32) (vl : Int32) (fa : Int32) (pf : Nat → Int32) (odr : Nat → Int32) (gv : Nat → Int32) (mk : Nat → Int32) (bo : Nat → Int32) (bq : Nat → Int32) (W : Nat) (H : Nat) (N : Nat) (pcl : Nat → Nat) (ik : Nat → Nat) (o : Nat → Nat) (bk : Nat → Nat) (kk : Nat → Nat) (hR : RowOk Sr W H N pcl ik o bk kk) (sz : Nat) : Met l yX7_wanted (Cond.code yX7_wanted cX7_wanted 4 (some .int) :: TG) ({ frames := 0, cells := 0, slots := 0, locals := 0 }) (va_Pc [.ref (a 0)] (PR G y t (kModel y a (th, Sr, dr, pa, um, im, ikp, tx, ty, sn, sm, at1, pl, tk, vl, fa, pf, odr, gv, mk, bo, bq)) sz)) (va_Qi (fun (r : Int32) (u : Unit) => r = (nI (wtY pcl W H))) (fun (u : Unit) t => PO G (va_A (kModel y a (th, Sr, dr, pa, um, im, ikp, tx, ty, sn, sm, at1, pl, tk, vl, fa, pf, odr, gv, mk, bo, bq)) sz) (kModel y a (th, Sr, dr, pa, um, im, ikp, tx, ty, sn, sm, at1, pl, tk, vl, fa, pf, odr, gv, mk, bo, bq)) t) (va_A (kModel y a (th, Sr, dr, pa, um, im, ikp, tx, ty, sn, sm, at1, pl, tk, vl, fa, pf, odr, gv, mk, bo, bq)) sz)) 0 0 (va_A (kModel y a (th, Sr, dr, pa, um, im, ikp, tx, ty, sn, sm, at1, pl, tk, vl, fa, pf, odr, gv, mk, bo, bq)) sz) := by
  refine kMet (cc := cX7_wanted) (maxL := 4) (ret := some .int) (Qc := fun A => va_Qi (fun (r : Int32) (u : Unit) => r = (nI (wtY pcl W H))) (fun (u : Unit) t => PO G A (kModel y a (th, Sr, dr, pa, um, im, ikp, tx, ty, sn, sm, at1, pl, tk, vl, fa, pf, odr, gv, mk, bo, bq)) t) A) (by decide) rfl (Nat.le_of_ble_eq_true rfl) (fun p e s m below meth c A hsz C hin => ?_)
  obtain ⟨hS0, hS1, hS2, hW, hH, hN, hpic, hink, hord, hblk, hdx⟩ := id hR
  refine KW.loc (lv' := [(0, .ref (a 0))]) [0] rfl ?_
  refine kw_iconst (v := nI 0) C dX7_wanted_0 (by decide) ?_
  refine kw_istore_n C [(1, .int (nI 0)), (0, .ref (a 0))] dX7_wanted_1 rfl (by decide) rfl ?_
  refine kw_iconst (v := nI 0) C dX7_wanted_2 (by decide) ?_
  refine kw_istore_n C [(2, .int (nI 0)), (1, .int (nI 0)), (0, .ref (a 0))] dX7_wanted_3 rfl (by decide) rfl ?_
  have L4_1 : ∀ (nn : Nat) (yy : Nat) (hyy : yy ≤ H) (hms : H - yy < nn), KW p l e ({ frames := 0, cells := 0, slots := 0, locals := 0 }) s m ([.ref (a 0)] : List Value).toArray below meth c 0 0 (MQ below (va_Qi (fun (r : Int32) (u : Unit) => r = (nI (wtY pcl W H))) (fun (u : Unit) t => PO G A (kModel y a (th, Sr, dr, pa, um, im, ikp, tx, ty, sn, sm, at1, pl, tk, vl, fa, pf, odr, gv, mk, bo, bq)) t) A) ([.ref (a 0)] : List Value).toArray s 0 0 A) G A 4 (kModel y a (th, Sr, dr, pa, um, im, ikp, tx, ty, sn, sm, at1, pl, tk, vl, fa, pf, odr, gv, mk, bo, bq)) [(2, .int (nI yy)), (1, .int (nI (wtY pcl W yy))), (0, .ref (a 0))] 4 [] := by
    intro nn
    induction nn with
    | zero => intro yy hyy hms; exact absurd hms (Nat.not_lt_zero _)
    | succ nn ih_4 =>
      intro yy hyy hms
      refine kw_iload_n C 0 dX7_wanted_4 rfl ?_
      refine kw_aload_n C 2 dX7_wanted_5 rfl ?_
      refine kw_get (v := .ref (a 1)) (T := TX7) C 0 1 rfl rfl (by decide) (fun w h => mT (fwX7 w h)) rfl (mT wd_616) rfl dX7_wanted_6 ?_
      refine kw_iconst (v := nI 1) C dX7_wanted_9 (by decide) ?_
      refine kw_iald (f := Sr) C 1 rfl (by omega) (by decide) dX7_wanted_10 ?_
      refine kw_top (show (Sr 1) = (nI H) from by exact hS1) ?_
      refine kw_icmp_ge_N (tgt := 56) C (by omega) (by omega) dX7_wanted_11 (by decide) (fun c_11 => ?_) (fun c_11 => ?_)
      ·
        refine kw_iload_n C 1 dX7_wanted_56 rfl ?_
        refine kR_i C () dX7_wanted_57 ?_ rfl
        rw [show yy = H from by omega]
      ·
        refine kw_iconst (v := nI 0) C dX7_wanted_14 (by decide) ?_
        refine kw_istore_n C [(3, .int (nI 0)), (2, .int (nI yy)), (1, .int (nI (wtY pcl W yy))), (0, .ref (a 0))] dX7_wanted_15 rfl (by decide) rfl ?_
        have L16_2 : ∀ (nn : Nat) (xx : Nat) (hxx : xx ≤ W) (hms : W - xx < nn), KW p l e ({ frames := 0, cells := 0, slots := 0, locals := 0 }) s m ([.ref (a 0)] : List Value).toArray below meth c 0 0 (MQ below (va_Qi (fun (r : Int32) (u : Unit) => r = (nI (wtY pcl W H))) (fun (u : Unit) t => PO G A (kModel y a (th, Sr, dr, pa, um, im, ikp, tx, ty, sn, sm, at1, pl, tk, vl, fa, pf, odr, gv, mk, bo, bq)) t) A) ([.ref (a 0)] : List Value).toArray s 0 0 A) G A 4 (kModel y a (th, Sr, dr, pa, um, im, ikp, tx, ty, sn, sm, at1, pl, tk, vl, fa, pf, odr, gv, mk, bo, bq)) [(3, .int (nI xx)), (2, .int (nI yy)), (1, .int (nI (wtX pcl yy xx (wtY pcl W yy)))), (0, .ref (a 0))] 16 [] := by
          intro nn
          induction nn with
          | zero => intro xx hxx hms; exact absurd hms (Nat.not_lt_zero _)
          | succ nn ih_16 =>
            intro xx hxx hms
            refine kw_iload_n C 0 dX7_wanted_16 rfl ?_
            refine kw_aload_n C 3 dX7_wanted_17 rfl ?_
            refine kw_get (v := .ref (a 1)) (T := TX7) C 0 1 rfl rfl (by decide) (fun w h => mT (fwX7 w h)) rfl (mT wd_616) rfl dX7_wanted_18 ?_
            refine kw_iconst (v := nI 0) C dX7_wanted_21 (by decide) ?_
            refine kw_iald (f := Sr) C 1 rfl (by omega) (by decide) dX7_wanted_22 ?_
            refine kw_top (show (Sr 0) = (nI W) from by exact hS0) ?_
            refine kw_icmp_ge_N (tgt := 50) C (by omega) (by omega) dX7_wanted_23 (by decide) (fun c_23 => ?_) (fun c_23 => ?_)
            ·
              refine kw_iinc (v := nI (yy + 1)) C [(2, .int (nI (yy + 1))), (3, .int (nI xx)), (1, .int (nI (wtX pcl yy xx (wtY pcl W yy)))), (0, .ref (a 0))] 1 dX7_wanted_50 rfl (nI_1 _) (by decide) rfl ?_
              refine kw_goto (tgt := 4) C dX7_wanted_53 (by decide) ?_
              refine KW.loc (lv' := [(2, .int (nI (yy + 1))), (1, .int (nI (wtX pcl yy xx (wtY pcl W yy)))), (0, .ref (a 0))]) [0, 2, 3] rfl ?_
              refine KW.asl (congrArg (fun zz => ([(2, .int (nI (yy + 1))), (1, .int zz), (0, .ref (a 0))] : List (Nat × Value))) (show (nI (wtX pcl yy xx (wtY pcl W yy))) = (nI (wtY pcl W (yy + 1))) from by rw [show xx = W from by omega]; rfl)) ?_
              exact ih_4 (yy + 1) (by first | assumption | omega | (simp; done)) (by omega)
            ·
              refine kw_iload_n C 2 dX7_wanted_26 rfl ?_
              refine kw_iconst (v := nI 1) C dX7_wanted_27 (by decide) ?_
              refine kw_aload_n C 3 dX7_wanted_28 rfl ?_
              refine kw_get (v := .ref (a 1)) (T := TX7) C 0 1 rfl rfl (by decide) (fun w h => mT (fwX7 w h)) rfl (mT wd_616) rfl dX7_wanted_29 ?_
              refine kw_iconst (v := nI 3) C dX7_wanted_32 (by decide) ?_
              refine kw_bipush (v := nI 6) C dX7_wanted_33 (by decide) ?_
              refine kw_iload_n C 1 dX7_wanted_35 rfl ?_
              refine kw_imul C dX7_wanted_36 (kw_top (pk_mul _ _) ?_)
              refine kw_iadd C dX7_wanted_37 (kw_top (nI_add _ _) ?_)
              refine kw_iload_n C 0 dX7_wanted_38 rfl ?_
              refine kw_iadd C dX7_wanted_39 (kw_top (nI_add _ _) ?_)
              refine kw_iald (f := Sr) C 1 rfl (by omega) (by decide) dX7_wanted_40 ?_
              refine kw_top (show (Sr ((3 + (6 * yy)) + xx)) = (nI (pcl (6 * yy + xx))) from by exact (hpic (yy) (xx) (by first | assumption | omega) (by first | assumption | omega)).1) ?_
              have hl_40 := (hpic (yy) (xx) (by first | assumption | omega) (by first | assumption | omega)).2
              refine kw_ishl C dX7_wanted_41 (kw_top (n_shl1 (by omega)) ?_)
              refine kw_ior C dX7_wanted_42 (kw_top (n_or _ _) ?_)
              refine kw_istore_n C [(1, .int (nI ((wtX pcl yy xx (wtY pcl W yy)) ||| (2 ^ (pcl (6 * yy + xx)))))), (3, .int (nI xx)), (2, .int (nI yy)), (0, .ref (a 0))] dX7_wanted_43 rfl (by decide) rfl ?_
              refine kw_iinc (v := nI (xx + 1)) C [(3, .int (nI (xx + 1))), (1, .int (nI ((wtX pcl yy xx (wtY pcl W yy)) ||| (2 ^ (pcl (6 * yy + xx)))))), (2, .int (nI yy)), (0, .ref (a 0))] 1 dX7_wanted_44 rfl (nI_1 _) (by decide) rfl ?_
              refine kw_goto (tgt := 16) C dX7_wanted_47 (by decide) ?_
              refine KW.loc (lv' := [(3, .int (nI (xx + 1))), (2, .int (nI yy)), (1, .int (nI ((wtX pcl yy xx (wtY pcl W yy)) ||| (2 ^ (pcl (6 * yy + xx)))))), (0, .ref (a 0))]) [0, 2, 1, 3] rfl ?_
              refine KW.asl (congrArg (fun zz => ([(3, .int (nI (xx + 1))), (2, .int (nI yy)), (1, .int zz), (0, .ref (a 0))] : List (Nat × Value))) (show (nI ((wtX pcl yy xx (wtY pcl W yy)) ||| (2 ^ (pcl (6 * yy + xx))))) = (nI (wtX pcl yy (xx + 1) (wtY pcl W yy))) from by rfl)) ?_
              exact ih_16 (xx + 1) (by first | assumption | omega | (simp; done)) (by omega)
        refine KW.loc (lv' := [(3, .int (nI 0)), (2, .int (nI yy)), (1, .int (nI (wtY pcl W yy))), (0, .ref (a 0))]) [0, 1, 2, 3] rfl ?_
        refine KW.asl (congrArg (fun zz => ([(3, .int (nI 0)), (2, .int (nI yy)), (1, .int zz), (0, .ref (a 0))] : List (Nat × Value))) (show (nI (wtY pcl W yy)) = (nI (wtX pcl yy 0 (wtY pcl W yy))) from by rfl)) ?_
        exact L16_2 (W - 0 + 1) 0 (by first | assumption | omega | (simp; done)) (Nat.lt_succ_self _)
  refine KW.loc (lv' := [(2, .int (nI 0)), (1, .int (nI 0)), (0, .ref (a 0))]) [0, 1, 2] rfl ?_
  refine KW.asl (congrArg (fun zz => ([(2, .int (nI 0)), (1, .int zz), (0, .ref (a 0))] : List (Nat × Value))) (show (nI 0) = (nI (wtY pcl W 0)) from by rfl)) ?_
  exact L4_1 (H - 0 + 1) 0 (by first | assumption | omega | (simp; done)) (Nat.lt_succ_self _)

set_option maxHeartbeats 4000000 in
set_option maxRecDepth 100000 in
theorem c_X7_mixes (l : Launch) (G : va_G) (y : Nat → ClassId) (t : Nat) (a : Nat → Nat) (th : Int32) (Sr : Nat → Int32) (dr : Nat → Int32) (pa : Nat → Int32) (um : Int32) (im : Nat → Int32) (ikp : Nat → Int32) (tx : Nat → Int32) (ty : Int32) (sn : Nat → Int32) (sm : Int32) (at1 : Int32) (pl : Int32) (tk : Int32) (vl : Int32) (fa : Int32) (pf : Nat → Int32) (odr : Nat → Int32) (gv : Nat → Int32) (mk : Nat → Int32) (bo : Nat → Int32) (bq : Nat → Int32) (oo : Nat → Nat) (W : Nat) (H : Nat) (N : Nat) (pcl : Nat → Nat) (ik : Nat → Nat) (o : Nat → Nat) (bk : Nat → Nat) (kk : Nat → Nat) (hR : RowOk Sr W H N pcl ik o bk kk) (hoo : ∀ q, q < N → odr q = nI (oo q) ∧ oo q < N) (sz : Nat) : Met l yX7_mixes (Cond.code yX7_mixes cX7_mixes 4 (none) :: TG) ({ frames := 1, cells := 0, slots := 0, locals := 21 }) (va_Pc [.ref (a 0)] (PR G y t (kModel y a (th, Sr, dr, pa, um, im, ikp, tx, ty, sn, sm, at1, pl, tk, vl, fa, pf, odr, gv, mk, bo, bq)) sz)) (va_Qv (fun (u : (Nat → Int32) × (Nat → Int32)) => (∀ set, set < 2 ^ N → u.1 set = nI (gvF oo ik set N)) ∧ (∀ set, set < 2 ^ N → u.2 set = nI (mkP (fun z => gvF oo ik z N) set (set + 1)))) (fun (u : (Nat → Int32) × (Nat → Int32)) t => PO G (va_A (kModel y a (th, Sr, dr, pa, um, im, ikp, tx, ty, sn, sm, at1, pl, tk, vl, fa, pf, odr, gv, mk, bo, bq)) sz) (kModel y a (th, Sr, dr, pa, um, im, ikp, tx, ty, sn, sm, at1, pl, tk, vl, fa, pf, odr, u.1, u.2, bo, bq)) t) (va_A (kModel y a (th, Sr, dr, pa, um, im, ikp, tx, ty, sn, sm, at1, pl, tk, vl, fa, pf, odr, gv, mk, bo, bq)) sz)) 0 0 (va_A (kModel y a (th, Sr, dr, pa, um, im, ikp, tx, ty, sn, sm, at1, pl, tk, vl, fa, pf, odr, gv, mk, bo, bq)) sz) := by
  refine kMet (cc := cX7_mixes) (maxL := 4) (ret := none) (Qc := fun A => va_Qv (fun (u : (Nat → Int32) × (Nat → Int32)) => (∀ set, set < 2 ^ N → u.1 set = nI (gvF oo ik set N)) ∧ (∀ set, set < 2 ^ N → u.2 set = nI (mkP (fun z => gvF oo ik z N) set (set + 1)))) (fun (u : (Nat → Int32) × (Nat → Int32)) t => PO G A (kModel y a (th, Sr, dr, pa, um, im, ikp, tx, ty, sn, sm, at1, pl, tk, vl, fa, pf, odr, u.1, u.2, bo, bq)) t) A) (by decide) rfl (Nat.le_of_ble_eq_true rfl) (fun p e s m below meth c A hsz C hin => ?_)
  obtain ⟨hS0, hS1, hS2, hW, hH, hN, hpic, hink, hord, hblk, hdx⟩ := id hR
  have h64 := pow6 hN
  refine KW.loc (lv' := [(0, .ref (a 0))]) [0] rfl ?_
  refine kw_iconst (v := nI 0) C dX7_mixes_0 (by decide) ?_
  refine kw_istore_n C [(1, .int (nI 0)), (0, .ref (a 0))] dX7_mixes_1 rfl (by decide) rfl ?_
  have L2_1 : ∀ (nn : Nat) (set : Nat) (g0 : Nat → Int32) (hset : set ≤ 2 ^ N) (hg0 : ∀ z, z < set → g0 z = nI (gvF oo ik z N)) (hms : 2 ^ N - set < nn), KW p l e ({ frames := 1, cells := 0, slots := 0, locals := 21 }) s m ([.ref (a 0)] : List Value).toArray below meth c 0 0 (MQ below (va_Qv (fun (u : (Nat → Int32) × (Nat → Int32)) => (∀ set, set < 2 ^ N → u.1 set = nI (gvF oo ik set N)) ∧ (∀ set, set < 2 ^ N → u.2 set = nI (mkP (fun z => gvF oo ik z N) set (set + 1)))) (fun (u : (Nat → Int32) × (Nat → Int32)) t => PO G A (kModel y a (th, Sr, dr, pa, um, im, ikp, tx, ty, sn, sm, at1, pl, tk, vl, fa, pf, odr, u.1, u.2, bo, bq)) t) A) ([.ref (a 0)] : List Value).toArray s 0 0 A) G A 4 (kModel y a (th, Sr, dr, pa, um, im, ikp, tx, ty, sn, sm, at1, pl, tk, vl, fa, pf, odr, g0, mk, bo, bq)) [(1, .int (nI set)), (0, .ref (a 0))] 2 [] := by
    intro nn
    induction nn with
    | zero => intro set g0 hset hg0 hms; exact absurd hms (Nat.not_lt_zero _)
    | succ nn ih_2 =>
      intro set g0 hset hg0 hms
      refine kw_iload_n C 0 dX7_mixes_2 rfl ?_
      refine kw_iconst (v := nI 1) C dX7_mixes_3 (by decide) ?_
      refine kw_aload_n C 1 dX7_mixes_4 rfl ?_
      refine kw_get (v := .ref (a 1)) (T := TX7) C 0 1 rfl rfl (by decide) (fun w h => mT (fwX7 w h)) rfl (mT wd_616) rfl dX7_mixes_5 ?_
      refine kw_iconst (v := nI 2) C dX7_mixes_8 (by decide) ?_
      refine kw_iald (f := Sr) C 1 rfl (by omega) (by decide) dX7_mixes_9 ?_
      refine kw_top (show (Sr 2) = (nI N) from by exact hS2) ?_
      refine kw_ishl C dX7_mixes_10 (kw_top (n_shl1 (by omega)) ?_)
      refine kw_icmp_ge_N (tgt := 84) C (by omega) (by omega) dX7_mixes_11 (by decide) (fun c_11 => ?_) (fun c_11 => ?_)
      ·
        refine kw_iconst (v := nI 0) C dX7_mixes_84 (by decide) ?_
        refine kw_istore_n C [(1, .int (nI 0)), (0, .ref (a 0))] dX7_mixes_85 rfl (by decide) rfl ?_
        have L86_2 : ∀ (nn : Nat) (s2 : Nat) (m0 : Nat → Int32) (hs2 : s2 ≤ 2 ^ N) (hm0 : ∀ z, z < s2 → m0 z = nI (mkP (fun z => gvF oo ik z N) z (z + 1))) (hms : 2 ^ N - s2 < nn), KW p l e ({ frames := 1, cells := 0, slots := 0, locals := 21 }) s m ([.ref (a 0)] : List Value).toArray below meth c 0 0 (MQ below (va_Qv (fun (u : (Nat → Int32) × (Nat → Int32)) => (∀ set, set < 2 ^ N → u.1 set = nI (gvF oo ik set N)) ∧ (∀ set, set < 2 ^ N → u.2 set = nI (mkP (fun z => gvF oo ik z N) set (set + 1)))) (fun (u : (Nat → Int32) × (Nat → Int32)) t => PO G A (kModel y a (th, Sr, dr, pa, um, im, ikp, tx, ty, sn, sm, at1, pl, tk, vl, fa, pf, odr, u.1, u.2, bo, bq)) t) A) ([.ref (a 0)] : List Value).toArray s 0 0 A) G A 4 (kModel y a (th, Sr, dr, pa, um, im, ikp, tx, ty, sn, sm, at1, pl, tk, vl, fa, pf, odr, g0, m0, bo, bq)) [(1, .int (nI s2)), (0, .ref (a 0))] 86 [] := by
          intro nn
          induction nn with
          | zero => intro s2 m0 hs2 hm0 hms; exact absurd hms (Nat.not_lt_zero _)
          | succ nn ih_86 =>
            intro s2 m0 hs2 hm0 hms
            refine kw_iload_n C 0 dX7_mixes_86 rfl ?_
            refine kw_iconst (v := nI 1) C dX7_mixes_87 (by decide) ?_
            refine kw_aload_n C 1 dX7_mixes_88 rfl ?_
            refine kw_get (v := .ref (a 1)) (T := TX7) C 0 1 rfl rfl (by decide) (fun w h => mT (fwX7 w h)) rfl (mT wd_616) rfl dX7_mixes_89 ?_
            refine kw_iconst (v := nI 2) C dX7_mixes_92 (by decide) ?_
            refine kw_iald (f := Sr) C 1 rfl (by omega) (by decide) dX7_mixes_93 ?_
            refine kw_top (show (Sr 2) = (nI N) from by exact hS2) ?_
            refine kw_ishl C dX7_mixes_94 (kw_top (n_shl1 (by omega)) ?_)
            refine kw_icmp_ge_N (tgt := 153) C (by omega) (by omega) dX7_mixes_95 (by decide) (fun c_95 => ?_) (fun c_95 => ?_)
            ·
              refine kR_v C (g0, m0) dX7_mixes_153 ?_ rfl
              exact ⟨fun z hz => hg0 z (by omega), fun z hz => hm0 z (by omega)⟩
            ·
              refine kw_aload_n C 1 dX7_mixes_98 rfl ?_
              refine kw_get (v := .ref (a 11)) (T := TX7) C 0 19 rfl rfl (by decide) (fun w h => mT (fwX7 w h)) rfl (mT wd_634) rfl dX7_mixes_99 ?_
              refine kw_iload_n C 0 dX7_mixes_102 rfl ?_
              refine kw_iconst (v := nI 0) C dX7_mixes_103 (by decide) ?_
              refine kw_iast C 11 (kModel y a (th, Sr, dr, pa, um, im, ikp, tx, ty, sn, sm, at1, pl, tk, vl, fa, pf, odr, g0, upd m0 s2 (nI 0), bo, bq)) rfl (by omega) (by decide) dX7_mixes_104 rfl ?_
              refine kw_iconst (v := nI 0) C dX7_mixes_105 (by decide) ?_
              refine kw_istore_n C [(2, .int (nI 0)), (1, .int (nI s2)), (0, .ref (a 0))] dX7_mixes_106 rfl (by decide) rfl ?_
              have L107_3 : ∀ (nn : Nat) (p0 : Nat) (m1 : Nat → Int32) (hp0 : p0 ≤ s2 + 1) (hm1 : ∀ z, z ≠ s2 → m1 z = m0 z) (hm2 : m1 s2 = nI (mkP (fun z => gvF oo ik z N) s2 p0)) (hms : s2 + 1 - p0 < nn), KW p l e ({ frames := 1, cells := 0, slots := 0, locals := 21 }) s m ([.ref (a 0)] : List Value).toArray below meth c 0 0 (MQ below (va_Qv (fun (u : (Nat → Int32) × (Nat → Int32)) => (∀ set, set < 2 ^ N → u.1 set = nI (gvF oo ik set N)) ∧ (∀ set, set < 2 ^ N → u.2 set = nI (mkP (fun z => gvF oo ik z N) set (set + 1)))) (fun (u : (Nat → Int32) × (Nat → Int32)) t => PO G A (kModel y a (th, Sr, dr, pa, um, im, ikp, tx, ty, sn, sm, at1, pl, tk, vl, fa, pf, odr, u.1, u.2, bo, bq)) t) A) ([.ref (a 0)] : List Value).toArray s 0 0 A) G A 4 (kModel y a (th, Sr, dr, pa, um, im, ikp, tx, ty, sn, sm, at1, pl, tk, vl, fa, pf, odr, g0, m1, bo, bq)) [(2, .int (nI p0)), (1, .int (nI s2)), (0, .ref (a 0))] 107 [] := by
                intro nn
                induction nn with
                | zero => intro p0 m1 hp0 hm1 hm2 hms; exact absurd hms (Nat.not_lt_zero _)
                | succ nn ih_107 =>
                  intro p0 m1 hp0 hm1 hm2 hms
                  refine kw_iload_n C 0 dX7_mixes_107 rfl ?_
                  refine kw_iload_n C 1 dX7_mixes_108 rfl ?_
                  refine kw_icmp_gt_N (tgt := 147) C (by omega) (by omega) dX7_mixes_109 (by decide) (fun c_109 => ?_) (fun c_109 => ?_)
                  ·
                    refine kw_iinc (v := nI (s2 + 1)) C [(1, .int (nI (s2 + 1))), (2, .int (nI p0)), (0, .ref (a 0))] 1 dX7_mixes_147 rfl (nI_1 _) (by decide) rfl ?_
                    refine kw_goto (tgt := 86) C dX7_mixes_150 (by decide) ?_
                    refine KW.loc (lv' := [(1, .int (nI (s2 + 1))), (0, .ref (a 0))]) [0, 2] rfl ?_
                    exact ih_86 (s2 + 1) m1 (by first | assumption | omega | (simp; done)) (by intro z hz; rcases Nat.lt_or_ge z s2 with h | h; rw [hm1 z (by omega)]; exact hm0 z h; rw [show z = s2 from by omega, hm2, show p0 = s2 + 1 from by omega]) (by omega)
                  ·
                    refine kw_aload_n C 2 dX7_mixes_112 rfl ?_
                    refine kw_get (v := .ref (a 11)) (T := TX7) C 0 19 rfl rfl (by decide) (fun w h => mT (fwX7 w h)) rfl (mT wd_634) rfl dX7_mixes_113 ?_
                    refine kw_iload_n C 1 dX7_mixes_116 rfl ?_
                    refine kw_dup2_11 C dX7_mixes_117 rfl rfl ?_
                    refine kw_iald (f := m1) C 11 rfl (by omega) (by decide) dX7_mixes_118 ?_
                    refine kw_top (show (m1 s2) = (nI (mkP (fun z => gvF oo ik z N) s2 p0)) from by exact hm2) ?_
                    refine kw_iload_n C 0 dX7_mixes_119 rfl ?_
                    refine kw_iload_n C 1 dX7_mixes_120 rfl ?_
                    refine kw_iconst (v := (-1)) C dX7_mixes_121 (by decide) ?_
                    refine kw_ixor C dX7_mixes_122 ?_
                    refine kw_iand C dX7_mixes_123 ?_
                    refine kw_if_ne (tgt := 138) C dX7_mixes_124 (by decide) (fun c_124 => ?_) (fun c_124 => ?_)
                    ·
                      refine kw_iconst (v := nI 0) C dX7_mixes_138 (by decide) ?_
                      refine kw_ior C dX7_mixes_139 (kw_top (n_or _ _) ?_)
                      refine kw_iast C 11 (kModel y a (th, Sr, dr, pa, um, im, ikp, tx, ty, sn, sm, at1, pl, tk, vl, fa, pf, odr, g0, upd m1 s2 (nI ((mkP (fun z => gvF oo ik z N) s2 p0) ||| 0)), bo, bq)) rfl (by omega) (by decide) dX7_mixes_140 rfl ?_
                      refine kw_iinc (v := nI (p0 + 1)) C [(2, .int (nI (p0 + 1))), (1, .int (nI s2)), (0, .ref (a 0))] 0 dX7_mixes_141 rfl (nI_1 _) (by decide) rfl ?_
                      refine kw_goto (tgt := 107) C dX7_mixes_144 (by decide) ?_
                      refine KW.loc (lv' := [(2, .int (nI (p0 + 1))), (1, .int (nI s2)), (0, .ref (a 0))]) [0, 1, 2] rfl ?_
                      exact ih_107 (p0 + 1) (upd m1 s2 (nI ((mkP (fun z => gvF oo ik z N) s2 p0) ||| 0))) (by first | assumption | omega | (simp; done)) (by intro z hz; rw [pk_un hz]; exact hm1 z hz) (by rw [pk_us]; first | (simp only [mkP]; rw [if_pos c_124]; done) | (simp only [mkP]; rw [if_neg c_124, Nat.or_zero]; done)) (by omega)
                    ·
                      refine kw_iconst (v := nI 1) C dX7_mixes_127 (by decide) ?_
                      refine kw_aload_n C 2 dX7_mixes_128 rfl ?_
                      refine kw_get (v := .ref (a 10)) (T := TX7) C 0 18 rfl rfl (by decide) (fun w h => mT (fwX7 w h)) rfl (mT wd_633) rfl dX7_mixes_129 ?_
                      refine kw_iload_n C 0 dX7_mixes_132 rfl ?_
                      refine kw_iald (f := g0) C 10 rfl (by omega) (by decide) dX7_mixes_133 ?_
                      refine kw_top (show (g0 p0) = (nI (gvF oo ik p0 N)) from by exact hg0 p0 (by omega)) ?_
                      have hg8 := gvF_lt p0 (fun q h => (hoo q h).2) (fun q h => (hink q h).2) N (Nat.le_refl N)
                      refine kw_ishl C dX7_mixes_134 (kw_top (n_shl1 (by omega)) ?_)
                      refine kw_goto (tgt := 139) C dX7_mixes_135 (by decide) ?_
                      refine kw_ior C dX7_mixes_139 (kw_top (n_or _ _) ?_)
                      refine kw_iast C 11 (kModel y a (th, Sr, dr, pa, um, im, ikp, tx, ty, sn, sm, at1, pl, tk, vl, fa, pf, odr, g0, upd m1 s2 (nI ((mkP (fun z => gvF oo ik z N) s2 p0) ||| (2 ^ (gvF oo ik p0 N)))), bo, bq)) rfl (by omega) (by decide) dX7_mixes_140 rfl ?_
                      refine kw_iinc (v := nI (p0 + 1)) C [(2, .int (nI (p0 + 1))), (1, .int (nI s2)), (0, .ref (a 0))] 0 dX7_mixes_141 rfl (nI_1 _) (by decide) rfl ?_
                      refine kw_goto (tgt := 107) C dX7_mixes_144 (by decide) ?_
                      refine KW.loc (lv' := [(2, .int (nI (p0 + 1))), (1, .int (nI s2)), (0, .ref (a 0))]) [0, 1, 2] rfl ?_
                      exact ih_107 (p0 + 1) (upd m1 s2 (nI ((mkP (fun z => gvF oo ik z N) s2 p0) ||| (2 ^ (gvF oo ik p0 N))))) (by first | assumption | omega | (simp; done)) (by intro z hz; rw [pk_un hz]; exact hm1 z hz) (by rw [pk_us]; first | (simp only [mkP]; rw [if_pos c_124]; done) | (simp only [mkP]; rw [if_neg c_124, Nat.or_zero]; done)) (by omega)
              refine KW.loc (lv' := [(2, .int (nI 0)), (1, .int (nI s2)), (0, .ref (a 0))]) [0, 1, 2] rfl ?_
              exact L107_3 (s2 + 1 - 0 + 1) 0 (upd m0 s2 (nI 0)) (by first | assumption | omega | (simp; done)) (by intro z hz; exact pk_un hz) (by exact pk_us) (Nat.lt_succ_self _)
        refine KW.loc (lv' := [(1, .int (nI 0)), (0, .ref (a 0))]) [0, 1] rfl ?_
        exact L86_2 (2 ^ N - 0 + 1) 0 mk (by first | assumption | omega | (simp; done)) (by intro z hz; exact absurd hz (Nat.not_lt_zero _)) (Nat.lt_succ_self _)
      ·
        refine kw_iconst (v := nI 0) C dX7_mixes_14 (by decide) ?_
        refine kw_istore_n C [(2, .int (nI 0)), (1, .int (nI set)), (0, .ref (a 0))] dX7_mixes_15 rfl (by decide) rfl ?_
        refine kw_iconst (v := nI 0) C dX7_mixes_16 (by decide) ?_
        refine kw_istore_n C [(3, .int (nI 0)), (2, .int (nI 0)), (1, .int (nI set)), (0, .ref (a 0))] dX7_mixes_17 rfl (by decide) rfl ?_
        have L18_4 : ∀ (nn : Nat) (q0 : Nat) (hq0 : q0 ≤ N) (hms : N - q0 < nn), KW p l e ({ frames := 1, cells := 0, slots := 0, locals := 21 }) s m ([.ref (a 0)] : List Value).toArray below meth c 0 0 (MQ below (va_Qv (fun (u : (Nat → Int32) × (Nat → Int32)) => (∀ set, set < 2 ^ N → u.1 set = nI (gvF oo ik set N)) ∧ (∀ set, set < 2 ^ N → u.2 set = nI (mkP (fun z => gvF oo ik z N) set (set + 1)))) (fun (u : (Nat → Int32) × (Nat → Int32)) t => PO G A (kModel y a (th, Sr, dr, pa, um, im, ikp, tx, ty, sn, sm, at1, pl, tk, vl, fa, pf, odr, u.1, u.2, bo, bq)) t) A) ([.ref (a 0)] : List Value).toArray s 0 0 A) G A 4 (kModel y a (th, Sr, dr, pa, um, im, ikp, tx, ty, sn, sm, at1, pl, tk, vl, fa, pf, odr, g0, mk, bo, bq)) [(3, .int (nI q0)), (2, .int (nI (gvF oo ik set q0))), (1, .int (nI set)), (0, .ref (a 0))] 18 [] := by
          intro nn
          induction nn with
          | zero => intro q0 hq0 hms; exact absurd hms (Nat.not_lt_zero _)
          | succ nn ih_18 =>
            intro q0 hq0 hms
            refine kw_iload_n C 0 dX7_mixes_18 rfl ?_
            refine kw_aload_n C 3 dX7_mixes_19 rfl ?_
            refine kw_get (v := .ref (a 1)) (T := TX7) C 0 1 rfl rfl (by decide) (fun w h => mT (fwX7 w h)) rfl (mT wd_616) rfl dX7_mixes_20 ?_
            refine kw_iconst (v := nI 2) C dX7_mixes_23 (by decide) ?_
            refine kw_iald (f := Sr) C 1 rfl (by omega) (by decide) dX7_mixes_24 ?_
            refine kw_top (show (Sr 2) = (nI N) from by exact hS2) ?_
            refine kw_icmp_ge_N (tgt := 71) C (by omega) (by omega) dX7_mixes_25 (by decide) (fun c_25 => ?_) (fun c_25 => ?_)
            ·
              refine kw_aload_n C 3 dX7_mixes_71 rfl ?_
              refine kw_get (v := .ref (a 10)) (T := TX7) C 0 18 rfl rfl (by decide) (fun w h => mT (fwX7 w h)) rfl (mT wd_633) rfl dX7_mixes_72 ?_
              refine kw_iload_n C 2 dX7_mixes_75 rfl ?_
              refine kw_iload_n C 1 dX7_mixes_76 rfl ?_
              refine kw_iast C 10 (kModel y a (th, Sr, dr, pa, um, im, ikp, tx, ty, sn, sm, at1, pl, tk, vl, fa, pf, odr, upd g0 set (nI (gvF oo ik set q0)), mk, bo, bq)) rfl (by omega) (by decide) dX7_mixes_77 rfl ?_
              refine kw_iinc (v := nI (set + 1)) C [(1, .int (nI (set + 1))), (3, .int (nI q0)), (2, .int (nI (gvF oo ik set q0))), (0, .ref (a 0))] 2 dX7_mixes_78 rfl (nI_1 _) (by decide) rfl ?_
              refine kw_goto (tgt := 2) C dX7_mixes_81 (by decide) ?_
              refine KW.loc (lv' := [(1, .int (nI (set + 1))), (0, .ref (a 0))]) [0, 3] rfl ?_
              exact ih_2 (set + 1) (upd g0 set (nI (gvF oo ik set q0))) (by first | assumption | omega | (simp; done)) (by intro z hz; rcases Nat.lt_or_ge z set with h | h; rw [pk_un (by omega)]; exact hg0 z h; rw [show z = set from by omega, pk_us, show q0 = N from by omega]) (by omega)
            ·
              refine kw_iload_n C 2 dX7_mixes_28 rfl ?_
              refine kw_aload_n C 3 dX7_mixes_29 rfl ?_
              refine kw_get (v := .ref (a 9)) (T := TX7) C 0 17 rfl rfl (by decide) (fun w h => mT (fwX7 w h)) rfl (mT wd_632) rfl dX7_mixes_30 ?_
              refine kw_iload_n C 0 dX7_mixes_33 rfl ?_
              refine kw_iald (f := odr) C 9 rfl (by omega) (by decide) dX7_mixes_34 ?_
              refine kw_top (show (odr q0) = (nI (oo (q0))) from by exact (hoo (q0) (by first | assumption | omega)).1) ?_
              have hl_34 := (hoo (q0) (by first | assumption | omega)).2
              refine kw_ishr C dX7_mixes_35 (kw_top (n_shr (by omega) (by omega)) ?_)
              refine kw_iconst (v := nI 1) C dX7_mixes_36 (by decide) ?_
              refine kw_iand C dX7_mixes_37 (kw_top (n_and _ _) ?_)
              refine kw_iconst (v := nI 1) C dX7_mixes_38 (by decide) ?_
              refine kw_icmp_ne_N (tgt := 63) C (by first | decide | exact Nat.lt_of_le_of_lt Nat.and_le_right (by decide)) (by first | decide | exact Nat.lt_of_le_of_lt Nat.and_le_right (by decide)) dX7_mixes_39 (by decide) (fun c_39 => ?_) (fun c_39 => ?_)
              ·
                refine kw_iload_n C 1 dX7_mixes_63 rfl ?_
                refine kw_istore_n C [(2, .int (nI (gvF oo ik set q0))), (3, .int (nI q0)), (1, .int (nI set)), (0, .ref (a 0))] dX7_mixes_64 rfl (by decide) rfl ?_
                refine kw_iinc (v := nI (q0 + 1)) C [(3, .int (nI (q0 + 1))), (2, .int (nI (gvF oo ik set q0))), (1, .int (nI set)), (0, .ref (a 0))] 1 dX7_mixes_65 rfl (nI_1 _) (by decide) rfl ?_
                refine kw_goto (tgt := 18) C dX7_mixes_68 (by decide) ?_
                refine KW.loc (lv' := [(3, .int (nI (q0 + 1))), (2, .int (nI (gvF oo ik set q0))), (1, .int (nI set)), (0, .ref (a 0))]) [0, 1, 2, 3] rfl ?_
                refine KW.asl (congrArg (fun zz => ([(3, .int (nI (q0 + 1))), (2, .int zz), (1, .int (nI set)), (0, .ref (a 0))] : List (Nat × Value))) (show (nI (gvF oo ik set q0)) = (nI (gvF oo ik set (q0 + 1))) from by first | (simp only [gvF]; rw [if_pos (tbm_t c_39)]; done) | (simp only [gvF]; rw [if_neg (by rw [tbm_f c_39]; decide)]; done))) ?_
                exact ih_18 (q0 + 1) (by first | assumption | omega | (simp; done)) (by omega)
              ·
                refine kw_aload_n C 3 dX7_mixes_42 rfl ?_
                refine kw_get (v := .ref (a 1)) (T := TX7) C 0 1 rfl rfl (by decide) (fun w h => mT (fwX7 w h)) rfl (mT wd_616) rfl dX7_mixes_43 ?_
                refine kw_bipush (v := nI 39) C dX7_mixes_46 (by decide) ?_
                refine kw_aload_n C 3 dX7_mixes_48 rfl ?_
                refine kw_get (v := .ref (a 9)) (T := TX7) C 0 17 rfl rfl (by decide) (fun w h => mT (fwX7 w h)) rfl (mT wd_632) rfl dX7_mixes_49 ?_
                refine kw_iload_n C 0 dX7_mixes_52 rfl ?_
                refine kw_iald (f := odr) C 9 rfl (by omega) (by decide) dX7_mixes_53 ?_
                refine kw_top (show (odr q0) = (nI (oo (q0))) from by exact (hoo (q0) (by first | assumption | omega)).1) ?_
                have hl_53 := (hoo (q0) (by first | assumption | omega)).2
                refine kw_iadd C dX7_mixes_54 (kw_top (nI_add _ _) ?_)
                refine kw_iald (f := Sr) C 1 rfl (by omega) (by decide) dX7_mixes_55 ?_
                refine kw_top (show (Sr (39 + (oo (q0)))) = (nI (ik (oo q0))) from by exact (hink (oo q0) (by first | assumption | omega)).1) ?_
                have hl_55 := (hink (oo q0) (by first | assumption | omega)).2
                refine kw_iload_n C 1 dX7_mixes_56 rfl ?_
                refine kS_i (As := [.int (nI (ik (oo q0))), .int (nI (gvF oo ik set q0))]) (rest := []) (ws' := fun (u : Unit) => kModel y a (th, Sr, dr, pa, um, im, ikp, tx, ty, sn, sm, at1, pl, tk, vl, fa, pf, odr, g0, mk, bo, bq)) C (c_X7_printed l G y t (ik (oo q0)) (gvF oo ik set q0) (by first | assumption | omega | decide)) (va_cwS 2 C.2.2.2.2.1 (goodS cT wd_747 wd_745 wd_746 wd_48) rfl rfl rfl (by decide +kernel) ⟨by decide, by decide⟩) [] [0, 1, 2, 3, 4, 5, 6, 7, 8, 9, 10, 11, 12, 13] [0, 1, 2, 3, 4, 5, 6, 7, 8, 9, 10, 11, 12, 13] rfl (by decide) rfl (by decide) (by decide) (fun _ => rfl) (by decide) rfl (Nat.le_of_ble_eq_true rfl) ⟨by decide, by decide⟩ dX7_mixes_57 (fun r u hr_5 => ?_)
                subst hr_5
                
                refine kw_goto (tgt := 64) C dX7_mixes_60 (by decide) ?_
                refine kw_istore_n C [(2, .int (nI (prN (ik (oo q0)) (gvF oo ik set q0)))), (3, .int (nI q0)), (1, .int (nI set)), (0, .ref (a 0))] dX7_mixes_64 rfl (by decide) rfl ?_
                refine kw_iinc (v := nI (q0 + 1)) C [(3, .int (nI (q0 + 1))), (2, .int (nI (prN (ik (oo q0)) (gvF oo ik set q0)))), (1, .int (nI set)), (0, .ref (a 0))] 1 dX7_mixes_65 rfl (nI_1 _) (by decide) rfl ?_
                refine kw_goto (tgt := 18) C dX7_mixes_68 (by decide) ?_
                refine KW.loc (lv' := [(3, .int (nI (q0 + 1))), (2, .int (nI (prN (ik (oo q0)) (gvF oo ik set q0)))), (1, .int (nI set)), (0, .ref (a 0))]) [0, 1, 2, 3] rfl ?_
                refine KW.asl (congrArg (fun zz => ([(3, .int (nI (q0 + 1))), (2, .int zz), (1, .int (nI set)), (0, .ref (a 0))] : List (Nat × Value))) (show (nI (prN (ik (oo q0)) (gvF oo ik set q0))) = (nI (gvF oo ik set (q0 + 1))) from by first | (simp only [gvF]; rw [if_pos (tbm_t c_39)]; done) | (simp only [gvF]; rw [if_neg (by rw [tbm_f c_39]; decide)]; done))) ?_
                exact ih_18 (q0 + 1) (by first | assumption | omega | (simp; done)) (by omega)
        refine KW.loc (lv' := [(3, .int (nI 0)), (2, .int (nI 0)), (1, .int (nI set)), (0, .ref (a 0))]) [0, 1, 2, 3] rfl ?_
        refine KW.asl (congrArg (fun zz => ([(3, .int (nI 0)), (2, .int zz), (1, .int (nI set)), (0, .ref (a 0))] : List (Nat × Value))) (show (nI 0) = (nI (gvF oo ik set 0)) from by rfl)) ?_
        exact L18_4 (N - 0 + 1) 0 (by first | assumption | omega | (simp; done)) (Nat.lt_succ_self _)
  refine KW.loc (lv' := [(1, .int (nI 0)), (0, .ref (a 0))]) [0, 1] rfl ?_
  exact L2_1 (2 ^ N - 0 + 1) 0 gv (by first | assumption | omega | (simp; done)) (by intro z hz; exact absurd hz (Nat.not_lt_zero _)) (Nat.lt_succ_self _)

set_option maxHeartbeats 4000000 in
set_option maxRecDepth 100000 in
theorem c_X7_asOrdered (l : Launch) (G : va_G) (y : Nat → ClassId) (t : Nat) (a : Nat → Nat) (th : Int32) (Sr : Nat → Int32) (dr : Nat → Int32) (pa : Nat → Int32) (um : Int32) (im : Nat → Int32) (ikp : Nat → Int32) (tx : Nat → Int32) (ty : Int32) (sn : Nat → Int32) (sm : Int32) (at1 : Int32) (pl : Int32) (tk : Int32) (vl : Int32) (fa : Int32) (pf : Nat → Int32) (odr : Nat → Int32) (gv : Nat → Int32) (mk : Nat → Int32) (bo : Nat → Int32) (bq : Nat → Int32) (W : Nat) (H : Nat) (N : Nat) (pcl : Nat → Nat) (ik : Nat → Nat) (o : Nat → Nat) (bk : Nat → Nat) (kk : Nat → Nat) (hR : RowOk Sr W H N pcl ik o bk kk) (sz : Nat) : Met l yX7_asOrdered (Cond.code yX7_asOrdered cX7_asOrdered 2 (none) :: TG) ({ frames := 0, cells := 0, slots := 0, locals := 0 }) (va_Pc [.ref (a 0)] (PR G y t (kModel y a (th, Sr, dr, pa, um, im, ikp, tx, ty, sn, sm, at1, pl, tk, vl, fa, pf, odr, gv, mk, bo, bq)) sz)) (va_Qv (fun (u : Nat → Int32) => ∀ q, q < 6 → u q = Sr (45 + q)) (fun (u : Nat → Int32) t => PO G (va_A (kModel y a (th, Sr, dr, pa, um, im, ikp, tx, ty, sn, sm, at1, pl, tk, vl, fa, pf, odr, gv, mk, bo, bq)) sz) (kModel y a (th, Sr, dr, pa, um, im, ikp, tx, ty, sn, sm, at1, pl, tk, vl, fa, pf, u, gv, mk, bo, bq)) t) (va_A (kModel y a (th, Sr, dr, pa, um, im, ikp, tx, ty, sn, sm, at1, pl, tk, vl, fa, pf, odr, gv, mk, bo, bq)) sz)) 0 0 (va_A (kModel y a (th, Sr, dr, pa, um, im, ikp, tx, ty, sn, sm, at1, pl, tk, vl, fa, pf, odr, gv, mk, bo, bq)) sz) := by
  refine kMet (cc := cX7_asOrdered) (maxL := 2) (ret := none) (Qc := fun A => va_Qv (fun (u : Nat → Int32) => ∀ q, q < 6 → u q = Sr (45 + q)) (fun (u : Nat → Int32) t => PO G A (kModel y a (th, Sr, dr, pa, um, im, ikp, tx, ty, sn, sm, at1, pl, tk, vl, fa, pf, u, gv, mk, bo, bq)) t) A) (by decide) rfl (Nat.le_of_ble_eq_true rfl) (fun p e s m below meth c A hsz C hin => ?_)
  obtain ⟨hS0, hS1, hS2, hW, hH, hN, hpic, hink, hord, hblk, hdx⟩ := id hR
  refine KW.loc (lv' := [(0, .ref (a 0))]) [0] rfl ?_
  refine kw_iconst (v := nI 0) C dX7_asOrdered_0 (by decide) ?_
  refine kw_istore_n C [(1, .int (nI 0)), (0, .ref (a 0))] dX7_asOrdered_1 rfl (by decide) rfl ?_
  have L2_1 : ∀ (nn : Nat) (i : Nat) (f0 : Nat → Int32) (hi : i ≤ 6) (hf0 : ∀ j, j < i → f0 j = Sr (45 + j)) (hms : 6 - i < nn), KW p l e ({ frames := 0, cells := 0, slots := 0, locals := 0 }) s m ([.ref (a 0)] : List Value).toArray below meth c 0 0 (MQ below (va_Qv (fun (u : Nat → Int32) => ∀ q, q < 6 → u q = Sr (45 + q)) (fun (u : Nat → Int32) t => PO G A (kModel y a (th, Sr, dr, pa, um, im, ikp, tx, ty, sn, sm, at1, pl, tk, vl, fa, pf, u, gv, mk, bo, bq)) t) A) ([.ref (a 0)] : List Value).toArray s 0 0 A) G A 2 (kModel y a (th, Sr, dr, pa, um, im, ikp, tx, ty, sn, sm, at1, pl, tk, vl, fa, pf, f0, gv, mk, bo, bq)) [(1, .int (nI i)), (0, .ref (a 0))] 2 [] := by
    intro nn
    induction nn with
    | zero => intro i f0 hi hf0 hms; exact absurd hms (Nat.not_lt_zero _)
    | succ nn ih_2 =>
      intro i f0 hi hf0 hms
      refine kw_iload_n C 0 dX7_asOrdered_2 rfl ?_
      refine kw_bipush (v := nI 6) C dX7_asOrdered_3 (by decide) ?_
      refine kw_icmp_ge_N (tgt := 29) C (by omega) (by omega) dX7_asOrdered_5 (by decide) (fun c_5 => ?_) (fun c_5 => ?_)
      ·
        refine kR_v C (f0) dX7_asOrdered_29 ?_ rfl
        exact fun q hq => hf0 q (by omega)
      ·
        refine kw_aload_n C 1 dX7_asOrdered_8 rfl ?_
        refine kw_get (v := .ref (a 9)) (T := TX7) C 0 17 rfl rfl (by decide) (fun w h => mT (fwX7 w h)) rfl (mT wd_632) rfl dX7_asOrdered_9 ?_
        refine kw_iload_n C 0 dX7_asOrdered_12 rfl ?_
        refine kw_aload_n C 1 dX7_asOrdered_13 rfl ?_
        refine kw_get (v := .ref (a 1)) (T := TX7) C 0 1 rfl rfl (by decide) (fun w h => mT (fwX7 w h)) rfl (mT wd_616) rfl dX7_asOrdered_14 ?_
        refine kw_bipush (v := nI 45) C dX7_asOrdered_17 (by decide) ?_
        refine kw_iload_n C 0 dX7_asOrdered_19 rfl ?_
        refine kw_iadd C dX7_asOrdered_20 (kw_top (nI_add _ _) ?_)
        refine kw_iald (f := Sr) C 1 rfl (by omega) (by decide) dX7_asOrdered_21 ?_
        refine kw_iast C 9 (kModel y a (th, Sr, dr, pa, um, im, ikp, tx, ty, sn, sm, at1, pl, tk, vl, fa, pf, upd f0 i (Sr (45 + i)), gv, mk, bo, bq)) rfl (by omega) (by decide) dX7_asOrdered_22 rfl ?_
        refine kw_iinc (v := nI (i + 1)) C [(1, .int (nI (i + 1))), (0, .ref (a 0))] 0 dX7_asOrdered_23 rfl (nI_1 _) (by decide) rfl ?_
        refine kw_goto (tgt := 2) C dX7_asOrdered_26 (by decide) ?_
        refine KW.loc (lv' := [(1, .int (nI (i + 1))), (0, .ref (a 0))]) [0, 1] rfl ?_
        exact ih_2 (i + 1) (upd f0 i (Sr (45 + i))) (by first | assumption | omega | (simp; done)) (by intro j hj; rcases Nat.lt_or_ge j i with h | h; rw [pk_un (by omega)]; exact hf0 j h; rw [show j = i from by omega]; exact pk_us) (by omega)
  refine KW.loc (lv' := [(1, .int (nI 0)), (0, .ref (a 0))]) [0, 1] rfl ?_
  exact L2_1 (6 - 0 + 1) 0 odr (by first | assumption | omega | (simp; done)) (by intro j hj; exact absurd hj (Nat.not_lt_zero _)) (Nat.lt_succ_self _)

set_option maxHeartbeats 4000000 in
set_option maxRecDepth 100000 in
theorem c_X7_leastSet (l : Launch) (G : va_G) (y : Nat → ClassId) (t : Nat) (a : Nat → Nat) (th : Int32) (Sr : Nat → Int32) (dr : Nat → Int32) (pa : Nat → Int32) (um : Int32) (im : Nat → Int32) (ikp : Nat → Int32) (tx : Nat → Int32) (ty : Int32) (sn : Nat → Int32) (sm : Int32) (at1 : Int32) (pl : Int32) (tk : Int32) (vl : Int32) (fa : Int32) (pf : Nat → Int32) (odr : Nat → Int32) (gv : Nat → Int32) (mk : Nat → Int32) (bo : Nat → Int32) (bq : Nat → Int32) (oo : Nat → Nat) (W : Nat) (H : Nat) (N : Nat) (pcl : Nat → Nat) (ik : Nat → Nat) (o : Nat → Nat) (bk : Nat → Nat) (kk : Nat → Nat) (hR : RowOk Sr W H N pcl ik o bk kk) (hoo : ∀ q, q < N → odr q = nI (oo q) ∧ oo q < N) (sz : Nat) : Met l yX7_leastSet (Cond.code yX7_leastSet cX7_leastSet 5 (some .int) :: TG) ({ frames := 2, cells := 0, slots := 0, locals := 44 }) (va_Pc [.ref (a 0)] (PR G y t (kModel y a (th, Sr, dr, pa, um, im, ikp, tx, ty, sn, sm, at1, pl, tk, vl, fa, pf, odr, gv, mk, bo, bq)) sz)) (va_Qi (fun (r : Int32) (u : (Nat → Int32) × (Nat → Int32)) => r = (lsM (wtY pcl W H) (fun z => mkP (fun z => gvF oo ik z N) z (z + 1)) (2 ^ N)) ∧ (∀ set, set < 2 ^ N → u.1 set = nI (gvF oo ik set N)) ∧ (∀ set, set < 2 ^ N → u.2 set = nI (mkP (fun z => gvF oo ik z N) set (set + 1)))) (fun (u : (Nat → Int32) × (Nat → Int32)) t => PO G (va_A (kModel y a (th, Sr, dr, pa, um, im, ikp, tx, ty, sn, sm, at1, pl, tk, vl, fa, pf, odr, gv, mk, bo, bq)) sz) (kModel y a (th, Sr, dr, pa, um, im, ikp, tx, ty, sn, sm, at1, pl, tk, vl, fa, pf, odr, u.1, u.2, bo, bq)) t) (va_A (kModel y a (th, Sr, dr, pa, um, im, ikp, tx, ty, sn, sm, at1, pl, tk, vl, fa, pf, odr, gv, mk, bo, bq)) sz)) 0 0 (va_A (kModel y a (th, Sr, dr, pa, um, im, ikp, tx, ty, sn, sm, at1, pl, tk, vl, fa, pf, odr, gv, mk, bo, bq)) sz) := by
  refine kMet (cc := cX7_leastSet) (maxL := 5) (ret := some .int) (Qc := fun A => va_Qi (fun (r : Int32) (u : (Nat → Int32) × (Nat → Int32)) => r = (lsM (wtY pcl W H) (fun z => mkP (fun z => gvF oo ik z N) z (z + 1)) (2 ^ N)) ∧ (∀ set, set < 2 ^ N → u.1 set = nI (gvF oo ik set N)) ∧ (∀ set, set < 2 ^ N → u.2 set = nI (mkP (fun z => gvF oo ik z N) set (set + 1)))) (fun (u : (Nat → Int32) × (Nat → Int32)) t => PO G A (kModel y a (th, Sr, dr, pa, um, im, ikp, tx, ty, sn, sm, at1, pl, tk, vl, fa, pf, odr, u.1, u.2, bo, bq)) t) A) (by decide) rfl (Nat.le_of_ble_eq_true rfl) (fun p e s m below meth c A hsz C hin => ?_)
  obtain ⟨hS0, hS1, hS2, hW, hH, hN, hpic, hink, hord, hblk, hdx⟩ := id hR
  have h64 := pow6 hN
  refine KW.loc (lv' := [(0, .ref (a 0))]) [0] rfl ?_
  refine kw_aload_n C 0 dX7_leastSet_0 rfl ?_
  refine kV_v (As := []) (rest := []) (ws' := fun (u : (Nat → Int32) × (Nat → Int32)) => kModel y a (th, Sr, dr, pa, um, im, ikp, tx, ty, sn, sm, at1, pl, tk, vl, fa, pf, odr, u.1, u.2, bo, bq)) C (c_X7_mixes l G y t a th Sr dr pa um im ikp tx ty sn sm at1 pl tk vl fa pf odr gv mk bo bq oo W H N pcl ik o bk kk (by first | assumption | omega | decide) (by first | assumption | omega | decide)) (cwV 0 C.2.2.2.2.1 (goodV cT wd_744 wd_741 wd_743 wd_23 wd_48) rfl rfl rfl (by decide +kernel) ⟨by decide, by decide⟩) [0, 1, 2, 3, 4, 5, 6, 7, 8, 9, 10, 11, 12, 13] [] [0, 1, 2, 3, 4, 5, 6, 7, 8, 9, 10, 11, 12, 13] rfl (by decide) rfl (by decide) (by decide) (fun _ => rfl) (by decide) 0 rfl rfl rfl (Nat.le_of_ble_eq_true rfl) ⟨by decide, by decide⟩ dX7_leastSet_1 (fun u hr_1 => ?_)
  obtain ⟨gv_b, mk_b⟩ := u
  try dsimp only at hr_1
  have hmx := hr_1
  refine kw_aload_n C 0 dX7_leastSet_4 rfl ?_
  refine kV_i (As := []) (rest := []) (ws' := fun (u : Unit) => kModel y a (th, Sr, dr, pa, um, im, ikp, tx, ty, sn, sm, at1, pl, tk, vl, fa, pf, odr, gv_b, mk_b, bo, bq)) C (c_X7_wanted l G y t a th Sr dr pa um im ikp tx ty sn sm at1 pl tk vl fa pf odr gv_b mk_b bo bq W H N pcl ik o bk kk (by first | assumption | omega | decide)) (cwV 0 C.2.2.2.2.1 (goodV cT wd_751 wd_748 wd_750 wd_24 wd_48) rfl rfl rfl (by decide +kernel) ⟨by decide, by decide⟩) [0, 1, 2, 3, 4, 5, 6, 7, 8, 9, 10, 11, 12, 13] [] [0, 1, 2, 3, 4, 5, 6, 7, 8, 9, 10, 11, 12, 13] rfl (by decide) rfl (by decide) (by decide) (fun _ => rfl) (by decide) 0 rfl rfl rfl (Nat.le_of_ble_eq_true rfl) ⟨by decide, by decide⟩ dX7_leastSet_5 (fun r u hr_2 => ?_)
  subst hr_2
  refine kw_istore_n C [(1, .int (nI (wtY pcl W H))), (0, .ref (a 0))] dX7_leastSet_8 rfl (by decide) rfl ?_
  refine kw_bipush (v := (-9)) C dX7_leastSet_9 (by decide) ?_
  refine kw_istore_n C [(2, .int (-9)), (1, .int (nI (wtY pcl W H))), (0, .ref (a 0))] dX7_leastSet_11 rfl (by decide) rfl ?_
  refine kw_iconst (v := nI 0) C dX7_leastSet_12 (by decide) ?_
  refine kw_istore_n C [(3, .int (nI 0)), (2, .int (-9)), (1, .int (nI (wtY pcl W H))), (0, .ref (a 0))] dX7_leastSet_13 rfl (by decide) rfl ?_
  have L14_3 : ∀ (nn : Nat) (i : Nat) (hi : i ≤ 2 ^ N) (hms : 2 ^ N - i < nn), KW p l e ({ frames := 2, cells := 0, slots := 0, locals := 44 }) s m ([.ref (a 0)] : List Value).toArray below meth c 0 0 (MQ below (va_Qi (fun (r : Int32) (u : (Nat → Int32) × (Nat → Int32)) => r = (lsM (wtY pcl W H) (fun z => mkP (fun z => gvF oo ik z N) z (z + 1)) (2 ^ N)) ∧ (∀ set, set < 2 ^ N → u.1 set = nI (gvF oo ik set N)) ∧ (∀ set, set < 2 ^ N → u.2 set = nI (mkP (fun z => gvF oo ik z N) set (set + 1)))) (fun (u : (Nat → Int32) × (Nat → Int32)) t => PO G A (kModel y a (th, Sr, dr, pa, um, im, ikp, tx, ty, sn, sm, at1, pl, tk, vl, fa, pf, odr, u.1, u.2, bo, bq)) t) A) ([.ref (a 0)] : List Value).toArray s 0 0 A) G A 5 (kModel y a (th, Sr, dr, pa, um, im, ikp, tx, ty, sn, sm, at1, pl, tk, vl, fa, pf, odr, gv_b, mk_b, bo, bq)) [(3, .int (nI i)), (2, .int (lsM (wtY pcl W H) (fun z => mkP (fun z => gvF oo ik z N) z (z + 1)) i)), (1, .int (nI (wtY pcl W H))), (0, .ref (a 0))] 14 [] := by
    intro nn
    induction nn with
    | zero => intro i hi hms; exact absurd hms (Nat.not_lt_zero _)
    | succ nn ih_14 =>
      intro i hi hms
      refine kw_iload_n C 0 dX7_leastSet_14 rfl ?_
      refine kw_iconst (v := nI 1) C dX7_leastSet_15 (by decide) ?_
      refine kw_aload_n C 3 dX7_leastSet_16 rfl ?_
      refine kw_get (v := .ref (a 1)) (T := TX7) C 0 1 rfl rfl (by decide) (fun w h => mT (fwX7 w h)) rfl (mT wd_616) rfl dX7_leastSet_17 ?_
      refine kw_iconst (v := nI 2) C dX7_leastSet_20 (by decide) ?_
      refine kw_iald (f := Sr) C 1 rfl (by omega) (by decide) dX7_leastSet_21 ?_
      refine kw_top (show (Sr 2) = (nI N) from by exact hS2) ?_
      refine kw_ishl C dX7_leastSet_22 (kw_top (n_shl1 (by omega)) ?_)
      refine kw_icmp_ge_N (tgt := 80) C (by omega) (by omega) dX7_leastSet_23 (by decide) (fun c_23 => ?_) (fun c_23 => ?_)
      ·
        refine kw_iload_n C 1 dX7_leastSet_80 rfl ?_
        refine kR_i C (gv_b, mk_b) dX7_leastSet_81 ?_ rfl
        rw [show i = 2 ^ N from by omega]; exact ⟨rfl, hmx⟩
      ·
        refine kw_iload_n C 1 dX7_leastSet_26 rfl ?_
        refine kw_bipush (v := (-9)) C dX7_leastSet_27 (by decide) ?_
        have J48_4 : ∀ (_ : Unit), KW p l e ({ frames := 2, cells := 0, slots := 0, locals := 44 }) s m ([.ref (a 0)] : List Value).toArray below meth c 0 0 (MQ below (va_Qi (fun (r : Int32) (u : (Nat → Int32) × (Nat → Int32)) => r = (lsM (wtY pcl W H) (fun z => mkP (fun z => gvF oo ik z N) z (z + 1)) (2 ^ N)) ∧ (∀ set, set < 2 ^ N → u.1 set = nI (gvF oo ik set N)) ∧ (∀ set, set < 2 ^ N → u.2 set = nI (mkP (fun z => gvF oo ik z N) set (set + 1)))) (fun (u : (Nat → Int32) × (Nat → Int32)) t => PO G A (kModel y a (th, Sr, dr, pa, um, im, ikp, tx, ty, sn, sm, at1, pl, tk, vl, fa, pf, odr, u.1, u.2, bo, bq)) t) A) ([.ref (a 0)] : List Value).toArray s 0 0 A) G A 5 (kModel y a (th, Sr, dr, pa, um, im, ikp, tx, ty, sn, sm, at1, pl, tk, vl, fa, pf, odr, gv_b, mk_b, bo, bq)) [(3, .int (nI i)), (2, .int (lsM (wtY pcl W H) (fun z => mkP (fun z => gvF oo ik z N) z (z + 1)) i)), (1, .int (nI (wtY pcl W H))), (0, .ref (a 0))] 48 [.int (bI (decide (lsM (wtY pcl W H) (fun z => mkP (fun z => gvF oo ik z N) z (z + 1)) i = -9 ∨ onI (nI i) 8 < onI (lsM (wtY pcl W H) (fun z => mkP (fun z => gvF oo ik z N) z (z + 1)) i) 8)))] := by
          intro _
          refine kw_istore C [(4, .int (bI (decide (lsM (wtY pcl W H) (fun z => mkP (fun z => gvF oo ik z N) z (z + 1)) i = -9 ∨ onI (nI i) 8 < onI (lsM (wtY pcl W H) (fun z => mkP (fun z => gvF oo ik z N) z (z + 1)) i) 8)))), (3, .int (nI i)), (2, .int (lsM (wtY pcl W H) (fun z => mkP (fun z => gvF oo ik z N) z (z + 1)) i)), (1, .int (nI (wtY pcl W H))), (0, .ref (a 0))] dX7_leastSet_48 (by decide) rfl ?_
          refine kw_iload C 0 dX7_leastSet_50 rfl ?_
          refine kw_if_eq_D (tgt := 72) C dX7_leastSet_52 (by decide) (fun c_52 => ?_) (fun c_52 => ?_)
          ·
            refine kw_iload_n C 2 dX7_leastSet_72 rfl ?_
            refine kw_istore_n C [(2, .int (lsM (wtY pcl W H) (fun z => mkP (fun z => gvF oo ik z N) z (z + 1)) i)), (4, .int (bI (decide (lsM (wtY pcl W H) (fun z => mkP (fun z => gvF oo ik z N) z (z + 1)) i = -9 ∨ onI (nI i) 8 < onI (lsM (wtY pcl W H) (fun z => mkP (fun z => gvF oo ik z N) z (z + 1)) i) 8)))), (3, .int (nI i)), (1, .int (nI (wtY pcl W H))), (0, .ref (a 0))] dX7_leastSet_73 rfl (by decide) rfl ?_
            refine kw_iinc (v := nI (i + 1)) C [(3, .int (nI (i + 1))), (2, .int (lsM (wtY pcl W H) (fun z => mkP (fun z => gvF oo ik z N) z (z + 1)) i)), (4, .int (bI (decide (lsM (wtY pcl W H) (fun z => mkP (fun z => gvF oo ik z N) z (z + 1)) i = -9 ∨ onI (nI i) 8 < onI (lsM (wtY pcl W H) (fun z => mkP (fun z => gvF oo ik z N) z (z + 1)) i) 8)))), (1, .int (nI (wtY pcl W H))), (0, .ref (a 0))] 2 dX7_leastSet_74 rfl (nI_1 _) (by decide) rfl ?_
            refine kw_goto (tgt := 14) C dX7_leastSet_77 (by decide) ?_
            refine KW.loc (lv' := [(3, .int (nI (i + 1))), (2, .int (lsM (wtY pcl W H) (fun z => mkP (fun z => gvF oo ik z N) z (z + 1)) i)), (1, .int (nI (wtY pcl W H))), (0, .ref (a 0))]) [0, 1, 3, 4] rfl ?_
            refine KW.asl (congrArg (fun zz => ([(3, .int (nI (i + 1))), (2, .int zz), (1, .int (nI (wtY pcl W H))), (0, .ref (a 0))] : List (Nat × Value))) (show (lsM (wtY pcl W H) (fun z => mkP (fun z => gvF oo ik z N) z (z + 1)) i) = (lsM (wtY pcl W H) (fun z => mkP (fun z => gvF oo ik z N) z (z + 1)) (i + 1)) from by simp only [lsM]; split <;> rename_i hh <;> first | rfl | exact absurd hh.1 c_52 | exact absurd hh.2 c_65 | exact absurd (And.intro c_52 c_65) hh)) ?_
            exact ih_14 (i + 1) (by first | assumption | omega | (simp; done)) (by omega)
          ·
            refine kw_iload_n C 3 dX7_leastSet_55 rfl ?_
            refine kw_aload_n C 4 dX7_leastSet_56 rfl ?_
            refine kw_get (v := .ref (a 11)) (T := TX7) C 0 19 rfl rfl (by decide) (fun w h => mT (fwX7 w h)) rfl (mT wd_634) rfl dX7_leastSet_57 ?_
            refine kw_iload_n C 1 dX7_leastSet_60 rfl ?_
            refine kw_iald (f := mk_b) C 11 rfl (by omega) (by decide) dX7_leastSet_61 ?_
            refine kw_top (show (mk_b i) = (nI (mkP (fun z => gvF oo ik z N) (i) (i + 1))) from by exact hmx.2 _ c_23) ?_
            refine kw_iconst (v := (-1)) C dX7_leastSet_62 (by decide) ?_
            refine kw_ixor C dX7_leastSet_63 ?_
            refine kw_iand C dX7_leastSet_64 ?_
            refine kw_if_ne (tgt := 72) C dX7_leastSet_65 (by decide) (fun c_65 => ?_) (fun c_65 => ?_)
            ·
              refine kw_iload_n C 2 dX7_leastSet_72 rfl ?_
              refine kw_istore_n C [(2, .int (lsM (wtY pcl W H) (fun z => mkP (fun z => gvF oo ik z N) z (z + 1)) i)), (4, .int (bI (decide (lsM (wtY pcl W H) (fun z => mkP (fun z => gvF oo ik z N) z (z + 1)) i = -9 ∨ onI (nI i) 8 < onI (lsM (wtY pcl W H) (fun z => mkP (fun z => gvF oo ik z N) z (z + 1)) i) 8)))), (3, .int (nI i)), (1, .int (nI (wtY pcl W H))), (0, .ref (a 0))] dX7_leastSet_73 rfl (by decide) rfl ?_
              refine kw_iinc (v := nI (i + 1)) C [(3, .int (nI (i + 1))), (2, .int (lsM (wtY pcl W H) (fun z => mkP (fun z => gvF oo ik z N) z (z + 1)) i)), (4, .int (bI (decide (lsM (wtY pcl W H) (fun z => mkP (fun z => gvF oo ik z N) z (z + 1)) i = -9 ∨ onI (nI i) 8 < onI (lsM (wtY pcl W H) (fun z => mkP (fun z => gvF oo ik z N) z (z + 1)) i) 8)))), (1, .int (nI (wtY pcl W H))), (0, .ref (a 0))] 2 dX7_leastSet_74 rfl (nI_1 _) (by decide) rfl ?_
              refine kw_goto (tgt := 14) C dX7_leastSet_77 (by decide) ?_
              refine KW.loc (lv' := [(3, .int (nI (i + 1))), (2, .int (lsM (wtY pcl W H) (fun z => mkP (fun z => gvF oo ik z N) z (z + 1)) i)), (1, .int (nI (wtY pcl W H))), (0, .ref (a 0))]) [0, 1, 3, 4] rfl ?_
              refine KW.asl (congrArg (fun zz => ([(3, .int (nI (i + 1))), (2, .int zz), (1, .int (nI (wtY pcl W H))), (0, .ref (a 0))] : List (Nat × Value))) (show (lsM (wtY pcl W H) (fun z => mkP (fun z => gvF oo ik z N) z (z + 1)) i) = (lsM (wtY pcl W H) (fun z => mkP (fun z => gvF oo ik z N) z (z + 1)) (i + 1)) from by simp only [lsM]; split <;> rename_i hh <;> first | rfl | exact absurd hh.1 c_52 | exact absurd hh.2 c_65 | exact absurd (And.intro c_52 c_65) hh)) ?_
              exact ih_14 (i + 1) (by first | assumption | omega | (simp; done)) (by omega)
            ·
              refine kw_iload_n C 1 dX7_leastSet_68 rfl ?_
              refine kw_goto (tgt := 73) C dX7_leastSet_69 (by decide) ?_
              refine kw_istore_n C [(2, .int (nI i)), (4, .int (bI (decide (lsM (wtY pcl W H) (fun z => mkP (fun z => gvF oo ik z N) z (z + 1)) i = -9 ∨ onI (nI i) 8 < onI (lsM (wtY pcl W H) (fun z => mkP (fun z => gvF oo ik z N) z (z + 1)) i) 8)))), (3, .int (nI i)), (1, .int (nI (wtY pcl W H))), (0, .ref (a 0))] dX7_leastSet_73 rfl (by decide) rfl ?_
              refine kw_iinc (v := nI (i + 1)) C [(3, .int (nI (i + 1))), (2, .int (nI i)), (4, .int (bI (decide (lsM (wtY pcl W H) (fun z => mkP (fun z => gvF oo ik z N) z (z + 1)) i = -9 ∨ onI (nI i) 8 < onI (lsM (wtY pcl W H) (fun z => mkP (fun z => gvF oo ik z N) z (z + 1)) i) 8)))), (1, .int (nI (wtY pcl W H))), (0, .ref (a 0))] 2 dX7_leastSet_74 rfl (nI_1 _) (by decide) rfl ?_
              refine kw_goto (tgt := 14) C dX7_leastSet_77 (by decide) ?_
              refine KW.loc (lv' := [(3, .int (nI (i + 1))), (2, .int (nI i)), (1, .int (nI (wtY pcl W H))), (0, .ref (a 0))]) [0, 1, 3, 4] rfl ?_
              refine KW.asl (congrArg (fun zz => ([(3, .int (nI (i + 1))), (2, .int zz), (1, .int (nI (wtY pcl W H))), (0, .ref (a 0))] : List (Nat × Value))) (show (nI i) = (lsM (wtY pcl W H) (fun z => mkP (fun z => gvF oo ik z N) z (z + 1)) (i + 1)) from by simp only [lsM]; split <;> rename_i hh <;> first | rfl | exact absurd hh.1 c_52 | exact absurd hh.2 c_65 | exact absurd (And.intro c_52 c_65) hh)) ?_
              exact ih_14 (i + 1) (by first | assumption | omega | (simp; done)) (by omega)
        refine kw_icmp_eq (tgt := 43) C dX7_leastSet_29 (by decide) (fun c_29 => ?_) (fun c_29 => ?_)
        ·
          refine kw_iconst (v := nI 1) C dX7_leastSet_43 (by decide) ?_
          refine kw_goto (tgt := 48) C dX7_leastSet_44 (by decide) ?_
          refine KW.loc (lv' := [(3, .int (nI i)), (2, .int (lsM (wtY pcl W H) (fun z => mkP (fun z => gvF oo ik z N) z (z + 1)) i)), (1, .int (nI (wtY pcl W H))), (0, .ref (a 0))]) [0, 1, 2, 3] rfl ?_
          refine KW.ass (congrArg (fun zz => ([.int zz] : List Value)) (show (nI 1) = (bI (decide (lsM (wtY pcl W H) (fun z => mkP (fun z => gvF oo ik z N) z (z + 1)) i = -9 ∨ onI (nI i) 8 < onI (lsM (wtY pcl W H) (fun z => mkP (fun z => gvF oo ik z N) z (z + 1)) i) 8))) from by first | exact (bI_t (Or.inl c_29)).symm | exact (bI_t (Or.inr (not_le32 c_40))).symm | exact (bI_f (fun h => h.elim c_29 (fun q => absurd q (Int32.not_lt.mpr c_40)))).symm)) ?_
          exact J48_4 ()
        ·
          refine kw_iload_n C 0 dX7_leastSet_32 rfl ?_
          refine kS_i (As := [.int (nI i)]) (rest := []) (ws' := fun (u : Unit) => kModel y a (th, Sr, dr, pa, um, im, ikp, tx, ty, sn, sm, at1, pl, tk, vl, fa, pf, odr, gv_b, mk_b, bo, bq)) C (c_X7_ones l G y t (nI i)) (va_cwS 1 C.2.2.2.2.1 (goodS cT wd_754 wd_752 wd_753 wd_48) rfl rfl rfl (by decide +kernel) ⟨by decide, by decide⟩) [] [0, 1, 2, 3, 4, 5, 6, 7, 8, 9, 10, 11, 12, 13] [0, 1, 2, 3, 4, 5, 6, 7, 8, 9, 10, 11, 12, 13] rfl (by decide) rfl (by decide) (by decide) (fun _ => rfl) (by decide) rfl (Nat.le_of_ble_eq_true rfl) ⟨by decide, by decide⟩ dX7_leastSet_33 (fun r u hr_5 => ?_)
          subst hr_5
          refine kw_iload_n C 1 dX7_leastSet_36 rfl ?_
          refine kS_i (As := [.int (lsM (wtY pcl W H) (fun z => mkP (fun z => gvF oo ik z N) z (z + 1)) i)]) (rest := [.int (onI (nI i) 8)]) (ws' := fun (u : Unit) => kModel y a (th, Sr, dr, pa, um, im, ikp, tx, ty, sn, sm, at1, pl, tk, vl, fa, pf, odr, gv_b, mk_b, bo, bq)) C (c_X7_ones l G y t (lsM (wtY pcl W H) (fun z => mkP (fun z => gvF oo ik z N) z (z + 1)) i)) (va_cwS 1 C.2.2.2.2.1 (goodS cT wd_754 wd_752 wd_753 wd_48) rfl rfl rfl (by decide +kernel) ⟨by decide, by decide⟩) [] [0, 1, 2, 3, 4, 5, 6, 7, 8, 9, 10, 11, 12, 13] [0, 1, 2, 3, 4, 5, 6, 7, 8, 9, 10, 11, 12, 13] rfl (by decide) rfl (by decide) (by decide) (fun _ => rfl) (by decide) rfl (Nat.le_of_ble_eq_true rfl) ⟨by decide, by decide⟩ dX7_leastSet_37 (fun r u hr_6 => ?_)
          subst hr_6
          refine kw_icmp_ge (tgt := 47) C dX7_leastSet_40 (by decide) (fun c_40 => ?_) (fun c_40 => ?_)
          ·
            refine kw_iconst (v := nI 0) C dX7_leastSet_47 (by decide) ?_
            refine KW.loc (lv' := [(3, .int (nI i)), (2, .int (lsM (wtY pcl W H) (fun z => mkP (fun z => gvF oo ik z N) z (z + 1)) i)), (1, .int (nI (wtY pcl W H))), (0, .ref (a 0))]) [0, 1, 2, 3] rfl ?_
            refine KW.ass (congrArg (fun zz => ([.int zz] : List Value)) (show (nI 0) = (bI (decide (lsM (wtY pcl W H) (fun z => mkP (fun z => gvF oo ik z N) z (z + 1)) i = -9 ∨ onI (nI i) 8 < onI (lsM (wtY pcl W H) (fun z => mkP (fun z => gvF oo ik z N) z (z + 1)) i) 8))) from by first | exact (bI_t (Or.inl c_29)).symm | exact (bI_t (Or.inr (not_le32 c_40))).symm | exact (bI_f (fun h => h.elim c_29 (fun q => absurd q (Int32.not_lt.mpr c_40)))).symm)) ?_
            exact J48_4 ()
          ·
            refine kw_iconst (v := nI 1) C dX7_leastSet_43 (by decide) ?_
            refine kw_goto (tgt := 48) C dX7_leastSet_44 (by decide) ?_
            refine KW.loc (lv' := [(3, .int (nI i)), (2, .int (lsM (wtY pcl W H) (fun z => mkP (fun z => gvF oo ik z N) z (z + 1)) i)), (1, .int (nI (wtY pcl W H))), (0, .ref (a 0))]) [0, 1, 2, 3] rfl ?_
            refine KW.ass (congrArg (fun zz => ([.int zz] : List Value)) (show (nI 1) = (bI (decide (lsM (wtY pcl W H) (fun z => mkP (fun z => gvF oo ik z N) z (z + 1)) i = -9 ∨ onI (nI i) 8 < onI (lsM (wtY pcl W H) (fun z => mkP (fun z => gvF oo ik z N) z (z + 1)) i) 8))) from by first | exact (bI_t (Or.inl c_29)).symm | exact (bI_t (Or.inr (not_le32 c_40))).symm | exact (bI_f (fun h => h.elim c_29 (fun q => absurd q (Int32.not_lt.mpr c_40)))).symm)) ?_
            exact J48_4 ()
  refine KW.loc (lv' := [(3, .int (nI 0)), (2, .int (-9)), (1, .int (nI (wtY pcl W H))), (0, .ref (a 0))]) [0, 1, 2, 3] rfl ?_
  refine KW.asl (congrArg (fun zz => ([(3, .int (nI 0)), (2, .int zz), (1, .int (nI (wtY pcl W H))), (0, .ref (a 0))] : List (Nat × Value))) (show (-9) = (lsM (wtY pcl W H) (fun z => mkP (fun z => gvF oo ik z N) z (z + 1)) 0) from by rfl)) ?_
  exact L14_3 (2 ^ N - 0 + 1) 0 (by first | assumption | omega | (simp; done)) (Nat.lt_succ_self _)

set_option maxHeartbeats 4000000 in
set_option maxRecDepth 100000 in
theorem c_X7_notes (l : Launch) (G : va_G) (y : Nat → ClassId) (t : Nat) (a : Nat → Nat) (th : Int32) (Sr : Nat → Int32) (dr : Nat → Int32) (pa : Nat → Int32) (im : Nat → Int32) (ikp : Nat → Int32) (tx : Nat → Int32) (ty : Int32) (sn : Nat → Int32) (sm : Int32) (at1 : Int32) (pl : Int32) (tk : Int32) (vl : Int32) (fa : Int32) (pf : Nat → Int32) (odr : Nat → Int32) (gv : Nat → Int32) (mk : Nat → Int32) (bo : Nat → Int32) (bq : Nat → Int32) (U : Nat) (hU : U ≤ 6) (sz : Nat) : Met l yX7_notes (Cond.code yX7_notes cX7_notes 2 (none) :: TG) ({ frames := 0, cells := 0, slots := 0, locals := 0 }) (va_Pc [.ref (a 0)] (PR G y t (kModel y a (th, Sr, dr, pa, nI U, im, ikp, tx, ty, sn, sm, at1, pl, tk, vl, fa, pf, odr, gv, mk, bo, bq)) sz)) (va_Qv (fun (u : (Nat → Int32) × Nat) => (U < 6 → u.2 = U + 1 ∧ (∀ j, j < 99 * U → u.1 j = pa j) ∧ (∀ j, j < 99 → u.1 (99 * U + j) = Sr j)) ∧ (U = 6 → u.2 = 6 ∧ (∀ j, j < 495 → u.1 j = pa (99 + j)) ∧ (∀ j, j < 99 → u.1 (495 + j) = Sr j))) (fun (u : (Nat → Int32) × Nat) t => PO G (va_A (kModel y a (th, Sr, dr, pa, nI U, im, ikp, tx, ty, sn, sm, at1, pl, tk, vl, fa, pf, odr, gv, mk, bo, bq)) sz) (kModel y a (th, Sr, dr, u.1, nI u.2, im, ikp, tx, ty, sn, sm, at1, pl, tk, vl, fa, pf, odr, gv, mk, bo, bq)) t) (va_A (kModel y a (th, Sr, dr, pa, nI U, im, ikp, tx, ty, sn, sm, at1, pl, tk, vl, fa, pf, odr, gv, mk, bo, bq)) sz)) 0 0 (va_A (kModel y a (th, Sr, dr, pa, nI U, im, ikp, tx, ty, sn, sm, at1, pl, tk, vl, fa, pf, odr, gv, mk, bo, bq)) sz) := by
  refine kMet (cc := cX7_notes) (maxL := 2) (ret := none) (Qc := fun A => va_Qv (fun (u : (Nat → Int32) × Nat) => (U < 6 → u.2 = U + 1 ∧ (∀ j, j < 99 * U → u.1 j = pa j) ∧ (∀ j, j < 99 → u.1 (99 * U + j) = Sr j)) ∧ (U = 6 → u.2 = 6 ∧ (∀ j, j < 495 → u.1 j = pa (99 + j)) ∧ (∀ j, j < 99 → u.1 (495 + j) = Sr j))) (fun (u : (Nat → Int32) × Nat) t => PO G A (kModel y a (th, Sr, dr, u.1, nI u.2, im, ikp, tx, ty, sn, sm, at1, pl, tk, vl, fa, pf, odr, gv, mk, bo, bq)) t) A) (by decide) rfl (Nat.le_of_ble_eq_true rfl) (fun p e s m below meth c A hsz C hin => ?_)
  refine KW.loc (lv' := [(0, .ref (a 0))]) [0] rfl ?_
  refine kw_aload_n C 0 dX7_notes_0 rfl ?_
  refine kw_get (v := .int (nI U)) (T := TX7) C 0 4 rfl rfl (by decide) (fun w h => mT (fwX7 w h)) rfl (mT wd_619) rfl dX7_notes_1 ?_
  refine kw_bipush (v := nI 6) C dX7_notes_4 (by decide) ?_
  have J49_1 : ∀ (V : Nat) (p2 : Nat → Int32) (hV : V ≤ 5) (hc : (U < 6 ∧ V = U ∧ p2 = pa) ∨ (U = 6 ∧ V = 5 ∧ ∀ j, j < 495 → p2 j = pa (99 + j))), KW p l e ({ frames := 0, cells := 0, slots := 0, locals := 0 }) s m ([.ref (a 0)] : List Value).toArray below meth c 0 0 (MQ below (va_Qv (fun (u : (Nat → Int32) × Nat) => (U < 6 → u.2 = U + 1 ∧ (∀ j, j < 99 * U → u.1 j = pa j) ∧ (∀ j, j < 99 → u.1 (99 * U + j) = Sr j)) ∧ (U = 6 → u.2 = 6 ∧ (∀ j, j < 495 → u.1 j = pa (99 + j)) ∧ (∀ j, j < 99 → u.1 (495 + j) = Sr j))) (fun (u : (Nat → Int32) × Nat) t => PO G A (kModel y a (th, Sr, dr, u.1, nI u.2, im, ikp, tx, ty, sn, sm, at1, pl, tk, vl, fa, pf, odr, gv, mk, bo, bq)) t) A) ([.ref (a 0)] : List Value).toArray s 0 0 A) G A 2 (kModel y a (th, Sr, dr, p2, nI V, im, ikp, tx, ty, sn, sm, at1, pl, tk, vl, fa, pf, odr, gv, mk, bo, bq)) [(0, .ref (a 0))] 49 [] := by
    intro V p2 hV hc
    refine kw_iconst (v := nI 0) C dX7_notes_49 (by decide) ?_
    refine kw_istore_n C [(1, .int (nI 0)), (0, .ref (a 0))] dX7_notes_50 rfl (by decide) rfl ?_
    have L51_2 : ∀ (nn : Nat) (i : Nat) (p3 : Nat → Int32) (hi : i ≤ 99) (hp3 : ∀ z, (z < 99 * V ∨ 99 * V + i ≤ z) → p3 z = p2 z) (hq3 : ∀ z, z < i → p3 (99 * V + z) = Sr z) (hms : 99 - i < nn), KW p l e ({ frames := 0, cells := 0, slots := 0, locals := 0 }) s m ([.ref (a 0)] : List Value).toArray below meth c 0 0 (MQ below (va_Qv (fun (u : (Nat → Int32) × Nat) => (U < 6 → u.2 = U + 1 ∧ (∀ j, j < 99 * U → u.1 j = pa j) ∧ (∀ j, j < 99 → u.1 (99 * U + j) = Sr j)) ∧ (U = 6 → u.2 = 6 ∧ (∀ j, j < 495 → u.1 j = pa (99 + j)) ∧ (∀ j, j < 99 → u.1 (495 + j) = Sr j))) (fun (u : (Nat → Int32) × Nat) t => PO G A (kModel y a (th, Sr, dr, u.1, nI u.2, im, ikp, tx, ty, sn, sm, at1, pl, tk, vl, fa, pf, odr, gv, mk, bo, bq)) t) A) ([.ref (a 0)] : List Value).toArray s 0 0 A) G A 2 (kModel y a (th, Sr, dr, p3, nI V, im, ikp, tx, ty, sn, sm, at1, pl, tk, vl, fa, pf, odr, gv, mk, bo, bq)) [(1, .int (nI i)), (0, .ref (a 0))] 51 [] := by
      intro nn
      induction nn with
      | zero => intro i p3 hi hp3 hq3 hms; exact absurd hms (Nat.not_lt_zero _)
      | succ nn ih_51 =>
        intro i p3 hi hp3 hq3 hms
        refine kw_iload_n C 0 dX7_notes_51 rfl ?_
        refine kw_bipush (v := nI 99) C dX7_notes_52 (by decide) ?_
        refine kw_icmp_ge_N (tgt := 83) C (by omega) (by omega) dX7_notes_54 (by decide) (fun c_54 => ?_) (fun c_54 => ?_)
        ·
          refine kw_aload_n C 1 dX7_notes_83 rfl ?_
          refine kw_dup C dX7_notes_84 rfl ?_
          refine kw_get (v := .int (nI V)) (T := TX7) C 0 4 rfl rfl (by decide) (fun w h => mT (fwX7 w h)) rfl (mT wd_619) rfl dX7_notes_85 ?_
          refine kw_iconst (v := nI 1) C dX7_notes_88 (by decide) ?_
          refine kw_iadd C dX7_notes_89 (kw_top (nI_add _ _) ?_)
          refine kw_put (T := TX7) (ty := .int) C 0 4 (kModel y a (th, Sr, dr, p3, nI (V + 1), im, ikp, tx, ty, sn, sm, at1, pl, tk, vl, fa, pf, odr, gv, mk, bo, bq)) rfl rfl (by decide) (fun w h => mT (fwX7 w h)) tyX7 tyX7_ok nmX7 rfl (mT wd_619) rfl (by decide +kernel) rfl rfl (Nat.le_of_ble_eq_true rfl) dX7_notes_90 rfl ?_
          refine kR_v C (p3, V + 1) dX7_notes_93 ?_ rfl
          have e99 : i = 99 := by omega
          subst e99
          rcases hc with ⟨h1, h2, h3⟩ | ⟨h1, h2, h3⟩
          · subst h2; subst h3
            exact ⟨fun _ => ⟨rfl, fun j hj => hp3 j (Or.inl hj), fun j hj => hq3 j hj⟩, fun h => absurd h (by omega)⟩
          · subst h2
            exact ⟨fun h => absurd h (by omega), fun _ => ⟨rfl, fun j hj => by rw [hp3 j (Or.inl (by omega))]; exact h3 j hj, fun j hj => hq3 j hj⟩⟩
        ·
          refine kw_aload_n C 1 dX7_notes_57 rfl ?_
          refine kw_get (v := .ref (a 3)) (T := TX7) C 0 3 rfl rfl (by decide) (fun w h => mT (fwX7 w h)) rfl (mT wd_618) rfl dX7_notes_58 ?_
          refine kw_bipush (v := nI 99) C dX7_notes_61 (by decide) ?_
          refine kw_aload_n C 1 dX7_notes_63 rfl ?_
          refine kw_get (v := .int (nI V)) (T := TX7) C 0 4 rfl rfl (by decide) (fun w h => mT (fwX7 w h)) rfl (mT wd_619) rfl dX7_notes_64 ?_
          refine kw_imul C dX7_notes_67 (kw_top (pk_mul _ _) ?_)
          refine kw_iload_n C 0 dX7_notes_68 rfl ?_
          refine kw_iadd C dX7_notes_69 (kw_top (nI_add _ _) ?_)
          refine kw_aload_n C 1 dX7_notes_70 rfl ?_
          refine kw_get (v := .ref (a 1)) (T := TX7) C 0 1 rfl rfl (by decide) (fun w h => mT (fwX7 w h)) rfl (mT wd_616) rfl dX7_notes_71 ?_
          refine kw_iload_n C 0 dX7_notes_74 rfl ?_
          refine kw_iald (f := Sr) C 1 rfl (by omega) (by decide) dX7_notes_75 ?_
          refine kw_iast C 3 (kModel y a (th, Sr, dr, upd p3 ((99 * V) + i) (Sr i), nI V, im, ikp, tx, ty, sn, sm, at1, pl, tk, vl, fa, pf, odr, gv, mk, bo, bq)) rfl (by omega) (by decide) dX7_notes_76 rfl ?_
          refine kw_iinc (v := nI (i + 1)) C [(1, .int (nI (i + 1))), (0, .ref (a 0))] 0 dX7_notes_77 rfl (nI_1 _) (by decide) rfl ?_
          refine kw_goto (tgt := 51) C dX7_notes_80 (by decide) ?_
          refine KW.loc (lv' := [(1, .int (nI (i + 1))), (0, .ref (a 0))]) [0, 1] rfl ?_
          exact ih_51 (i + 1) (upd p3 ((99 * V) + i) (Sr i)) (by first | assumption | omega | (simp; done)) (by intro z hz; rw [pk_un (by omega)]; exact hp3 z (by omega)) (by intro z hz; rcases Nat.lt_or_ge z i with h | h; rw [pk_un (by omega)]; exact hq3 z h; rw [show z = i from by omega]; exact pk_us) (by omega)
    refine KW.loc (lv' := [(1, .int (nI 0)), (0, .ref (a 0))]) [0, 1] rfl ?_
    exact L51_2 (99 - 0 + 1) 0 p2 (by first | assumption | omega | (simp; done)) (by intro z _; rfl) (by intro z hz; exact absurd hz (Nat.not_lt_zero _)) (Nat.lt_succ_self _)
  refine kw_icmp_ne_N (tgt := 49) C (by omega) (by omega) dX7_notes_6 (by decide) (fun c_6 => ?_) (fun c_6 => ?_)
  ·
    refine KW.loc (lv' := [(0, .ref (a 0))]) [0] rfl ?_
    exact J49_1 U pa (by omega) (by first | exact Or.inl ⟨by omega, rfl, rfl⟩ | exact Or.inr ⟨by omega, by omega, fun j hj => by rw [hp1, if_pos (by omega)]⟩)
  ·
    refine kw_iconst (v := nI 0) C dX7_notes_9 (by decide) ?_
    refine kw_istore_n C [(1, .int (nI 0)), (0, .ref (a 0))] dX7_notes_10 rfl (by decide) rfl ?_
    have L11_3 : ∀ (nn : Nat) (i : Nat) (p1 : Nat → Int32) (hi : i ≤ 495) (hp1 : ∀ j, p1 j = if j < i then pa (99 + j) else pa j) (hms : 495 - i < nn), KW p l e ({ frames := 0, cells := 0, slots := 0, locals := 0 }) s m ([.ref (a 0)] : List Value).toArray below meth c 0 0 (MQ below (va_Qv (fun (u : (Nat → Int32) × Nat) => (U < 6 → u.2 = U + 1 ∧ (∀ j, j < 99 * U → u.1 j = pa j) ∧ (∀ j, j < 99 → u.1 (99 * U + j) = Sr j)) ∧ (U = 6 → u.2 = 6 ∧ (∀ j, j < 495 → u.1 j = pa (99 + j)) ∧ (∀ j, j < 99 → u.1 (495 + j) = Sr j))) (fun (u : (Nat → Int32) × Nat) t => PO G A (kModel y a (th, Sr, dr, u.1, nI u.2, im, ikp, tx, ty, sn, sm, at1, pl, tk, vl, fa, pf, odr, gv, mk, bo, bq)) t) A) ([.ref (a 0)] : List Value).toArray s 0 0 A) G A 2 (kModel y a (th, Sr, dr, p1, nI U, im, ikp, tx, ty, sn, sm, at1, pl, tk, vl, fa, pf, odr, gv, mk, bo, bq)) [(1, .int (nI i)), (0, .ref (a 0))] 11 [] := by
      intro nn
      induction nn with
      | zero => intro i p1 hi hp1 hms; exact absurd hms (Nat.not_lt_zero _)
      | succ nn ih_11 =>
        intro i p1 hi hp1 hms
        refine kw_iload_n C 0 dX7_notes_11 rfl ?_
        refine kw_sipush (v := nI 495) C dX7_notes_12 (by decide) ?_
        refine kw_icmp_ge_N (tgt := 39) C (by omega) (by omega) dX7_notes_15 (by decide) (fun c_15 => ?_) (fun c_15 => ?_)
        ·
          refine kw_aload_n C 1 dX7_notes_39 rfl ?_
          refine kw_dup C dX7_notes_40 rfl ?_
          refine kw_get (v := .int (nI U)) (T := TX7) C 0 4 rfl rfl (by decide) (fun w h => mT (fwX7 w h)) rfl (mT wd_619) rfl dX7_notes_41 ?_
          refine kw_iconst (v := nI 1) C dX7_notes_44 (by decide) ?_
          refine kw_isub C dX7_notes_45 (kw_top (pk_sub (by omega)) ?_)
          refine kw_put (T := TX7) (ty := .int) C 0 4 (kModel y a (th, Sr, dr, p1, nI (U - 1), im, ikp, tx, ty, sn, sm, at1, pl, tk, vl, fa, pf, odr, gv, mk, bo, bq)) rfl rfl (by decide) (fun w h => mT (fwX7 w h)) tyX7 tyX7_ok nmX7 rfl (mT wd_619) rfl (by decide +kernel) rfl rfl (Nat.le_of_ble_eq_true rfl) dX7_notes_46 rfl ?_
          refine KW.loc (lv' := [(0, .ref (a 0))]) [1] rfl ?_
          exact J49_1 (U - 1) p1 (by omega) (by first | exact Or.inl ⟨by omega, rfl, rfl⟩ | exact Or.inr ⟨by omega, by omega, fun j hj => by rw [hp1, if_pos (by omega)]⟩)
        ·
          refine kw_aload_n C 1 dX7_notes_18 rfl ?_
          refine kw_get (v := .ref (a 3)) (T := TX7) C 0 3 rfl rfl (by decide) (fun w h => mT (fwX7 w h)) rfl (mT wd_618) rfl dX7_notes_19 ?_
          refine kw_iload_n C 0 dX7_notes_22 rfl ?_
          refine kw_aload_n C 1 dX7_notes_23 rfl ?_
          refine kw_get (v := .ref (a 3)) (T := TX7) C 0 3 rfl rfl (by decide) (fun w h => mT (fwX7 w h)) rfl (mT wd_618) rfl dX7_notes_24 ?_
          refine kw_bipush (v := nI 99) C dX7_notes_27 (by decide) ?_
          refine kw_iload_n C 0 dX7_notes_29 rfl ?_
          refine kw_iadd C dX7_notes_30 (kw_top (nI_add _ _) ?_)
          refine kw_iald (f := p1) C 3 rfl (by omega) (by decide) dX7_notes_31 ?_
          refine kw_iast C 3 (kModel y a (th, Sr, dr, upd p1 i (p1 (99 + i)), nI U, im, ikp, tx, ty, sn, sm, at1, pl, tk, vl, fa, pf, odr, gv, mk, bo, bq)) rfl (by omega) (by decide) dX7_notes_32 rfl ?_
          refine kw_iinc (v := nI (i + 1)) C [(1, .int (nI (i + 1))), (0, .ref (a 0))] 0 dX7_notes_33 rfl (nI_1 _) (by decide) rfl ?_
          refine kw_goto (tgt := 11) C dX7_notes_36 (by decide) ?_
          refine KW.loc (lv' := [(1, .int (nI (i + 1))), (0, .ref (a 0))]) [0, 1] rfl ?_
          exact ih_11 (i + 1) (upd p1 i (p1 (99 + i))) (by first | assumption | omega | (simp; done)) (by exact nt_step hp1) (by omega)
    refine KW.loc (lv' := [(1, .int (nI 0)), (0, .ref (a 0))]) [0, 1] rfl ?_
    exact L11_3 (495 - 0 + 1) 0 pa (by first | assumption | omega | (simp; done)) (by intro j; rfl) (Nat.lt_succ_self _)
