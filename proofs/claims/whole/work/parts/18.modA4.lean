set_option maxHeartbeats 4000000 in
set_option maxRecDepth 100000 in
theorem c_X7_wrongCells (l : Launch) (G : va_G) (y : Nat → ClassId) (t : Nat) (a : Nat → Nat) (th : Int32) (Sr : Nat → Int32) (dr : Nat → Int32) (pa : Nat → Int32) (um : Int32) (im : Nat → Int32) (ikp : Nat → Int32) (tx : Nat → Int32) (ty : Int32) (sn : Nat → Int32) (sm : Int32) (at1 : Int32) (pl : Int32) (tk : Int32) (vl : Int32) (fa : Int32) (odr : Nat → Int32) (gv : Nat → Int32) (mk : Nat → Int32) (bo : Nat → Int32) (bq : Nat → Int32) (pv : Nat → Nat) (W : Nat) (H : Nat) (N : Nat) (pcl : Nat → Nat) (ik : Nat → Nat) (o : Nat → Nat) (bk : Nat → Nat) (kk : Nat → Nat) (hR : RowOk Sr W H N pcl ik o bk kk) (hpv : ∀ j, pv j < 8) (sz : Nat) : Met l yX7_wrongCells (Cond.code yX7_wrongCells cX7_wrongCells 4 (some .int) :: TG) ({ frames := 0, cells := 0, slots := 0, locals := 0 }) (va_Pc [.ref (a 0)] (PR G y t (kMod y a th Sr dr pa um im ikp tx ty sn sm at1 pl tk vl fa (aN pv) odr gv mk bo bq) sz)) (va_Qi (fun (r : Int32) (u : Unit) => r = (nI (wcY pv pcl W H))) (fun (u : Unit) t => PO G (va_A (kMod y a th Sr dr pa um im ikp tx ty sn sm at1 pl tk vl fa (aN pv) odr gv mk bo bq) sz) (kMod y a th Sr dr pa um im ikp tx ty sn sm at1 pl tk vl fa (aN pv) odr gv mk bo bq) t) (va_A (kMod y a th Sr dr pa um im ikp tx ty sn sm at1 pl tk vl fa (aN pv) odr gv mk bo bq) sz)) 0 0 (va_A (kMod y a th Sr dr pa um im ikp tx ty sn sm at1 pl tk vl fa (aN pv) odr gv mk bo bq) sz) := by
  refine kMet (cc := cX7_wrongCells) (maxL := 4) (ret := some .int) (Qc := fun A => va_Qi (fun (r : Int32) (u : Unit) => r = (nI (wcY pv pcl W H))) (fun (u : Unit) t => PO G A (kMod y a th Sr dr pa um im ikp tx ty sn sm at1 pl tk vl fa (aN pv) odr gv mk bo bq) t) A) (by decide) rfl (Nat.le_of_ble_eq_true rfl) (fun p e s m below meth c A hsz C hin => ?_)
  obtain ⟨hS0, hS1, hS2, hW, hH, hN, hpic, hink, hord, hblk, hdx⟩ := id hR
  refine KW.loc (lv' := [(0, .ref (a 0))]) [0] rfl ?_
  refine kw_iconst (v := nI 0) C dX7_wrongCells_0 (by decide) ?_
  refine kw_istore_n C [(1, .int (nI 0)), (0, .ref (a 0))] dX7_wrongCells_1 rfl (by decide) rfl ?_
  refine kw_iconst (v := nI 0) C dX7_wrongCells_2 (by decide) ?_
  refine kw_istore_n C [(2, .int (nI 0)), (1, .int (nI 0)), (0, .ref (a 0))] dX7_wrongCells_3 rfl (by decide) rfl ?_
  have L4_1 : ∀ (nn : Nat) (yy : Nat) (hyy : yy ≤ H) (hms : H - yy < nn), KW p l e ({ frames := 0, cells := 0, slots := 0, locals := 0 }) s m ([.ref (a 0)] : List Value).toArray below meth c 0 0 (MQ below (va_Qi (fun (r : Int32) (u : Unit) => r = (nI (wcY pv pcl W H))) (fun (u : Unit) t => PO G A (kMod y a th Sr dr pa um im ikp tx ty sn sm at1 pl tk vl fa (aN pv) odr gv mk bo bq) t) A) ([.ref (a 0)] : List Value).toArray s 0 0 A) G A 4 (kMod y a th Sr dr pa um im ikp tx ty sn sm at1 pl tk vl fa (aN pv) odr gv mk bo bq) [(2, .int (nI yy)), (1, .int (nI (wcY pv pcl W yy))), (0, .ref (a 0))] 4 [] := by
    intro nn
    induction nn with
    | zero => intro yy hyy hms; exact absurd hms (Nat.not_lt_zero _)
    | succ nn ih_4 =>
      intro yy hyy hms
      refine kw_iload_n C 0 dX7_wrongCells_4 rfl ?_
      refine kw_aload_n C 2 dX7_wrongCells_5 rfl ?_
      refine kw_get (v := .ref (a 1)) (T := TX7) C 0 1 rfl rfl (by decide) (fun w h => mT (fwX7 w h)) rfl (mT wd_616) rfl dX7_wrongCells_6 ?_
      refine kw_iconst (v := nI 1) C dX7_wrongCells_9 (by decide) ?_
      refine kw_iald (f := Sr) C 1 rfl (by omega) (by decide) dX7_wrongCells_10 ?_
      refine kw_top (show (Sr 1) = (nI H) from by exact hS1) ?_
      refine kw_icmp_ge_N (tgt := 73) C (by omega) (by omega) dX7_wrongCells_11 (by decide) (fun c_11 => ?_) (fun c_11 => ?_)
      ·
        refine kw_iload_n C 1 dX7_wrongCells_73 rfl ?_
        refine kR_i C () dX7_wrongCells_74 ?_ rfl
        rw [show yy = H from by omega]
      ·
        refine kw_iconst (v := nI 0) C dX7_wrongCells_14 (by decide) ?_
        refine kw_istore_n C [(3, .int (nI 0)), (2, .int (nI yy)), (1, .int (nI (wcY pv pcl W yy))), (0, .ref (a 0))] dX7_wrongCells_15 rfl (by decide) rfl ?_
        have L16_2 : ∀ (nn : Nat) (xx : Nat) (hxx : xx ≤ W) (hms : W - xx < nn), KW p l e ({ frames := 0, cells := 0, slots := 0, locals := 0 }) s m ([.ref (a 0)] : List Value).toArray below meth c 0 0 (MQ below (va_Qi (fun (r : Int32) (u : Unit) => r = (nI (wcY pv pcl W H))) (fun (u : Unit) t => PO G A (kMod y a th Sr dr pa um im ikp tx ty sn sm at1 pl tk vl fa (aN pv) odr gv mk bo bq) t) A) ([.ref (a 0)] : List Value).toArray s 0 0 A) G A 4 (kMod y a th Sr dr pa um im ikp tx ty sn sm at1 pl tk vl fa (aN pv) odr gv mk bo bq) [(3, .int (nI xx)), (2, .int (nI yy)), (1, .int (nI (wcY pv pcl W yy + wcX pv pcl yy xx))), (0, .ref (a 0))] 16 [] := by
          intro nn
          induction nn with
          | zero => intro xx hxx hms; exact absurd hms (Nat.not_lt_zero _)
          | succ nn ih_16 =>
            intro xx hxx hms
            refine kw_iload_n C 0 dX7_wrongCells_16 rfl ?_
            refine kw_aload_n C 3 dX7_wrongCells_17 rfl ?_
            refine kw_get (v := .ref (a 1)) (T := TX7) C 0 1 rfl rfl (by decide) (fun w h => mT (fwX7 w h)) rfl (mT wd_616) rfl dX7_wrongCells_18 ?_
            refine kw_iconst (v := nI 0) C dX7_wrongCells_21 (by decide) ?_
            refine kw_iald (f := Sr) C 1 rfl (by omega) (by decide) dX7_wrongCells_22 ?_
            refine kw_top (show (Sr 0) = (nI W) from by exact hS0) ?_
            refine kw_icmp_ge_N (tgt := 67) C (by omega) (by omega) dX7_wrongCells_23 (by decide) (fun c_23 => ?_) (fun c_23 => ?_)
            ·
              refine kw_iinc (v := nI (yy + 1)) C [(2, .int (nI (yy + 1))), (3, .int (nI xx)), (1, .int (nI (wcY pv pcl W yy + wcX pv pcl yy xx))), (0, .ref (a 0))] 1 dX7_wrongCells_67 rfl (nI_1 _) (by decide) rfl ?_
              refine kw_goto (tgt := 4) C dX7_wrongCells_70 (by decide) ?_
              refine KW.loc (lv' := [(2, .int (nI (yy + 1))), (1, .int (nI (wcY pv pcl W yy + wcX pv pcl yy xx))), (0, .ref (a 0))]) [0, 2, 3] rfl ?_
              refine KW.asl (congrArg (fun zz => ([(2, .int (nI (yy + 1))), (1, .int zz), (0, .ref (a 0))] : List (Nat × Value))) (show (nI (wcY pv pcl W yy + wcX pv pcl yy xx)) = (nI (wcY pv pcl W (yy + 1))) from by rw [show xx = W from by omega]; rfl)) ?_
              exact ih_4 (yy + 1) (by first | assumption | omega | (simp; done)) (by omega)
            ·
              refine kw_iload_n C 2 dX7_wrongCells_26 rfl ?_
              refine kw_aload_n C 3 dX7_wrongCells_27 rfl ?_
              refine kw_get (v := .ref (a 8)) (T := TX7) C 0 16 rfl rfl (by decide) (fun w h => mT (fwX7 w h)) rfl (mT wd_631) rfl dX7_wrongCells_28 ?_
              refine kw_bipush (v := nI 6) C dX7_wrongCells_31 (by decide) ?_
              refine kw_iload_n C 1 dX7_wrongCells_33 rfl ?_
              refine kw_imul C dX7_wrongCells_34 (kw_top (pk_mul _ _) ?_)
              refine kw_iload_n C 0 dX7_wrongCells_35 rfl ?_
              refine kw_iadd C dX7_wrongCells_36 (kw_top (nI_add _ _) ?_)
              refine kw_iald (f := aN pv) C 8 rfl (by omega) (by decide) dX7_wrongCells_37 ?_
              refine kw_top (show ((aN pv) ((6 * yy) + xx)) = (nI (pv ((6 * yy) + xx))) from by rfl) ?_
              refine kw_aload_n C 3 dX7_wrongCells_38 rfl ?_
              refine kw_get (v := .ref (a 1)) (T := TX7) C 0 1 rfl rfl (by decide) (fun w h => mT (fwX7 w h)) rfl (mT wd_616) rfl dX7_wrongCells_39 ?_
              refine kw_iconst (v := nI 3) C dX7_wrongCells_42 (by decide) ?_
              refine kw_bipush (v := nI 6) C dX7_wrongCells_43 (by decide) ?_
              refine kw_iload_n C 1 dX7_wrongCells_45 rfl ?_
              refine kw_imul C dX7_wrongCells_46 (kw_top (pk_mul _ _) ?_)
              refine kw_iadd C dX7_wrongCells_47 (kw_top (nI_add _ _) ?_)
              refine kw_iload_n C 0 dX7_wrongCells_48 rfl ?_
              refine kw_iadd C dX7_wrongCells_49 (kw_top (nI_add _ _) ?_)
              refine kw_iald (f := Sr) C 1 rfl (by omega) (by decide) dX7_wrongCells_50 ?_
              refine kw_top (show (Sr ((3 + (6 * yy)) + xx)) = (nI (pcl (6 * yy + xx))) from by exact (hpic (yy) (xx) (by first | assumption | omega) (by first | assumption | omega)).1) ?_
              have hl_50 := (hpic (yy) (xx) (by first | assumption | omega) (by first | assumption | omega)).2
              have J59_3 : ∀ (_ : Unit), KW p l e ({ frames := 0, cells := 0, slots := 0, locals := 0 }) s m ([.ref (a 0)] : List Value).toArray below meth c 0 0 (MQ below (va_Qi (fun (r : Int32) (u : Unit) => r = (nI (wcY pv pcl W H))) (fun (u : Unit) t => PO G A (kMod y a th Sr dr pa um im ikp tx ty sn sm at1 pl tk vl fa (aN pv) odr gv mk bo bq) t) A) ([.ref (a 0)] : List Value).toArray s 0 0 A) G A 4 (kMod y a th Sr dr pa um im ikp tx ty sn sm at1 pl tk vl fa (aN pv) odr gv mk bo bq) [(3, .int (nI xx)), (2, .int (nI yy)), (1, .int (nI (wcY pv pcl W yy + wcX pv pcl yy xx))), (0, .ref (a 0))] 59 [.int (nI (if pv (6 * yy + xx) = pcl (6 * yy + xx) then 0 else 1)), .int (nI (wcY pv pcl W yy + wcX pv pcl yy xx))] := by
                intro _
                refine kw_iadd C dX7_wrongCells_59 (kw_top (nI_add _ _) ?_)
                refine kw_istore_n C [(1, .int (nI ((wcY pv pcl W yy + wcX pv pcl yy xx) + (if pv (6 * yy + xx) = pcl (6 * yy + xx) then 0 else 1)))), (3, .int (nI xx)), (2, .int (nI yy)), (0, .ref (a 0))] dX7_wrongCells_60 rfl (by decide) rfl ?_
                refine kw_iinc (v := nI (xx + 1)) C [(3, .int (nI (xx + 1))), (1, .int (nI ((wcY pv pcl W yy + wcX pv pcl yy xx) + (if pv (6 * yy + xx) = pcl (6 * yy + xx) then 0 else 1)))), (2, .int (nI yy)), (0, .ref (a 0))] 1 dX7_wrongCells_61 rfl (nI_1 _) (by decide) rfl ?_
                refine kw_goto (tgt := 16) C dX7_wrongCells_64 (by decide) ?_
                refine KW.loc (lv' := [(3, .int (nI (xx + 1))), (2, .int (nI yy)), (1, .int (nI ((wcY pv pcl W yy + wcX pv pcl yy xx) + (if pv (6 * yy + xx) = pcl (6 * yy + xx) then 0 else 1)))), (0, .ref (a 0))]) [0, 2, 1, 3] rfl ?_
                refine KW.asl (congrArg (fun zz => ([(3, .int (nI (xx + 1))), (2, .int (nI yy)), (1, .int zz), (0, .ref (a 0))] : List (Nat × Value))) (show (nI ((wcY pv pcl W yy + wcX pv pcl yy xx) + (if pv (6 * yy + xx) = pcl (6 * yy + xx) then 0 else 1))) = (nI (wcY pv pcl W yy + wcX pv pcl yy (xx + 1))) from by simp only [wcX]; first | rfl | (rw [Nat.add_assoc]; done))) ?_
                exact ih_16 (xx + 1) (by first | assumption | omega | (simp; done)) (by omega)
              refine kw_icmp_ne_N (tgt := 58) C (by first | omega | exact Nat.lt_trans (hpv _) (by decide)) (by first | omega | exact Nat.lt_trans (hpv _) (by decide)) dX7_wrongCells_51 (by decide) (fun c_51 => ?_) (fun c_51 => ?_)
              ·
                refine kw_iconst (v := nI 1) C dX7_wrongCells_58 (by decide) ?_
                refine KW.loc (lv' := [(3, .int (nI xx)), (2, .int (nI yy)), (1, .int (nI (wcY pv pcl W yy + wcX pv pcl yy xx))), (0, .ref (a 0))]) [0, 1, 2, 3] rfl ?_
                refine KW.ass (congrArg (fun zz => ([.int zz, .int (nI (wcY pv pcl W yy + wcX pv pcl yy xx))] : List Value)) (show (nI 1) = (nI (if pv (6 * yy + xx) = pcl (6 * yy + xx) then 0 else 1)) from by first | rw [if_pos c_51] | rw [if_neg c_51])) ?_
                exact J59_3 ()
              ·
                refine kw_iconst (v := nI 0) C dX7_wrongCells_54 (by decide) ?_
                refine kw_goto (tgt := 59) C dX7_wrongCells_55 (by decide) ?_
                refine KW.loc (lv' := [(3, .int (nI xx)), (2, .int (nI yy)), (1, .int (nI (wcY pv pcl W yy + wcX pv pcl yy xx))), (0, .ref (a 0))]) [0, 1, 2, 3] rfl ?_
                refine KW.ass (congrArg (fun zz => ([.int zz, .int (nI (wcY pv pcl W yy + wcX pv pcl yy xx))] : List Value)) (show (nI 0) = (nI (if pv (6 * yy + xx) = pcl (6 * yy + xx) then 0 else 1)) from by first | rw [if_pos c_51] | rw [if_neg c_51])) ?_
                exact J59_3 ()
        refine KW.loc (lv' := [(3, .int (nI 0)), (2, .int (nI yy)), (1, .int (nI (wcY pv pcl W yy))), (0, .ref (a 0))]) [0, 1, 2, 3] rfl ?_
        refine KW.asl (congrArg (fun zz => ([(3, .int (nI 0)), (2, .int (nI yy)), (1, .int zz), (0, .ref (a 0))] : List (Nat × Value))) (show (nI (wcY pv pcl W yy)) = (nI (wcY pv pcl W yy + wcX pv pcl yy 0)) from by rfl)) ?_
        exact L16_2 (W - 0 + 1) 0 (by first | assumption | omega | (simp; done)) (Nat.lt_succ_self _)
  refine KW.loc (lv' := [(2, .int (nI 0)), (1, .int (nI 0)), (0, .ref (a 0))]) [0, 1, 2] rfl ?_
  refine KW.asl (congrArg (fun zz => ([(2, .int (nI 0)), (1, .int zz), (0, .ref (a 0))] : List (Nat × Value))) (show (nI 0) = (nI (wcY pv pcl W 0)) from by rfl)) ?_
  exact L4_1 (H - 0 + 1) 0 (by first | assumption | omega | (simp; done)) (Nat.lt_succ_self _)

set_option maxHeartbeats 4000000 in
set_option maxRecDepth 100000 in
theorem c_X7_wanted (l : Launch) (G : va_G) (y : Nat → ClassId) (t : Nat) (a : Nat → Nat) (th : Int32) (Sr : Nat → Int32) (dr : Nat → Int32) (pa : Nat → Int32) (um : Int32) (im : Nat → Int32) (ikp : Nat → Int32) (tx : Nat → Int32) (ty : Int32) (sn : Nat → Int32) (sm : Int32) (at1 : Int32) (pl : Int32) (tk : Int32) (vl : Int32) (fa : Int32) (pf : Nat → Int32) (odr : Nat → Int32) (gv : Nat → Int32) (mk : Nat → Int32) (bo : Nat → Int32) (bq : Nat → Int32) (W : Nat) (H : Nat) (N : Nat) (pcl : Nat → Nat) (ik : Nat → Nat) (o : Nat → Nat) (bk : Nat → Nat) (kk : Nat → Nat) (hR : RowOk Sr W H N pcl ik o bk kk) (sz : Nat) : Met l yX7_wanted (Cond.code yX7_wanted cX7_wanted 4 (some .int) :: TG) ({ frames := 0, cells := 0, slots := 0, locals := 0 }) (va_Pc [.ref (a 0)] (PR G y t (kMod y a th Sr dr pa um im ikp tx ty sn sm at1 pl tk vl fa pf odr gv mk bo bq) sz)) (va_Qi (fun (r : Int32) (u : Unit) => r = (nI (wtY pcl W H))) (fun (u : Unit) t => PO G (va_A (kMod y a th Sr dr pa um im ikp tx ty sn sm at1 pl tk vl fa pf odr gv mk bo bq) sz) (kMod y a th Sr dr pa um im ikp tx ty sn sm at1 pl tk vl fa pf odr gv mk bo bq) t) (va_A (kMod y a th Sr dr pa um im ikp tx ty sn sm at1 pl tk vl fa pf odr gv mk bo bq) sz)) 0 0 (va_A (kMod y a th Sr dr pa um im ikp tx ty sn sm at1 pl tk vl fa pf odr gv mk bo bq) sz) := by
  refine kMet (cc := cX7_wanted) (maxL := 4) (ret := some .int) (Qc := fun A => va_Qi (fun (r : Int32) (u : Unit) => r = (nI (wtY pcl W H))) (fun (u : Unit) t => PO G A (kMod y a th Sr dr pa um im ikp tx ty sn sm at1 pl tk vl fa pf odr gv mk bo bq) t) A) (by decide) rfl (Nat.le_of_ble_eq_true rfl) (fun p e s m below meth c A hsz C hin => ?_)
  obtain ⟨hS0, hS1, hS2, hW, hH, hN, hpic, hink, hord, hblk, hdx⟩ := id hR
  refine KW.loc (lv' := [(0, .ref (a 0))]) [0] rfl ?_
  refine kw_iconst (v := nI 0) C dX7_wanted_0 (by decide) ?_
  refine kw_istore_n C [(1, .int (nI 0)), (0, .ref (a 0))] dX7_wanted_1 rfl (by decide) rfl ?_
  refine kw_iconst (v := nI 0) C dX7_wanted_2 (by decide) ?_
  refine kw_istore_n C [(2, .int (nI 0)), (1, .int (nI 0)), (0, .ref (a 0))] dX7_wanted_3 rfl (by decide) rfl ?_
  have L4_1 : ∀ (nn : Nat) (yy : Nat) (hyy : yy ≤ H) (hms : H - yy < nn), KW p l e ({ frames := 0, cells := 0, slots := 0, locals := 0 }) s m ([.ref (a 0)] : List Value).toArray below meth c 0 0 (MQ below (va_Qi (fun (r : Int32) (u : Unit) => r = (nI (wtY pcl W H))) (fun (u : Unit) t => PO G A (kMod y a th Sr dr pa um im ikp tx ty sn sm at1 pl tk vl fa pf odr gv mk bo bq) t) A) ([.ref (a 0)] : List Value).toArray s 0 0 A) G A 4 (kMod y a th Sr dr pa um im ikp tx ty sn sm at1 pl tk vl fa pf odr gv mk bo bq) [(2, .int (nI yy)), (1, .int (nI (wtY pcl W yy))), (0, .ref (a 0))] 4 [] := by
    intro nn
    induction nn with
    | zero => intro yy hyy hms; exact absurd hms (Nat.not_lt_zero _)
    | succ nn ih_4 =>
      intro yy hyy hms
      refine kw_iload_n C 0 dX7_wanted_4 rfl ?_
      refine kw_aload_n C 2 dX7_wanted_5 rfl ?_
      refine kw_get (v := .ref (a 1)) (T := TX7) C 0 1 rfl rfl (by decide) (fun w h => mT (fwX7 w h)) rfl (mT wd_616) rfl dX7_wanted_6 ?_
      refine kw_iconst (v := nI 1) C dX7_wanted_9 (by decide) ?_
      refine kw_iald (f := Sr) C 1 rfl (by omega) (by decide) dX7_wanted_10 ?_
      refine kw_top (show (Sr 1) = (nI H) from by exact hS1) ?_
      refine kw_icmp_ge_N (tgt := 56) C (by omega) (by omega) dX7_wanted_11 (by decide) (fun c_11 => ?_) (fun c_11 => ?_)
      ·
        refine kw_iload_n C 1 dX7_wanted_56 rfl ?_
        refine kR_i C () dX7_wanted_57 ?_ rfl
        rw [show yy = H from by omega]
      ·
        refine kw_iconst (v := nI 0) C dX7_wanted_14 (by decide) ?_
        refine kw_istore_n C [(3, .int (nI 0)), (2, .int (nI yy)), (1, .int (nI (wtY pcl W yy))), (0, .ref (a 0))] dX7_wanted_15 rfl (by decide) rfl ?_
        have L16_2 : ∀ (nn : Nat) (xx : Nat) (hxx : xx ≤ W) (hms : W - xx < nn), KW p l e ({ frames := 0, cells := 0, slots := 0, locals := 0 }) s m ([.ref (a 0)] : List Value).toArray below meth c 0 0 (MQ below (va_Qi (fun (r : Int32) (u : Unit) => r = (nI (wtY pcl W H))) (fun (u : Unit) t => PO G A (kMod y a th Sr dr pa um im ikp tx ty sn sm at1 pl tk vl fa pf odr gv mk bo bq) t) A) ([.ref (a 0)] : List Value).toArray s 0 0 A) G A 4 (kMod y a th Sr dr pa um im ikp tx ty sn sm at1 pl tk vl fa pf odr gv mk bo bq) [(3, .int (nI xx)), (2, .int (nI yy)), (1, .int (nI (wtX pcl yy xx (wtY pcl W yy)))), (0, .ref (a 0))] 16 [] := by
          intro nn
          induction nn with
          | zero => intro xx hxx hms; exact absurd hms (Nat.not_lt_zero _)
          | succ nn ih_16 =>
            intro xx hxx hms
            refine kw_iload_n C 0 dX7_wanted_16 rfl ?_
            refine kw_aload_n C 3 dX7_wanted_17 rfl ?_
            refine kw_get (v := .ref (a 1)) (T := TX7) C 0 1 rfl rfl (by decide) (fun w h => mT (fwX7 w h)) rfl (mT wd_616) rfl dX7_wanted_18 ?_
            refine kw_iconst (v := nI 0) C dX7_wanted_21 (by decide) ?_
            refine kw_iald (f := Sr) C 1 rfl (by omega) (by decide) dX7_wanted_22 ?_
            refine kw_top (show (Sr 0) = (nI W) from by exact hS0) ?_
            refine kw_icmp_ge_N (tgt := 50) C (by omega) (by omega) dX7_wanted_23 (by decide) (fun c_23 => ?_) (fun c_23 => ?_)
            ·
              refine kw_iinc (v := nI (yy + 1)) C [(2, .int (nI (yy + 1))), (3, .int (nI xx)), (1, .int (nI (wtX pcl yy xx (wtY pcl W yy)))), (0, .ref (a 0))] 1 dX7_wanted_50 rfl (nI_1 _) (by decide) rfl ?_
              refine kw_goto (tgt := 4) C dX7_wanted_53 (by decide) ?_
              refine KW.loc (lv' := [(2, .int (nI (yy + 1))), (1, .int (nI (wtX pcl yy xx (wtY pcl W yy)))), (0, .ref (a 0))]) [0, 2, 3] rfl ?_
              refine KW.asl (congrArg (fun zz => ([(2, .int (nI (yy + 1))), (1, .int zz), (0, .ref (a 0))] : List (Nat × Value))) (show (nI (wtX pcl yy xx (wtY pcl W yy))) = (nI (wtY pcl W (yy + 1))) from by rw [show xx = W from by omega]; rfl)) ?_
              exact ih_4 (yy + 1) (by first | assumption | omega | (simp; done)) (by omega)
            ·
              refine kw_iload_n C 2 dX7_wanted_26 rfl ?_
              refine kw_iconst (v := nI 1) C dX7_wanted_27 (by decide) ?_
              refine kw_aload_n C 3 dX7_wanted_28 rfl ?_
              refine kw_get (v := .ref (a 1)) (T := TX7) C 0 1 rfl rfl (by decide) (fun w h => mT (fwX7 w h)) rfl (mT wd_616) rfl dX7_wanted_29 ?_
              refine kw_iconst (v := nI 3) C dX7_wanted_32 (by decide) ?_
              refine kw_bipush (v := nI 6) C dX7_wanted_33 (by decide) ?_
              refine kw_iload_n C 1 dX7_wanted_35 rfl ?_
              refine kw_imul C dX7_wanted_36 (kw_top (pk_mul _ _) ?_)
              refine kw_iadd C dX7_wanted_37 (kw_top (nI_add _ _) ?_)
              refine kw_iload_n C 0 dX7_wanted_38 rfl ?_
              refine kw_iadd C dX7_wanted_39 (kw_top (nI_add _ _) ?_)
              refine kw_iald (f := Sr) C 1 rfl (by omega) (by decide) dX7_wanted_40 ?_
              refine kw_top (show (Sr ((3 + (6 * yy)) + xx)) = (nI (pcl (6 * yy + xx))) from by exact (hpic (yy) (xx) (by first | assumption | omega) (by first | assumption | omega)).1) ?_
              have hl_40 := (hpic (yy) (xx) (by first | assumption | omega) (by first | assumption | omega)).2
              refine kw_ishl C dX7_wanted_41 (kw_top (n_shl1 (by omega)) ?_)
              refine kw_ior C dX7_wanted_42 (kw_top (n_or _ _) ?_)
              refine kw_istore_n C [(1, .int (nI ((wtX pcl yy xx (wtY pcl W yy)) ||| (2 ^ (pcl (6 * yy + xx)))))), (3, .int (nI xx)), (2, .int (nI yy)), (0, .ref (a 0))] dX7_wanted_43 rfl (by decide) rfl ?_
              refine kw_iinc (v := nI (xx + 1)) C [(3, .int (nI (xx + 1))), (1, .int (nI ((wtX pcl yy xx (wtY pcl W yy)) ||| (2 ^ (pcl (6 * yy + xx)))))), (2, .int (nI yy)), (0, .ref (a 0))] 1 dX7_wanted_44 rfl (nI_1 _) (by decide) rfl ?_
              refine kw_goto (tgt := 16) C dX7_wanted_47 (by decide) ?_
              refine KW.loc (lv' := [(3, .int (nI (xx + 1))), (2, .int (nI yy)), (1, .int (nI ((wtX pcl yy xx (wtY pcl W yy)) ||| (2 ^ (pcl (6 * yy + xx)))))), (0, .ref (a 0))]) [0, 2, 1, 3] rfl ?_
              refine KW.asl (congrArg (fun zz => ([(3, .int (nI (xx + 1))), (2, .int (nI yy)), (1, .int zz), (0, .ref (a 0))] : List (Nat × Value))) (show (nI ((wtX pcl yy xx (wtY pcl W yy)) ||| (2 ^ (pcl (6 * yy + xx))))) = (nI (wtX pcl yy (xx + 1) (wtY pcl W yy))) from by rfl)) ?_
              exact ih_16 (xx + 1) (by first | assumption | omega | (simp; done)) (by omega)
        refine KW.loc (lv' := [(3, .int (nI 0)), (2, .int (nI yy)), (1, .int (nI (wtY pcl W yy))), (0, .ref (a 0))]) [0, 1, 2, 3] rfl ?_
        refine KW.asl (congrArg (fun zz => ([(3, .int (nI 0)), (2, .int (nI yy)), (1, .int zz), (0, .ref (a 0))] : List (Nat × Value))) (show (nI (wtY pcl W yy)) = (nI (wtX pcl yy 0 (wtY pcl W yy))) from by rfl)) ?_
        exact L16_2 (W - 0 + 1) 0 (by first | assumption | omega | (simp; done)) (Nat.lt_succ_self _)
  refine KW.loc (lv' := [(2, .int (nI 0)), (1, .int (nI 0)), (0, .ref (a 0))]) [0, 1, 2] rfl ?_
  refine KW.asl (congrArg (fun zz => ([(2, .int (nI 0)), (1, .int zz), (0, .ref (a 0))] : List (Nat × Value))) (show (nI 0) = (nI (wtY pcl W 0)) from by rfl)) ?_
  exact L4_1 (H - 0 + 1) 0 (by first | assumption | omega | (simp; done)) (Nat.lt_succ_self _)
