set_option maxHeartbeats 4000000 in
set_option maxRecDepth 100000 in
theorem c_X7_in (l : Launch) (G : va_G) (y : Nat → ClassId) (t : Nat) (v : Int32) (lo : Int32) (hi : Int32) (sz : Nat) : Met l yX7_in (Cond.code yX7_in cX7_in 3 (some .boolean) :: TG) ({ frames := 0, cells := 0, slots := 0, locals := 0 }) (va_Pc [.int v, .int lo, .int hi] (PR G y t ([]) sz)) (va_Qi (fun (r : Int32) (u : Unit) => r = (bI (decide (¬ v < lo ∧ ¬ hi < v)))) (fun (u : Unit) t => PO G (va_A ([]) sz) ([]) t) (va_A ([]) sz)) 0 0 (va_A ([]) sz) := by
  refine kMet (cc := cX7_in) (maxL := 3) (ret := some .boolean) (Qc := fun A => va_Qi (fun (r : Int32) (u : Unit) => r = (bI (decide (¬ v < lo ∧ ¬ hi < v)))) (fun (u : Unit) t => PO G A ([]) t) A) (by decide) rfl (Nat.le_of_ble_eq_true rfl) (fun p e s m below meth c A hsz C hin => ?_)
  refine KW.loc (lv' := [(0, .int v), (1, .int lo), (2, .int hi)]) [0, 1, 2] rfl ?_
  refine kw_iload_n C 0 dX7_in_0 rfl ?_
  refine kw_iload_n C 1 dX7_in_1 rfl ?_
  refine kw_icmp_lt (tgt := 14) C dX7_in_2 (by decide) (fun c_2 => ?_) (fun c_2 => ?_)
  ·
    refine kw_iconst (v := nI 0) C dX7_in_14 (by decide) ?_
    refine kR_z C () dX7_in_15 (by first | decide | exact bI_z _ | rfl) ?_ rfl
    first | exact (bI_t (And.intro c_2 c_7)).symm | exact (bI_f (fun h : _ ∧ _ => absurd c_2 h.1)).symm | exact (bI_f (fun h : _ ∧ _ => absurd c_7 h.2)).symm
  ·
    refine kw_iload_n C 0 dX7_in_5 rfl ?_
    refine kw_iload_n C 2 dX7_in_6 rfl ?_
    refine kw_icmp_gt (tgt := 14) C dX7_in_7 (by decide) (fun c_7 => ?_) (fun c_7 => ?_)
    ·
      refine kw_iconst (v := nI 0) C dX7_in_14 (by decide) ?_
      refine kR_z C () dX7_in_15 (by first | decide | exact bI_z _ | rfl) ?_ rfl
      first | exact (bI_t (And.intro c_2 c_7)).symm | exact (bI_f (fun h : _ ∧ _ => absurd c_2 h.1)).symm | exact (bI_f (fun h : _ ∧ _ => absurd c_7 h.2)).symm
    ·
      refine kw_iconst (v := nI 1) C dX7_in_10 (by decide) ?_
      refine kw_goto (tgt := 15) C dX7_in_11 (by decide) ?_
      refine kR_z C () dX7_in_15 (by first | decide | exact bI_z _ | rfl) ?_ rfl
      first | exact (bI_t (And.intro c_2 c_7)).symm | exact (bI_f (fun h : _ ∧ _ => absurd c_2 h.1)).symm | exact (bI_f (fun h : _ ∧ _ => absurd c_7 h.2)).symm

set_option maxHeartbeats 4000000 in
set_option maxRecDepth 100000 in
theorem c_X7_ones (l : Launch) (G : va_G) (y : Nat → ClassId) (t : Nat) (x : Int32) (sz : Nat) : Met l yX7_ones (Cond.code yX7_ones cX7_ones 3 (some .int) :: TG) ({ frames := 0, cells := 0, slots := 0, locals := 0 }) (va_Pc [.int x] (PR G y t ([]) sz)) (va_Qi (fun (r : Int32) (u : Unit) => r = (onI x 8)) (fun (u : Unit) t => PO G (va_A ([]) sz) ([]) t) (va_A ([]) sz)) 0 0 (va_A ([]) sz) := by
  refine kMet (cc := cX7_ones) (maxL := 3) (ret := some .int) (Qc := fun A => va_Qi (fun (r : Int32) (u : Unit) => r = (onI x 8)) (fun (u : Unit) t => PO G A ([]) t) A) (by decide) rfl (Nat.le_of_ble_eq_true rfl) (fun p e s m below meth c A hsz C hin => ?_)
  refine KW.loc (lv' := [(0, .int x)]) [0] rfl ?_
  refine kw_iconst (v := nI 0) C dX7_ones_0 (by decide) ?_
  refine kw_istore_n C [(1, .int (nI 0)), (0, .int x)] dX7_ones_1 rfl (by decide) rfl ?_
  refine kw_iconst (v := nI 0) C dX7_ones_2 (by decide) ?_
  refine kw_istore_n C [(2, .int (nI 0)), (1, .int (nI 0)), (0, .int x)] dX7_ones_3 rfl (by decide) rfl ?_
  have L4_1 : ∀ (nn : Nat) (i : Nat) (hi : i ≤ 8) (hms : 8 - i < nn), KW p l e ({ frames := 0, cells := 0, slots := 0, locals := 0 }) s m ([.int x] : List Value).toArray below meth c 0 0 (MQ below (va_Qi (fun (r : Int32) (u : Unit) => r = (onI x 8)) (fun (u : Unit) t => PO G A ([]) t) A) ([.int x] : List Value).toArray s 0 0 A) G A 3 ([]) [(2, .int (nI i)), (1, .int (onI x i)), (0, .int x)] 4 [] := by
    intro nn
    induction nn with
    | zero => intro i hi hms; exact absurd hms (Nat.not_lt_zero _)
    | succ nn ih_4 =>
      intro i hi hms
      refine kw_iload_n C 0 dX7_ones_4 rfl ?_
      refine kw_bipush (v := nI 8) C dX7_ones_5 (by decide) ?_
      refine kw_icmp_ge_N (tgt := 24) C (by omega) (by omega) dX7_ones_7 (by decide) (fun c_7 => ?_) (fun c_7 => ?_)
      ·
        refine kw_iload_n C 1 dX7_ones_24 rfl ?_
        refine kR_i C () dX7_ones_25 ?_ rfl
        rw [show i = 8 from by omega]
      ·
        refine kw_iload_n C 1 dX7_ones_10 rfl ?_
        refine kw_iload_n C 2 dX7_ones_11 rfl ?_
        refine kw_iload_n C 0 dX7_ones_12 rfl ?_
        refine kw_ishr C dX7_ones_13 ?_
        refine kw_iconst (v := nI 1) C dX7_ones_14 (by decide) ?_
        refine kw_iand C dX7_ones_15 ?_
        refine kw_iadd C dX7_ones_16 ?_
        refine kw_istore_n C [(1, .int ((onI x i) + ((x >>> ((nI i) &&& 31)) &&& (nI 1)))), (2, .int (nI i)), (0, .int x)] dX7_ones_17 rfl (by decide) rfl ?_
        refine kw_iinc (v := nI (i + 1)) C [(2, .int (nI (i + 1))), (1, .int ((onI x i) + ((x >>> ((nI i) &&& 31)) &&& (nI 1)))), (0, .int x)] 1 dX7_ones_18 rfl (nI_1 _) (by decide) rfl ?_
        refine kw_goto (tgt := 4) C dX7_ones_21 (by decide) ?_
        refine KW.loc (lv' := [(2, .int (nI (i + 1))), (1, .int ((onI x i) + ((x >>> ((nI i) &&& 31)) &&& (nI 1)))), (0, .int x)]) [0, 1, 2] rfl ?_
        refine KW.asl (congrArg (fun zz => ([(2, .int (nI (i + 1))), (1, .int zz), (0, .int x)] : List (Nat × Value))) (show ((onI x i) + ((x >>> ((nI i) &&& 31)) &&& (nI 1))) = (onI x (i + 1)) from by rfl)) ?_
        exact ih_4 (i + 1) (by first | assumption | omega | (simp; done)) (by omega)
  refine KW.loc (lv' := [(2, .int (nI 0)), (1, .int (nI 0)), (0, .int x)]) [0, 1, 2] rfl ?_
  refine KW.asl (congrArg (fun zz => ([(2, .int (nI 0)), (1, .int zz), (0, .int x)] : List (Nat × Value))) (show (nI 0) = (onI x 0) from by rfl)) ?_
  exact L4_1 (8 - 0 + 1) 0 (by first | assumption | omega | (simp; done)) (Nat.lt_succ_self _)

set_option maxHeartbeats 4000000 in
set_option maxRecDepth 100000 in
theorem c_X7_printed (l : Launch) (G : va_G) (y : Nat → ClassId) (t : Nat) (b0 : Nat) (v0 : Nat) (hb0 : b0 < 16) (sz : Nat) : Met l yX7_printed (Cond.code yX7_printed cX7_printed 2 (some .int) :: TG) ({ frames := 0, cells := 0, slots := 0, locals := 0 }) (va_Pc [.int (nI b0), .int (nI v0)] (PR G y t ([]) sz)) (va_Qi (fun (r : Int32) (u : Unit) => r = (nI (prN b0 v0))) (fun (u : Unit) t => PO G (va_A ([]) sz) ([]) t) (va_A ([]) sz)) 0 0 (va_A ([]) sz) := by
  refine kMet (cc := cX7_printed) (maxL := 2) (ret := some .int) (Qc := fun A => va_Qi (fun (r : Int32) (u : Unit) => r = (nI (prN b0 v0))) (fun (u : Unit) t => PO G A ([]) t) A) (by decide) rfl (Nat.le_of_ble_eq_true rfl) (fun p e s m below meth c A hsz C hin => ?_)
  refine KW.loc (lv' := [(0, .int (nI b0)), (1, .int (nI v0))]) [0, 1] rfl ?_
  refine kw_iload_n C 0 dX7_printed_0 rfl ?_
  refine kw_bipush (v := nI 8) C dX7_printed_1 (by decide) ?_
  refine kw_icmp_lt_N (tgt := 13) C (by omega) (by omega) dX7_printed_3 (by decide) (fun c_3 => ?_) (fun c_3 => ?_)
  ·
    refine kw_iload_n C 1 dX7_printed_13 rfl ?_
    refine kw_iload_n C 0 dX7_printed_14 rfl ?_
    refine kw_ior C dX7_printed_15 (kw_top (n_or _ _) ?_)
    refine kR_i C () dX7_printed_16 ?_ rfl
    unfold prN; first | rw [if_pos (by omega)] | rw [if_neg (by omega)]
  ·
    refine kw_iload_n C 0 dX7_printed_6 rfl ?_
    refine kw_bipush (v := nI 8) C dX7_printed_7 (by decide) ?_
    refine kw_isub C dX7_printed_9 (kw_top (pk_sub (by omega)) ?_)
    refine kw_goto (tgt := 16) C dX7_printed_10 (by decide) ?_
    refine kR_i C () dX7_printed_16 ?_ rfl
    unfold prN; first | rw [if_pos (by omega)] | rw [if_neg (by omega)]

set_option maxHeartbeats 4000000 in
set_option maxRecDepth 100000 in
theorem c_X7_isInk (l : Launch) (G : va_G) (y : Nat → ClassId) (t : Nat) (a : Nat → Nat) (th : Int32) (Sr : Nat → Int32) (dr : Nat → Int32) (pa : Nat → Int32) (um : Int32) (im : Nat → Int32) (ikp : Nat → Int32) (tx : Nat → Int32) (ty : Int32) (sn : Nat → Int32) (sm : Int32) (at1 : Int32) (pl : Int32) (tk : Int32) (vl : Int32) (fa : Int32) (pf : Nat → Int32) (odr : Nat → Int32) (gv : Nat → Int32) (mk : Nat → Int32) (bo : Nat → Int32) (bq : Nat → Int32) (i : Int32) (W : Nat) (H : Nat) (N : Nat) (pcl : Nat → Nat) (ik : Nat → Nat) (o : Nat → Nat) (bk : Nat → Nat) (kk : Nat → Nat) (hR : RowOk Sr W H N pcl ik o bk kk) (sz : Nat) : Met l yX7_isInk (Cond.code yX7_isInk cX7_isInk 2 (some .boolean) :: TG) ({ frames := 1, cells := 0, slots := 0, locals := 22 }) (va_Pc [.ref (a 0), .int i] (PR G y t (kMod y a th Sr dr pa um im ikp tx ty sn sm at1 pl tk vl fa pf odr gv mk bo bq) sz)) (va_Qi (fun (r : Int32) (u : Unit) => r = (bI (decide (inR i N)))) (fun (u : Unit) t => PO G (va_A (kMod y a th Sr dr pa um im ikp tx ty sn sm at1 pl tk vl fa pf odr gv mk bo bq) sz) (kMod y a th Sr dr pa um im ikp tx ty sn sm at1 pl tk vl fa pf odr gv mk bo bq) t) (va_A (kMod y a th Sr dr pa um im ikp tx ty sn sm at1 pl tk vl fa pf odr gv mk bo bq) sz)) 0 0 (va_A (kMod y a th Sr dr pa um im ikp tx ty sn sm at1 pl tk vl fa pf odr gv mk bo bq) sz) := by
  refine kMet (cc := cX7_isInk) (maxL := 2) (ret := some .boolean) (Qc := fun A => va_Qi (fun (r : Int32) (u : Unit) => r = (bI (decide (inR i N)))) (fun (u : Unit) t => PO G A (kMod y a th Sr dr pa um im ikp tx ty sn sm at1 pl tk vl fa pf odr gv mk bo bq) t) A) (by decide) rfl (Nat.le_of_ble_eq_true rfl) (fun p e s m below meth c A hsz C hin => ?_)
  obtain ⟨hS0, hS1, hS2, hW, hH, hN, hpic, hink, hord, hblk, hdx⟩ := id hR
  refine KW.loc (lv' := [(0, .ref (a 0)), (1, .int i)]) [0, 1] rfl ?_
  refine kw_iload_n C 1 dX7_isInk_0 rfl ?_
  refine kw_iconst (v := nI 0) C dX7_isInk_1 (by decide) ?_
  refine kw_aload_n C 0 dX7_isInk_2 rfl ?_
  refine kw_get (v := .ref (a 1)) (T := TX7) C 0 1 rfl rfl (by decide) (fun w h => mT (fwX7 w h)) rfl (mT wd_616) rfl dX7_isInk_3 ?_
  refine kw_iconst (v := nI 2) C dX7_isInk_6 (by decide) ?_
  refine kw_iald (f := Sr) C 1 rfl (by omega) (by decide) dX7_isInk_7 ?_
  refine kw_top (show (Sr 2) = (nI N) from by exact hS2) ?_
  refine kw_iconst (v := nI 1) C dX7_isInk_8 (by decide) ?_
  refine kw_isub C dX7_isInk_9 ?_
  refine kS_i (As := [.int i, .int (nI 0), .int ((nI N) - (nI 1))]) (rest := []) (ws' := fun (u : Unit) => kMod y a th Sr dr pa um im ikp tx ty sn sm at1 pl tk vl fa pf odr gv mk bo bq) C (c_X7_in l G y t i (nI 0) ((nI N) - (nI 1))) (va_cwS 3 C.2.2.2.2.1 (goodS cT wd_688 wd_686 wd_687 wd_48) rfl rfl rfl (by decide +kernel) ⟨by decide, by decide⟩) [] [0, 1, 2, 3, 4, 5, 6, 7, 8, 9, 10, 11, 12, 13] [0, 1, 2, 3, 4, 5, 6, 7, 8, 9, 10, 11, 12, 13] rfl (by decide) rfl (by decide) (by decide) (fun _ => rfl) (by decide) rfl (Nat.le_of_ble_eq_true rfl) ⟨by decide, by decide⟩ dX7_isInk_10 (fun r u hr_1 => ?_)
  subst hr_1
  refine kR_z C () dX7_isInk_13 (by first | decide | exact bI_z _ | rfl) ?_ rfl
  exact bI_iff (in_R (by omega))

set_option maxHeartbeats 4000000 in
set_option maxRecDepth 100000 in
theorem c_X7_isCell (l : Launch) (G : va_G) (y : Nat → ClassId) (t : Nat) (a : Nat → Nat) (th : Int32) (Sr : Nat → Int32) (dr : Nat → Int32) (pa : Nat → Int32) (um : Int32) (im : Nat → Int32) (ikp : Nat → Int32) (tx : Nat → Int32) (ty : Int32) (sn : Nat → Int32) (sm : Int32) (at1 : Int32) (pl : Int32) (tk : Int32) (vl : Int32) (fa : Int32) (pf : Nat → Int32) (odr : Nat → Int32) (gv : Nat → Int32) (mk : Nat → Int32) (bo : Nat → Int32) (bq : Nat → Int32) (x : Int32) (z : Int32) (W : Nat) (H : Nat) (N : Nat) (pcl : Nat → Nat) (ik : Nat → Nat) (o : Nat → Nat) (bk : Nat → Nat) (kk : Nat → Nat) (hR : RowOk Sr W H N pcl ik o bk kk) (sz : Nat) : Met l yX7_isCell (Cond.code yX7_isCell cX7_isCell 3 (some .boolean) :: TG) ({ frames := 1, cells := 0, slots := 0, locals := 22 }) (va_Pc [.ref (a 0), .int x, .int z] (PR G y t (kMod y a th Sr dr pa um im ikp tx ty sn sm at1 pl tk vl fa pf odr gv mk bo bq) sz)) (va_Qi (fun (r : Int32) (u : Unit) => r = (bI (decide (inR x W ∧ inR z H)))) (fun (u : Unit) t => PO G (va_A (kMod y a th Sr dr pa um im ikp tx ty sn sm at1 pl tk vl fa pf odr gv mk bo bq) sz) (kMod y a th Sr dr pa um im ikp tx ty sn sm at1 pl tk vl fa pf odr gv mk bo bq) t) (va_A (kMod y a th Sr dr pa um im ikp tx ty sn sm at1 pl tk vl fa pf odr gv mk bo bq) sz)) 0 0 (va_A (kMod y a th Sr dr pa um im ikp tx ty sn sm at1 pl tk vl fa pf odr gv mk bo bq) sz) := by
  refine kMet (cc := cX7_isCell) (maxL := 3) (ret := some .boolean) (Qc := fun A => va_Qi (fun (r : Int32) (u : Unit) => r = (bI (decide (inR x W ∧ inR z H)))) (fun (u : Unit) t => PO G A (kMod y a th Sr dr pa um im ikp tx ty sn sm at1 pl tk vl fa pf odr gv mk bo bq) t) A) (by decide) rfl (Nat.le_of_ble_eq_true rfl) (fun p e s m below meth c A hsz C hin => ?_)
  obtain ⟨hS0, hS1, hS2, hW, hH, hN, hpic, hink, hord, hblk, hdx⟩ := id hR
  refine KW.loc (lv' := [(0, .ref (a 0)), (1, .int x), (2, .int z)]) [0, 1, 2] rfl ?_
  refine kw_iload_n C 1 dX7_isCell_0 rfl ?_
  refine kw_iconst (v := nI 0) C dX7_isCell_1 (by decide) ?_
  refine kw_aload_n C 0 dX7_isCell_2 rfl ?_
  refine kw_get (v := .ref (a 1)) (T := TX7) C 0 1 rfl rfl (by decide) (fun w h => mT (fwX7 w h)) rfl (mT wd_616) rfl dX7_isCell_3 ?_
  refine kw_iconst (v := nI 0) C dX7_isCell_6 (by decide) ?_
  refine kw_iald (f := Sr) C 1 rfl (by omega) (by decide) dX7_isCell_7 ?_
  refine kw_top (show (Sr 0) = (nI W) from by exact hS0) ?_
  refine kw_iconst (v := nI 1) C dX7_isCell_8 (by decide) ?_
  refine kw_isub C dX7_isCell_9 ?_
  refine kS_i (As := [.int x, .int (nI 0), .int ((nI W) - (nI 1))]) (rest := []) (ws' := fun (u : Unit) => kMod y a th Sr dr pa um im ikp tx ty sn sm at1 pl tk vl fa pf odr gv mk bo bq) C (c_X7_in l G y t x (nI 0) ((nI W) - (nI 1))) (va_cwS 3 C.2.2.2.2.1 (goodS cT wd_688 wd_686 wd_687 wd_48) rfl rfl rfl (by decide +kernel) ⟨by decide, by decide⟩) [] [0, 1, 2, 3, 4, 5, 6, 7, 8, 9, 10, 11, 12, 13] [0, 1, 2, 3, 4, 5, 6, 7, 8, 9, 10, 11, 12, 13] rfl (by decide) rfl (by decide) (by decide) (fun _ => rfl) (by decide) rfl (Nat.le_of_ble_eq_true rfl) ⟨by decide, by decide⟩ dX7_isCell_10 (fun r u hr_1 => ?_)
  subst hr_1
  refine kw_if_eq_D (tgt := 36) C dX7_isCell_13 (by decide) (fun c_13 => ?_) (fun c_13 => ?_)
  ·
    refine kw_iconst (v := nI 0) C dX7_isCell_36 (by decide) ?_
    refine kR_z C () dX7_isCell_37 (by first | decide | exact bI_z _ | rfl) ?_ rfl
    first | exact (bI_t (And.intro ((in_R (by omega)).mp c_13) ((in_R (by omega)).mp c_29))).symm | exact (bI_f (fun h => c_13 ((in_R (by omega)).mpr h.1))).symm | exact (bI_f (fun h => c_29 ((in_R (by omega)).mpr h.2))).symm
  ·
    refine kw_iload_n C 2 dX7_isCell_16 rfl ?_
    refine kw_iconst (v := nI 0) C dX7_isCell_17 (by decide) ?_
    refine kw_aload_n C 0 dX7_isCell_18 rfl ?_
    refine kw_get (v := .ref (a 1)) (T := TX7) C 0 1 rfl rfl (by decide) (fun w h => mT (fwX7 w h)) rfl (mT wd_616) rfl dX7_isCell_19 ?_
    refine kw_iconst (v := nI 1) C dX7_isCell_22 (by decide) ?_
    refine kw_iald (f := Sr) C 1 rfl (by omega) (by decide) dX7_isCell_23 ?_
    refine kw_top (show (Sr 1) = (nI H) from by exact hS1) ?_
    refine kw_iconst (v := nI 1) C dX7_isCell_24 (by decide) ?_
    refine kw_isub C dX7_isCell_25 ?_
    refine kS_i (As := [.int z, .int (nI 0), .int ((nI H) - (nI 1))]) (rest := []) (ws' := fun (u : Unit) => kMod y a th Sr dr pa um im ikp tx ty sn sm at1 pl tk vl fa pf odr gv mk bo bq) C (c_X7_in l G y t z (nI 0) ((nI H) - (nI 1))) (va_cwS 3 C.2.2.2.2.1 (goodS cT wd_688 wd_686 wd_687 wd_48) rfl rfl rfl (by decide +kernel) ⟨by decide, by decide⟩) [] [0, 1, 2, 3, 4, 5, 6, 7, 8, 9, 10, 11, 12, 13] [0, 1, 2, 3, 4, 5, 6, 7, 8, 9, 10, 11, 12, 13] rfl (by decide) rfl (by decide) (by decide) (fun _ => rfl) (by decide) rfl (Nat.le_of_ble_eq_true rfl) ⟨by decide, by decide⟩ dX7_isCell_26 (fun r u hr_2 => ?_)
    subst hr_2
    refine kw_if_eq_D (tgt := 36) C dX7_isCell_29 (by decide) (fun c_29 => ?_) (fun c_29 => ?_)
    ·
      refine kw_iconst (v := nI 0) C dX7_isCell_36 (by decide) ?_
      refine kR_z C () dX7_isCell_37 (by first | decide | exact bI_z _ | rfl) ?_ rfl
      first | exact (bI_t (And.intro ((in_R (by omega)).mp c_13) ((in_R (by omega)).mp c_29))).symm | exact (bI_f (fun h => c_13 ((in_R (by omega)).mpr h.1))).symm | exact (bI_f (fun h => c_29 ((in_R (by omega)).mpr h.2))).symm
    ·
      refine kw_iconst (v := nI 1) C dX7_isCell_32 (by decide) ?_
      refine kw_goto (tgt := 37) C dX7_isCell_33 (by decide) ?_
      refine kR_z C () dX7_isCell_37 (by first | decide | exact bI_z _ | rfl) ?_ rfl
      first | exact (bI_t (And.intro ((in_R (by omega)).mp c_13) ((in_R (by omega)).mp c_29))).symm | exact (bI_f (fun h => c_13 ((in_R (by omega)).mpr h.1))).symm | exact (bI_f (fun h => c_29 ((in_R (by omega)).mpr h.2))).symm
