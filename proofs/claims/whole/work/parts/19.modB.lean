set_option maxHeartbeats 4000000 in
set_option maxRecDepth 100000 in
theorem c_X7_type_bad (l : Launch) (G : va_G) (y : Nat → ClassId) (t : Nat) (a : Nat → Nat) (th : Int32) (Sr : Nat → Int32) (dr : Nat → Int32) (pa : Nat → Int32) (um : Int32) (im : Nat → Int32) (ikp : Nat → Int32) (tx : Nat → Int32) (ty : Int32) (sn : Nat → Int32) (sm : Int32) (at1 : Int32) (pl : Int32) (tk : Int32) (vl : Int32) (fa : Int32) (pf : Nat → Int32) (odr : Nat → Int32) (gv : Nat → Int32) (mk : Nat → Int32) (bo : Nat → Int32) (bq : Nat → Int32) (i : Int32) (hb : ¬ inR i 256) (sz : Nat) : Met l yX7_type (Cond.code yX7_type cX7_type 2 (some .int) :: TG) ({ frames := 1, cells := 0, slots := 0, locals := 22 }) (va_Pc [.ref (a 0), .int i] (PR G y t (kMod y a th Sr dr pa um im ikp tx ty sn sm at1 pl tk vl fa pf odr gv mk bo bq) sz)) (va_Qi (fun (r : Int32) (u : Unit) => r = (-1)) (fun (u : Unit) t => PO G (va_A (kMod y a th Sr dr pa um im ikp tx ty sn sm at1 pl tk vl fa pf odr gv mk bo bq) sz) (kMod y a (nI 0) Sr dr pa um im ikp tx ty sn sm at1 pl tk vl fa pf odr gv mk bo bq) t) (va_A (kMod y a th Sr dr pa um im ikp tx ty sn sm at1 pl tk vl fa pf odr gv mk bo bq) sz)) 0 0 (va_A (kMod y a th Sr dr pa um im ikp tx ty sn sm at1 pl tk vl fa pf odr gv mk bo bq) sz) := by
  refine kMet (cc := cX7_type) (maxL := 2) (ret := some .int) (Qc := fun A => va_Qi (fun (r : Int32) (u : Unit) => r = (-1)) (fun (u : Unit) t => PO G A (kMod y a (nI 0) Sr dr pa um im ikp tx ty sn sm at1 pl tk vl fa pf odr gv mk bo bq) t) A) (by decide) rfl (Nat.le_of_ble_eq_true rfl) (fun p e s m below meth c A hsz C hin => ?_)
  refine KW.loc (lv' := [(0, .ref (a 0)), (1, .int i)]) [0, 1] rfl ?_
  refine kw_aload_n C 0 dX7_type_0 rfl ?_
  refine kw_iconst (v := nI 0) C dX7_type_1 (by decide) ?_
  refine kw_put (T := TX7) (ty := .int) C 0 0 (kMod y a (nI 0) Sr dr pa um im ikp tx ty sn sm at1 pl tk vl fa pf odr gv mk bo bq) rfl rfl (by decide) (fun w h => mT (fwX7 w h)) tyX7 tyX7_ok nmX7 rfl (mT wd_615) rfl (by decide +kernel) rfl rfl (Nat.le_of_ble_eq_true rfl) dX7_type_2 rfl ?_
  refine kw_iload_n C 1 dX7_type_5 rfl ?_
  refine kw_iconst (v := nI 0) C dX7_type_6 (by decide) ?_
  refine kw_sipush (v := nI 255) C dX7_type_7 (by decide) ?_
  refine kS_i (As := [.int i, .int (nI 0), .int (nI 255)]) (rest := []) (ws' := fun (u : Unit) => kMod y a (nI 0) Sr dr pa um im ikp tx ty sn sm at1 pl tk vl fa pf odr gv mk bo bq) C (c_X7_in l G y t i (nI 0) (nI 255)) (va_cwS 3 C.2.2.2.2.1 (goodS cT wd_688 wd_686 wd_687 wd_48) rfl rfl rfl (by decide +kernel) ⟨by decide, by decide⟩) [] [0, 1, 2, 3, 4, 5, 6, 7, 8, 9, 10, 11, 12, 13] [0, 1, 2, 3, 4, 5, 6, 7, 8, 9, 10, 11, 12, 13] rfl (by decide) rfl (by decide) (by decide) (fun _ => rfl) (by decide) rfl (Nat.le_of_ble_eq_true rfl) ⟨by decide, by decide⟩ dX7_type_10 (fun r u hr_1 => ?_)
  subst hr_1
  refine kw_if_ne_D (tgt := 18) C dX7_type_13 (by decide) (fun c_13 => ?_) (fun c_13 => ?_)
  ·
    exact absurd ((in_R1 (by decide)).mp c_13) hb
  ·
    refine kw_iconst (v := (-1)) C dX7_type_16 (by decide) ?_
    refine kR_i C () dX7_type_17 ?_ rfl
    first | rfl | trivial | (simp; done) | omega

set_option maxHeartbeats 4000000 in
set_option maxRecDepth 100000 in
theorem c_X7_type_ok (l : Launch) (G : va_G) (y : Nat → ClassId) (t : Nat) (a : Nat → Nat) (th : Int32) (Sr : Nat → Int32) (dr : Nat → Int32) (pa : Nat → Int32) (um : Int32) (im : Nat → Int32) (ikp : Nat → Int32) (tx : Nat → Int32) (sn : Nat → Int32) (sm : Int32) (at1 : Int32) (pl : Int32) (tk : Int32) (vl : Int32) (fa : Int32) (pf : Nat → Int32) (odr : Nat → Int32) (gv : Nat → Int32) (mk : Nat → Int32) (bo : Nat → Int32) (bq : Nat → Int32) (n : Nat) (ch : Nat) (hn : n ≤ 100) (hch : ch < 256) (sz : Nat) : Met l yX7_type (Cond.code yX7_type cX7_type 2 (some .int) :: TG) ({ frames := 1, cells := 0, slots := 0, locals := 22 }) (va_Pc [.ref (a 0), .int (nI ch)] (PR G y t (kMod y a th Sr dr pa um im ikp tx (nI n) sn sm at1 pl tk vl fa pf odr gv mk bo bq) sz)) (va_Qi (fun (r : Int32) (u : Nat × (Nat → Int32)) => r = (if n < 100 then nI (n + 1) else (-3)) ∧ (n < 100 → u.1 = n + 1 ∧ u.2 = upd tx n (nI ch)) ∧ (¬ n < 100 → u.1 = n ∧ u.2 = tx)) (fun (u : Nat × (Nat → Int32)) t => PO G (va_A (kMod y a th Sr dr pa um im ikp tx (nI n) sn sm at1 pl tk vl fa pf odr gv mk bo bq) sz) (kMod y a (nI 0) Sr dr pa um im ikp u.2 (nI u.1) sn sm at1 pl tk vl fa pf odr gv mk bo bq) t) (va_A (kMod y a th Sr dr pa um im ikp tx (nI n) sn sm at1 pl tk vl fa pf odr gv mk bo bq) sz)) 0 0 (va_A (kMod y a th Sr dr pa um im ikp tx (nI n) sn sm at1 pl tk vl fa pf odr gv mk bo bq) sz) := by
  refine kMet (cc := cX7_type) (maxL := 2) (ret := some .int) (Qc := fun A => va_Qi (fun (r : Int32) (u : Nat × (Nat → Int32)) => r = (if n < 100 then nI (n + 1) else (-3)) ∧ (n < 100 → u.1 = n + 1 ∧ u.2 = upd tx n (nI ch)) ∧ (¬ n < 100 → u.1 = n ∧ u.2 = tx)) (fun (u : Nat × (Nat → Int32)) t => PO G A (kMod y a (nI 0) Sr dr pa um im ikp u.2 (nI u.1) sn sm at1 pl tk vl fa pf odr gv mk bo bq) t) A) (by decide) rfl (Nat.le_of_ble_eq_true rfl) (fun p e s m below meth c A hsz C hin => ?_)
  refine KW.loc (lv' := [(0, .ref (a 0)), (1, .int (nI ch))]) [0, 1] rfl ?_
  refine kw_aload_n C 0 dX7_type_0 rfl ?_
  refine kw_iconst (v := nI 0) C dX7_type_1 (by decide) ?_
  refine kw_put (T := TX7) (ty := .int) C 0 0 (kMod y a (nI 0) Sr dr pa um im ikp tx (nI n) sn sm at1 pl tk vl fa pf odr gv mk bo bq) rfl rfl (by decide) (fun w h => mT (fwX7 w h)) tyX7 tyX7_ok nmX7 rfl (mT wd_615) rfl (by decide +kernel) rfl rfl (Nat.le_of_ble_eq_true rfl) dX7_type_2 rfl ?_
  refine kw_iload_n C 1 dX7_type_5 rfl ?_
  refine kw_iconst (v := nI 0) C dX7_type_6 (by decide) ?_
  refine kw_sipush (v := nI 255) C dX7_type_7 (by decide) ?_
  refine kS_i (As := [.int (nI ch), .int (nI 0), .int (nI 255)]) (rest := []) (ws' := fun (u : Unit) => kMod y a (nI 0) Sr dr pa um im ikp tx (nI n) sn sm at1 pl tk vl fa pf odr gv mk bo bq) C (c_X7_in l G y t (nI ch) (nI 0) (nI 255)) (va_cwS 3 C.2.2.2.2.1 (goodS cT wd_688 wd_686 wd_687 wd_48) rfl rfl rfl (by decide +kernel) ⟨by decide, by decide⟩) [] [0, 1, 2, 3, 4, 5, 6, 7, 8, 9, 10, 11, 12, 13] [0, 1, 2, 3, 4, 5, 6, 7, 8, 9, 10, 11, 12, 13] rfl (by decide) rfl (by decide) (by decide) (fun _ => rfl) (by decide) rfl (Nat.le_of_ble_eq_true rfl) ⟨by decide, by decide⟩ dX7_type_10 (fun r u hr_1 => ?_)
  subst hr_1
  refine kw_if_ne_D (tgt := 18) C dX7_type_13 (by decide) (fun c_13 => ?_) (fun c_13 => ?_)
  ·
    refine kw_aload_n C 0 dX7_type_18 rfl ?_
    refine kw_get (v := .int (nI n)) (T := TX7) C 0 8 rfl rfl (by decide) (fun w h => mT (fwX7 w h)) rfl (mT wd_623) rfl dX7_type_19 ?_
    refine kw_bipush (v := nI 100) C dX7_type_22 (by decide) ?_
    refine kw_icmp_ne_N (tgt := 30) C (by omega) (by omega) dX7_type_24 (by decide) (fun c_24 => ?_) (fun c_24 => ?_)
    ·
      refine kw_aload_n C 0 dX7_type_30 rfl ?_
      refine kw_get (v := .ref (a 6)) (T := TX7) C 0 7 rfl rfl (by decide) (fun w h => mT (fwX7 w h)) rfl (mT wd_622) rfl dX7_type_31 ?_
      refine kw_aload_n C 0 dX7_type_34 rfl ?_
      refine kw_get (v := .int (nI n)) (T := TX7) C 0 8 rfl rfl (by decide) (fun w h => mT (fwX7 w h)) rfl (mT wd_623) rfl dX7_type_35 ?_
      refine kw_iload_n C 1 dX7_type_38 rfl ?_
      refine kw_iast C 6 (kMod y a (nI 0) Sr dr pa um im ikp (upd tx n (nI ch)) (nI n) sn sm at1 pl tk vl fa pf odr gv mk bo bq) rfl (by omega) (by decide) dX7_type_39 rfl ?_
      refine kw_aload_n C 0 dX7_type_40 rfl ?_
      refine kw_dup C dX7_type_41 rfl ?_
      refine kw_get (v := .int (nI n)) (T := TX7) C 0 8 rfl rfl (by decide) (fun w h => mT (fwX7 w h)) rfl (mT wd_623) rfl dX7_type_42 ?_
      refine kw_iconst (v := nI 1) C dX7_type_45 (by decide) ?_
      refine kw_iadd C dX7_type_46 (kw_top (nI_add _ _) ?_)
      refine kw_put (T := TX7) (ty := .int) C 0 8 (kMod y a (nI 0) Sr dr pa um im ikp (upd tx n (nI ch)) (nI (n + 1)) sn sm at1 pl tk vl fa pf odr gv mk bo bq) rfl rfl (by decide) (fun w h => mT (fwX7 w h)) tyX7 tyX7_ok nmX7 rfl (mT wd_623) rfl (by decide +kernel) rfl rfl (Nat.le_of_ble_eq_true rfl) dX7_type_47 rfl ?_
      refine kw_aload_n C 0 dX7_type_50 rfl ?_
      refine kw_get (v := .int (nI (n + 1))) (T := TX7) C 0 8 rfl rfl (by decide) (fun w h => mT (fwX7 w h)) rfl (mT wd_623) rfl dX7_type_51 ?_
      refine kR_i C (n + 1, upd tx n (nI ch)) dX7_type_54 ?_ rfl
      refine ⟨?_, fun _ => ⟨rfl, rfl⟩, fun h => absurd (show n < 100 by omega) h⟩; rw [if_pos (by omega)]
    ·
      refine kw_bipush (v := (-3)) C dX7_type_27 (by decide) ?_
      refine kR_i C (n, tx) dX7_type_29 ?_ rfl
      refine ⟨?_, fun h => absurd h (by omega), fun _ => ⟨rfl, rfl⟩⟩; rw [if_neg (by omega)]
  ·
    exact absurd ((in_R1 (by decide)).mpr (inR_of hch (by decide))) c_13

set_option maxHeartbeats 4000000 in
set_option maxRecDepth 100000 in
theorem c_X7_clear_ok (l : Launch) (G : va_G) (y : Nat → ClassId) (t : Nat) (a : Nat → Nat) (th : Int32) (Sr : Nat → Int32) (dr : Nat → Int32) (pa : Nat → Int32) (um : Int32) (im : Nat → Int32) (ikp : Nat → Int32) (tx : Nat → Int32) (sn : Nat → Int32) (sm : Int32) (at1 : Int32) (pl : Int32) (tk : Int32) (vl : Int32) (fa : Int32) (pf : Nat → Int32) (odr : Nat → Int32) (gv : Nat → Int32) (mk : Nat → Int32) (bo : Nat → Int32) (bq : Nat → Int32) (n : Nat) (sz : Nat) : Met l yX7_clear (Cond.code yX7_clear cX7_clear 2 (some .int) :: TG) ({ frames := 0, cells := 0, slots := 0, locals := 0 }) (va_Pc [.ref (a 0)] (PR G y t (kMod y a th Sr dr pa um im ikp tx (nI n) sn sm at1 pl tk vl fa pf odr gv mk bo bq) sz)) (va_Qi (fun (r : Int32) (u : Unit) => r = (nI n)) (fun (u : Unit) t => PO G (va_A (kMod y a th Sr dr pa um im ikp tx (nI n) sn sm at1 pl tk vl fa pf odr gv mk bo bq) sz) (kMod y a (nI 0) Sr dr pa um im ikp tx (nI 0) sn sm at1 pl tk vl fa pf odr gv mk bo bq) t) (va_A (kMod y a th Sr dr pa um im ikp tx (nI n) sn sm at1 pl tk vl fa pf odr gv mk bo bq) sz)) 0 0 (va_A (kMod y a th Sr dr pa um im ikp tx (nI n) sn sm at1 pl tk vl fa pf odr gv mk bo bq) sz) := by
  refine kMet (cc := cX7_clear) (maxL := 2) (ret := some .int) (Qc := fun A => va_Qi (fun (r : Int32) (u : Unit) => r = (nI n)) (fun (u : Unit) t => PO G A (kMod y a (nI 0) Sr dr pa um im ikp tx (nI 0) sn sm at1 pl tk vl fa pf odr gv mk bo bq) t) A) (by decide) rfl (Nat.le_of_ble_eq_true rfl) (fun p e s m below meth c A hsz C hin => ?_)
  refine KW.loc (lv' := [(0, .ref (a 0))]) [0] rfl ?_
  refine kw_aload_n C 0 dX7_clear_0 rfl ?_
  refine kw_iconst (v := nI 0) C dX7_clear_1 (by decide) ?_
  refine kw_put (T := TX7) (ty := .int) C 0 0 (kMod y a (nI 0) Sr dr pa um im ikp tx (nI n) sn sm at1 pl tk vl fa pf odr gv mk bo bq) rfl rfl (by decide) (fun w h => mT (fwX7 w h)) tyX7 tyX7_ok nmX7 rfl (mT wd_615) rfl (by decide +kernel) rfl rfl (Nat.le_of_ble_eq_true rfl) dX7_clear_2 rfl ?_
  refine kw_aload_n C 0 dX7_clear_5 rfl ?_
  refine kw_get (v := .int (nI n)) (T := TX7) C 0 8 rfl rfl (by decide) (fun w h => mT (fwX7 w h)) rfl (mT wd_623) rfl dX7_clear_6 ?_
  refine kw_istore_n C [(1, .int (nI n)), (0, .ref (a 0))] dX7_clear_9 rfl (by decide) rfl ?_
  refine kw_aload_n C 1 dX7_clear_10 rfl ?_
  refine kw_iconst (v := nI 0) C dX7_clear_11 (by decide) ?_
  refine kw_put (T := TX7) (ty := .int) C 0 8 (kMod y a (nI 0) Sr dr pa um im ikp tx (nI 0) sn sm at1 pl tk vl fa pf odr gv mk bo bq) rfl rfl (by decide) (fun w h => mT (fwX7 w h)) tyX7 tyX7_ok nmX7 rfl (mT wd_623) rfl (by decide +kernel) rfl rfl (Nat.le_of_ble_eq_true rfl) dX7_clear_12 rfl ?_
  refine kw_iload_n C 0 dX7_clear_15 rfl ?_
  refine kR_i C () dX7_clear_16 ?_ rfl
  first | rfl | trivial | (simp; done) | omega

set_option maxHeartbeats 4000000 in
set_option maxRecDepth 100000 in
theorem c_X7_undo_none (l : Launch) (G : va_G) (y : Nat → ClassId) (t : Nat) (a : Nat → Nat) (th : Int32) (Sr : Nat → Int32) (dr : Nat → Int32) (pa : Nat → Int32) (im : Nat → Int32) (ikp : Nat → Int32) (tx : Nat → Int32) (ty : Int32) (sn : Nat → Int32) (sm : Int32) (at1 : Int32) (pl : Int32) (tk : Int32) (vl : Int32) (fa : Int32) (pf : Nat → Int32) (odr : Nat → Int32) (gv : Nat → Int32) (mk : Nat → Int32) (bo : Nat → Int32) (bq : Nat → Int32) (sz : Nat) : Met l yX7_undo (Cond.code yX7_undo cX7_undo 2 (some .int) :: TG) ({ frames := 0, cells := 0, slots := 0, locals := 0 }) (va_Pc [.ref (a 0)] (PR G y t (kMod y a th Sr dr pa (nI 0) im ikp tx ty sn sm at1 pl tk vl fa pf odr gv mk bo bq) sz)) (va_Qi (fun (r : Int32) (u : Unit) => r = (-2)) (fun (u : Unit) t => PO G (va_A (kMod y a th Sr dr pa (nI 0) im ikp tx ty sn sm at1 pl tk vl fa pf odr gv mk bo bq) sz) (kMod y a (nI 0) Sr dr pa (nI 0) im ikp tx ty sn sm at1 pl tk vl fa pf odr gv mk bo bq) t) (va_A (kMod y a th Sr dr pa (nI 0) im ikp tx ty sn sm at1 pl tk vl fa pf odr gv mk bo bq) sz)) 0 0 (va_A (kMod y a th Sr dr pa (nI 0) im ikp tx ty sn sm at1 pl tk vl fa pf odr gv mk bo bq) sz) := by
  refine kMet (cc := cX7_undo) (maxL := 2) (ret := some .int) (Qc := fun A => va_Qi (fun (r : Int32) (u : Unit) => r = (-2)) (fun (u : Unit) t => PO G A (kMod y a (nI 0) Sr dr pa (nI 0) im ikp tx ty sn sm at1 pl tk vl fa pf odr gv mk bo bq) t) A) (by decide) rfl (Nat.le_of_ble_eq_true rfl) (fun p e s m below meth c A hsz C hin => ?_)
  refine KW.loc (lv' := [(0, .ref (a 0))]) [0] rfl ?_
  refine kw_aload_n C 0 dX7_undo_0 rfl ?_
  refine kw_iconst (v := nI 0) C dX7_undo_1 (by decide) ?_
  refine kw_put (T := TX7) (ty := .int) C 0 0 (kMod y a (nI 0) Sr dr pa (nI 0) im ikp tx ty sn sm at1 pl tk vl fa pf odr gv mk bo bq) rfl rfl (by decide) (fun w h => mT (fwX7 w h)) tyX7 tyX7_ok nmX7 rfl (mT wd_615) rfl (by decide +kernel) rfl rfl (Nat.le_of_ble_eq_true rfl) dX7_undo_2 rfl ?_
  refine kw_aload_n C 0 dX7_undo_5 rfl ?_
  refine kw_get (v := .int (nI 0)) (T := TX7) C 0 4 rfl rfl (by decide) (fun w h => mT (fwX7 w h)) rfl (mT wd_619) rfl dX7_undo_6 ?_
  refine kw_if_ne_N (tgt := 15) C (by omega) dX7_undo_9 (by decide) (fun c_9 => ?_) (fun c_9 => ?_)
  ·
    omega
  ·
    refine kw_bipush (v := (-2)) C dX7_undo_12 (by decide) ?_
    refine kR_i C () dX7_undo_14 ?_ rfl
    first | rfl | trivial | (simp; done) | omega

set_option maxHeartbeats 4000000 in
set_option maxRecDepth 100000 in
theorem c_X7_undo_ok (l : Launch) (G : va_G) (y : Nat → ClassId) (t : Nat) (a : Nat → Nat) (th : Int32) (Sr : Nat → Int32) (dr : Nat → Int32) (pa : Nat → Int32) (im : Nat → Int32) (ikp : Nat → Int32) (tx : Nat → Int32) (ty : Int32) (sn : Nat → Int32) (sm : Int32) (at1 : Int32) (pl : Int32) (tk : Int32) (vl : Int32) (fa : Int32) (pf : Nat → Int32) (odr : Nat → Int32) (gv : Nat → Int32) (mk : Nat → Int32) (bo : Nat → Int32) (bq : Nat → Int32) (U : Nat) (hU : U ≤ 5) (sz : Nat) : Met l yX7_undo (Cond.code yX7_undo cX7_undo 2 (some .int) :: TG) ({ frames := 0, cells := 0, slots := 0, locals := 0 }) (va_Pc [.ref (a 0)] (PR G y t (kMod y a th Sr dr pa (nI (U + 1)) im ikp tx ty sn sm at1 pl tk vl fa pf odr gv mk bo bq) sz)) (va_Qi (fun (r : Int32) (u : Nat → Int32) => r = (nI U) ∧ ∀ z, z < 99 → u z = pa (99 * U + z)) (fun (u : Nat → Int32) t => PO G (va_A (kMod y a th Sr dr pa (nI (U + 1)) im ikp tx ty sn sm at1 pl tk vl fa pf odr gv mk bo bq) sz) (kMod y a (nI 0) u dr pa (nI (U + 1 - 1)) im ikp tx ty sn sm at1 pl tk vl fa pf odr gv mk bo bq) t) (va_A (kMod y a th Sr dr pa (nI (U + 1)) im ikp tx ty sn sm at1 pl tk vl fa pf odr gv mk bo bq) sz)) 0 0 (va_A (kMod y a th Sr dr pa (nI (U + 1)) im ikp tx ty sn sm at1 pl tk vl fa pf odr gv mk bo bq) sz) := by
  refine kMet (cc := cX7_undo) (maxL := 2) (ret := some .int) (Qc := fun A => va_Qi (fun (r : Int32) (u : Nat → Int32) => r = (nI U) ∧ ∀ z, z < 99 → u z = pa (99 * U + z)) (fun (u : Nat → Int32) t => PO G A (kMod y a (nI 0) u dr pa (nI (U + 1 - 1)) im ikp tx ty sn sm at1 pl tk vl fa pf odr gv mk bo bq) t) A) (by decide) rfl (Nat.le_of_ble_eq_true rfl) (fun p e s m below meth c A hsz C hin => ?_)
  refine KW.loc (lv' := [(0, .ref (a 0))]) [0] rfl ?_
  refine kw_aload_n C 0 dX7_undo_0 rfl ?_
  refine kw_iconst (v := nI 0) C dX7_undo_1 (by decide) ?_
  refine kw_put (T := TX7) (ty := .int) C 0 0 (kMod y a (nI 0) Sr dr pa (nI (U + 1)) im ikp tx ty sn sm at1 pl tk vl fa pf odr gv mk bo bq) rfl rfl (by decide) (fun w h => mT (fwX7 w h)) tyX7 tyX7_ok nmX7 rfl (mT wd_615) rfl (by decide +kernel) rfl rfl (Nat.le_of_ble_eq_true rfl) dX7_undo_2 rfl ?_
  refine kw_aload_n C 0 dX7_undo_5 rfl ?_
  refine kw_get (v := .int (nI (U + 1))) (T := TX7) C 0 4 rfl rfl (by decide) (fun w h => mT (fwX7 w h)) rfl (mT wd_619) rfl dX7_undo_6 ?_
  refine kw_if_ne_N (tgt := 15) C (by omega) dX7_undo_9 (by decide) (fun c_9 => ?_) (fun c_9 => ?_)
  ·
    refine kw_aload_n C 0 dX7_undo_15 rfl ?_
    refine kw_dup C dX7_undo_16 rfl ?_
    refine kw_get (v := .int (nI (U + 1))) (T := TX7) C 0 4 rfl rfl (by decide) (fun w h => mT (fwX7 w h)) rfl (mT wd_619) rfl dX7_undo_17 ?_
    refine kw_iconst (v := nI 1) C dX7_undo_20 (by decide) ?_
    refine kw_isub C dX7_undo_21 (kw_top (pk_sub (by omega)) ?_)
    refine kw_put (T := TX7) (ty := .int) C 0 4 (kMod y a (nI 0) Sr dr pa (nI ((U + 1) - 1)) im ikp tx ty sn sm at1 pl tk vl fa pf odr gv mk bo bq) rfl rfl (by decide) (fun w h => mT (fwX7 w h)) tyX7 tyX7_ok nmX7 rfl (mT wd_619) rfl (by decide +kernel) rfl rfl (Nat.le_of_ble_eq_true rfl) dX7_undo_22 rfl ?_
    refine kw_iconst (v := nI 0) C dX7_undo_25 (by decide) ?_
    refine kw_istore_n C [(1, .int (nI 0)), (0, .ref (a 0))] dX7_undo_26 rfl (by decide) rfl ?_
    have L27_1 : ∀ (nn : Nat) (i : Nat) (f0 : Nat → Int32) (hi : i ≤ 99) (hf0 : ∀ z, z < i → f0 z = pa (99 * U + z)) (hms : 99 - i < nn), KW p l e ({ frames := 0, cells := 0, slots := 0, locals := 0 }) s m ([.ref (a 0)] : List Value).toArray below meth c 0 0 (MQ below (va_Qi (fun (r : Int32) (u : Nat → Int32) => r = (nI U) ∧ ∀ z, z < 99 → u z = pa (99 * U + z)) (fun (u : Nat → Int32) t => PO G A (kMod y a (nI 0) u dr pa (nI (U + 1 - 1)) im ikp tx ty sn sm at1 pl tk vl fa pf odr gv mk bo bq) t) A) ([.ref (a 0)] : List Value).toArray s 0 0 A) G A 2 (kMod y a (nI 0) f0 dr pa (nI ((U + 1) - 1)) im ikp tx ty sn sm at1 pl tk vl fa pf odr gv mk bo bq) [(1, .int (nI i)), (0, .ref (a 0))] 27 [] := by
      intro nn
      induction nn with
      | zero => intro i f0 hi hf0 hms; exact absurd hms (Nat.not_lt_zero _)
      | succ nn ih_27 =>
        intro i f0 hi hf0 hms
        refine kw_iload_n C 0 dX7_undo_27 rfl ?_
        refine kw_bipush (v := nI 99) C dX7_undo_28 (by decide) ?_
        refine kw_icmp_ge_N (tgt := 59) C (by omega) (by omega) dX7_undo_30 (by decide) (fun c_30 => ?_) (fun c_30 => ?_)
        ·
          refine kw_aload_n C 1 dX7_undo_59 rfl ?_
          refine kw_get (v := .int (nI ((U + 1) - 1))) (T := TX7) C 0 4 rfl rfl (by decide) (fun w h => mT (fwX7 w h)) rfl (mT wd_619) rfl dX7_undo_60 ?_
          refine kR_i C (f0) dX7_undo_63 ?_ rfl
          refine ⟨rfl, fun z hz => hf0 z (by omega)⟩
        ·
          refine kw_aload_n C 1 dX7_undo_33 rfl ?_
          refine kw_get (v := .ref (a 1)) (T := TX7) C 0 1 rfl rfl (by decide) (fun w h => mT (fwX7 w h)) rfl (mT wd_616) rfl dX7_undo_34 ?_
          refine kw_iload_n C 0 dX7_undo_37 rfl ?_
          refine kw_aload_n C 1 dX7_undo_38 rfl ?_
          refine kw_get (v := .ref (a 3)) (T := TX7) C 0 3 rfl rfl (by decide) (fun w h => mT (fwX7 w h)) rfl (mT wd_618) rfl dX7_undo_39 ?_
          refine kw_bipush (v := nI 99) C dX7_undo_42 (by decide) ?_
          refine kw_aload_n C 1 dX7_undo_44 rfl ?_
          refine kw_get (v := .int (nI ((U + 1) - 1))) (T := TX7) C 0 4 rfl rfl (by decide) (fun w h => mT (fwX7 w h)) rfl (mT wd_619) rfl dX7_undo_45 ?_
          refine kw_imul C dX7_undo_48 (kw_top (pk_mul _ _) ?_)
          refine kw_iload_n C 0 dX7_undo_49 rfl ?_
          refine kw_iadd C dX7_undo_50 (kw_top (nI_add _ _) ?_)
          refine kw_iald (f := pa) C 3 rfl (by omega) (by decide) dX7_undo_51 ?_
          refine kw_iast C 1 (kMod y a (nI 0) (upd f0 i (pa ((99 * ((U + 1) - 1)) + i))) dr pa (nI ((U + 1) - 1)) im ikp tx ty sn sm at1 pl tk vl fa pf odr gv mk bo bq) rfl (by omega) (by decide) dX7_undo_52 rfl ?_
          refine kw_iinc (v := nI (i + 1)) C [(1, .int (nI (i + 1))), (0, .ref (a 0))] 0 dX7_undo_53 rfl (nI_1 _) (by decide) rfl ?_
          refine kw_goto (tgt := 27) C dX7_undo_56 (by decide) ?_
          refine KW.loc (lv' := [(1, .int (nI (i + 1))), (0, .ref (a 0))]) [0, 1] rfl ?_
          exact ih_27 (i + 1) (upd f0 i (pa ((99 * ((U + 1) - 1)) + i))) (by first | assumption | omega | (simp; done)) (by intro z hz; rcases Nat.lt_or_ge z i with h | h; rw [pk_un (by omega)]; exact hf0 z h; rw [show z = i from by omega]; exact pk_us) (by omega)
    refine KW.loc (lv' := [(1, .int (nI 0)), (0, .ref (a 0))]) [0, 1] rfl ?_
    exact L27_1 (99 - 0 + 1) 0 Sr (by first | assumption | omega | (simp; done)) (by intro z hz; exact absurd hz (Nat.not_lt_zero _)) (Nat.lt_succ_self _)
  ·
    omega

set_option maxHeartbeats 4000000 in
set_option maxRecDepth 100000 in
theorem c_X7_keep_bad (l : Launch) (G : va_G) (y : Nat → ClassId) (t : Nat) (a : Nat → Nat) (th : Int32) (Sr : Nat → Int32) (dr : Nat → Int32) (pa : Nat → Int32) (um : Int32) (im : Nat → Int32) (ikp : Nat → Int32) (tx : Nat → Int32) (ty : Int32) (sn : Nat → Int32) (sm : Int32) (at1 : Int32) (pl : Int32) (tk : Int32) (vl : Int32) (fa : Int32) (pf : Nat → Int32) (odr : Nat → Int32) (gv : Nat → Int32) (mk : Nat → Int32) (bo : Nat → Int32) (bq : Nat → Int32) (i : Int32) (hb : ¬ inR i 2) (sz : Nat) : Met l yX7_keep (Cond.code yX7_keep cX7_keep 3 (some .int) :: TG) ({ frames := 1, cells := 0, slots := 0, locals := 22 }) (va_Pc [.ref (a 0), .int i] (PR G y t (kMod y a th Sr dr pa um im ikp tx ty sn sm at1 pl tk vl fa pf odr gv mk bo bq) sz)) (va_Qi (fun (r : Int32) (u : Unit) => r = (-1)) (fun (u : Unit) t => PO G (va_A (kMod y a th Sr dr pa um im ikp tx ty sn sm at1 pl tk vl fa pf odr gv mk bo bq) sz) (kMod y a (nI 0) Sr dr pa um im ikp tx ty sn sm at1 pl tk vl fa pf odr gv mk bo bq) t) (va_A (kMod y a th Sr dr pa um im ikp tx ty sn sm at1 pl tk vl fa pf odr gv mk bo bq) sz)) 0 0 (va_A (kMod y a th Sr dr pa um im ikp tx ty sn sm at1 pl tk vl fa pf odr gv mk bo bq) sz) := by
  refine kMet (cc := cX7_keep) (maxL := 3) (ret := some .int) (Qc := fun A => va_Qi (fun (r : Int32) (u : Unit) => r = (-1)) (fun (u : Unit) t => PO G A (kMod y a (nI 0) Sr dr pa um im ikp tx ty sn sm at1 pl tk vl fa pf odr gv mk bo bq) t) A) (by decide) rfl (Nat.le_of_ble_eq_true rfl) (fun p e s m below meth c A hsz C hin => ?_)
  refine KW.loc (lv' := [(0, .ref (a 0)), (1, .int i)]) [0, 1] rfl ?_
  refine kw_aload_n C 0 dX7_keep_0 rfl ?_
  refine kw_iconst (v := nI 0) C dX7_keep_1 (by decide) ?_
  refine kw_put (T := TX7) (ty := .int) C 0 0 (kMod y a (nI 0) Sr dr pa um im ikp tx ty sn sm at1 pl tk vl fa pf odr gv mk bo bq) rfl rfl (by decide) (fun w h => mT (fwX7 w h)) tyX7 tyX7_ok nmX7 rfl (mT wd_615) rfl (by decide +kernel) rfl rfl (Nat.le_of_ble_eq_true rfl) dX7_keep_2 rfl ?_
  refine kw_iload_n C 1 dX7_keep_5 rfl ?_
  refine kw_iconst (v := nI 0) C dX7_keep_6 (by decide) ?_
  refine kw_iconst (v := nI 1) C dX7_keep_7 (by decide) ?_
  refine kS_i (As := [.int i, .int (nI 0), .int (nI 1)]) (rest := []) (ws' := fun (u : Unit) => kMod y a (nI 0) Sr dr pa um im ikp tx ty sn sm at1 pl tk vl fa pf odr gv mk bo bq) C (c_X7_in l G y t i (nI 0) (nI 1)) (va_cwS 3 C.2.2.2.2.1 (goodS cT wd_688 wd_686 wd_687 wd_48) rfl rfl rfl (by decide +kernel) ⟨by decide, by decide⟩) [] [0, 1, 2, 3, 4, 5, 6, 7, 8, 9, 10, 11, 12, 13] [0, 1, 2, 3, 4, 5, 6, 7, 8, 9, 10, 11, 12, 13] rfl (by decide) rfl (by decide) (by decide) (fun _ => rfl) (by decide) rfl (Nat.le_of_ble_eq_true rfl) ⟨by decide, by decide⟩ dX7_keep_8 (fun r u hr_1 => ?_)
  subst hr_1
  refine kw_if_ne_D (tgt := 16) C dX7_keep_11 (by decide) (fun c_11 => ?_) (fun c_11 => ?_)
  ·
    exact absurd ((in_R1 (by decide)).mp c_11) hb
  ·
    refine kw_iconst (v := (-1)) C dX7_keep_14 (by decide) ?_
    refine kR_i C () dX7_keep_15 ?_ rfl
    first | rfl | trivial | (simp; done) | omega

set_option maxHeartbeats 4000000 in
set_option maxRecDepth 100000 in
theorem c_X7_keep_ok (l : Launch) (G : va_G) (y : Nat → ClassId) (t : Nat) (a : Nat → Nat) (th : Int32) (Sr : Nat → Int32) (dr : Nat → Int32) (pa : Nat → Int32) (um : Int32) (im : Nat → Int32) (ikp : Nat → Int32) (tx : Nat → Int32) (ty : Int32) (sn : Nat → Int32) (sm : Int32) (at1 : Int32) (pl : Int32) (tk : Int32) (vl : Int32) (fa : Int32) (pf : Nat → Int32) (odr : Nat → Int32) (gv : Nat → Int32) (mk : Nat → Int32) (bo : Nat → Int32) (bq : Nat → Int32) (j : Nat) (hj : j < 2) (sz : Nat) : Met l yX7_keep (Cond.code yX7_keep cX7_keep 3 (some .int) :: TG) ({ frames := 1, cells := 0, slots := 0, locals := 22 }) (va_Pc [.ref (a 0), .int (nI j)] (PR G y t (kMod y a th Sr dr pa um im ikp tx ty sn sm at1 pl tk vl fa pf odr gv mk bo bq) sz)) (va_Qi (fun (r : Int32) (u : Nat → Int32) => r = (Sr 2) ∧ (∀ z, z < 99 → u (99 * j + z) = Sr z) ∧ (∀ z, (z < 99 * j ∨ 99 * j + 99 ≤ z) → u z = im z)) (fun (u : Nat → Int32) t => PO G (va_A (kMod y a th Sr dr pa um im ikp tx ty sn sm at1 pl tk vl fa pf odr gv mk bo bq) sz) (kMod y a (nI 0) Sr dr pa um u (upd ikp j (nI 1)) tx ty sn sm at1 pl tk vl fa pf odr gv mk bo bq) t) (va_A (kMod y a th Sr dr pa um im ikp tx ty sn sm at1 pl tk vl fa pf odr gv mk bo bq) sz)) 0 0 (va_A (kMod y a th Sr dr pa um im ikp tx ty sn sm at1 pl tk vl fa pf odr gv mk bo bq) sz) := by
  refine kMet (cc := cX7_keep) (maxL := 3) (ret := some .int) (Qc := fun A => va_Qi (fun (r : Int32) (u : Nat → Int32) => r = (Sr 2) ∧ (∀ z, z < 99 → u (99 * j + z) = Sr z) ∧ (∀ z, (z < 99 * j ∨ 99 * j + 99 ≤ z) → u z = im z)) (fun (u : Nat → Int32) t => PO G A (kMod y a (nI 0) Sr dr pa um u (upd ikp j (nI 1)) tx ty sn sm at1 pl tk vl fa pf odr gv mk bo bq) t) A) (by decide) rfl (Nat.le_of_ble_eq_true rfl) (fun p e s m below meth c A hsz C hin => ?_)
  refine KW.loc (lv' := [(0, .ref (a 0)), (1, .int (nI j))]) [0, 1] rfl ?_
  refine kw_aload_n C 0 dX7_keep_0 rfl ?_
  refine kw_iconst (v := nI 0) C dX7_keep_1 (by decide) ?_
  refine kw_put (T := TX7) (ty := .int) C 0 0 (kMod y a (nI 0) Sr dr pa um im ikp tx ty sn sm at1 pl tk vl fa pf odr gv mk bo bq) rfl rfl (by decide) (fun w h => mT (fwX7 w h)) tyX7 tyX7_ok nmX7 rfl (mT wd_615) rfl (by decide +kernel) rfl rfl (Nat.le_of_ble_eq_true rfl) dX7_keep_2 rfl ?_
  refine kw_iload_n C 1 dX7_keep_5 rfl ?_
  refine kw_iconst (v := nI 0) C dX7_keep_6 (by decide) ?_
  refine kw_iconst (v := nI 1) C dX7_keep_7 (by decide) ?_
  refine kS_i (As := [.int (nI j), .int (nI 0), .int (nI 1)]) (rest := []) (ws' := fun (u : Unit) => kMod y a (nI 0) Sr dr pa um im ikp tx ty sn sm at1 pl tk vl fa pf odr gv mk bo bq) C (c_X7_in l G y t (nI j) (nI 0) (nI 1)) (va_cwS 3 C.2.2.2.2.1 (goodS cT wd_688 wd_686 wd_687 wd_48) rfl rfl rfl (by decide +kernel) ⟨by decide, by decide⟩) [] [0, 1, 2, 3, 4, 5, 6, 7, 8, 9, 10, 11, 12, 13] [0, 1, 2, 3, 4, 5, 6, 7, 8, 9, 10, 11, 12, 13] rfl (by decide) rfl (by decide) (by decide) (fun _ => rfl) (by decide) rfl (Nat.le_of_ble_eq_true rfl) ⟨by decide, by decide⟩ dX7_keep_8 (fun r u hr_1 => ?_)
  subst hr_1
  refine kw_if_ne_D (tgt := 16) C dX7_keep_11 (by decide) (fun c_11 => ?_) (fun c_11 => ?_)
  ·
    refine kw_iconst (v := nI 0) C dX7_keep_16 (by decide) ?_
    refine kw_istore_n C [(2, .int (nI 0)), (0, .ref (a 0)), (1, .int (nI j))] dX7_keep_17 rfl (by decide) rfl ?_
    have L18_2 : ∀ (nn : Nat) (i : Nat) (f0 : Nat → Int32) (hi : i ≤ 99) (hf0 : ∀ z, z < i → f0 (99 * j + z) = Sr z) (hf1 : ∀ z, (z < 99 * j ∨ 99 * j + i ≤ z) → f0 z = im z) (hms : 99 - i < nn), KW p l e ({ frames := 1, cells := 0, slots := 0, locals := 22 }) s m ([.ref (a 0), .int (nI j)] : List Value).toArray below meth c 0 0 (MQ below (va_Qi (fun (r : Int32) (u : Nat → Int32) => r = (Sr 2) ∧ (∀ z, z < 99 → u (99 * j + z) = Sr z) ∧ (∀ z, (z < 99 * j ∨ 99 * j + 99 ≤ z) → u z = im z)) (fun (u : Nat → Int32) t => PO G A (kMod y a (nI 0) Sr dr pa um u (upd ikp j (nI 1)) tx ty sn sm at1 pl tk vl fa pf odr gv mk bo bq) t) A) ([.ref (a 0), .int (nI j)] : List Value).toArray s 0 0 A) G A 3 (kMod y a (nI 0) Sr dr pa um f0 ikp tx ty sn sm at1 pl tk vl fa pf odr gv mk bo bq) [(2, .int (nI i)), (0, .ref (a 0)), (1, .int (nI j))] 18 [] := by
      intro nn
      induction nn with
      | zero => intro i f0 hi hf0 hf1 hms; exact absurd hms (Nat.not_lt_zero _)
      | succ nn ih_18 =>
        intro i f0 hi hf0 hf1 hms
        refine kw_iload_n C 0 dX7_keep_18 rfl ?_
        refine kw_bipush (v := nI 99) C dX7_keep_19 (by decide) ?_
        refine kw_icmp_ge_N (tgt := 47) C (by omega) (by omega) dX7_keep_21 (by decide) (fun c_21 => ?_) (fun c_21 => ?_)
        ·
          refine kw_aload_n C 1 dX7_keep_47 rfl ?_
          refine kw_get (v := .ref (a 5)) (T := TX7) C 0 6 rfl rfl (by decide) (fun w h => mT (fwX7 w h)) rfl (mT wd_621) rfl dX7_keep_48 ?_
          refine kw_iload_n C 2 dX7_keep_51 rfl ?_
          refine kw_iconst (v := nI 1) C dX7_keep_52 (by decide) ?_
          refine kw_zast C 5 (kMod y a (nI 0) Sr dr pa um f0 (upd ikp j (nI 1)) tx ty sn sm at1 pl tk vl fa pf odr gv mk bo bq) rfl (by omega) (by decide) (by decide) dX7_keep_53 rfl ?_
          refine kw_aload_n C 1 dX7_keep_54 rfl ?_
          refine kw_get (v := .ref (a 1)) (T := TX7) C 0 1 rfl rfl (by decide) (fun w h => mT (fwX7 w h)) rfl (mT wd_616) rfl dX7_keep_55 ?_
          refine kw_iconst (v := nI 2) C dX7_keep_58 (by decide) ?_
          refine kw_iald (f := Sr) C 1 rfl (by omega) (by decide) dX7_keep_59 ?_
          refine kR_i C (f0) dX7_keep_60 ?_ rfl
          have e : i = 99 := by omega
          subst e
          exact ⟨rfl, hf0, hf1⟩
        ·
          refine kw_aload_n C 1 dX7_keep_24 rfl ?_
          refine kw_get (v := .ref (a 4)) (T := TX7) C 0 5 rfl rfl (by decide) (fun w h => mT (fwX7 w h)) rfl (mT wd_620) rfl dX7_keep_25 ?_
          refine kw_bipush (v := nI 99) C dX7_keep_28 (by decide) ?_
          refine kw_iload_n C 2 dX7_keep_30 rfl ?_
          refine kw_imul C dX7_keep_31 (kw_top (pk_mul _ _) ?_)
          refine kw_iload_n C 0 dX7_keep_32 rfl ?_
          refine kw_iadd C dX7_keep_33 (kw_top (nI_add _ _) ?_)
          refine kw_aload_n C 1 dX7_keep_34 rfl ?_
          refine kw_get (v := .ref (a 1)) (T := TX7) C 0 1 rfl rfl (by decide) (fun w h => mT (fwX7 w h)) rfl (mT wd_616) rfl dX7_keep_35 ?_
          refine kw_iload_n C 0 dX7_keep_38 rfl ?_
          refine kw_iald (f := Sr) C 1 rfl (by omega) (by decide) dX7_keep_39 ?_
          refine kw_iast C 4 (kMod y a (nI 0) Sr dr pa um (upd f0 ((99 * j) + i) (Sr i)) ikp tx ty sn sm at1 pl tk vl fa pf odr gv mk bo bq) rfl (by omega) (by decide) dX7_keep_40 rfl ?_
          refine kw_iinc (v := nI (i + 1)) C [(2, .int (nI (i + 1))), (0, .ref (a 0)), (1, .int (nI j))] 0 dX7_keep_41 rfl (nI_1 _) (by decide) rfl ?_
          refine kw_goto (tgt := 18) C dX7_keep_44 (by decide) ?_
          refine KW.loc (lv' := [(2, .int (nI (i + 1))), (0, .ref (a 0)), (1, .int (nI j))]) [0, 1, 2] rfl ?_
          exact ih_18 (i + 1) (upd f0 ((99 * j) + i) (Sr i)) (by first | assumption | omega | (simp; done)) (by intro z hz; rcases Nat.lt_or_ge z i with h | h; rw [pk_un (by omega)]; exact hf0 z h; rw [show z = i from by omega]; exact pk_us) (by intro z hz; rw [pk_un (by omega)]; exact hf1 z (by omega)) (by omega)
    refine KW.loc (lv' := [(2, .int (nI 0)), (0, .ref (a 0)), (1, .int (nI j))]) [0, 1, 2] rfl ?_
    exact L18_2 (99 - 0 + 1) 0 im (by first | assumption | omega | (simp; done)) (by intro z hz; exact absurd hz (Nat.not_lt_zero _)) (by intro z _; rfl) (Nat.lt_succ_self _)
  ·
    exact absurd ((in_R1 (by decide)).mpr (inR_of hj (by decide))) c_11

set_option maxHeartbeats 4000000 in
set_option maxRecDepth 100000 in
theorem c_X7_back_bad (l : Launch) (G : va_G) (y : Nat → ClassId) (t : Nat) (a : Nat → Nat) (th : Int32) (Sr : Nat → Int32) (dr : Nat → Int32) (pa : Nat → Int32) (um : Int32) (im : Nat → Int32) (ikp : Nat → Int32) (tx : Nat → Int32) (ty : Int32) (sn : Nat → Int32) (sm : Int32) (at1 : Int32) (pl : Int32) (tk : Int32) (vl : Int32) (fa : Int32) (pf : Nat → Int32) (odr : Nat → Int32) (gv : Nat → Int32) (mk : Nat → Int32) (bo : Nat → Int32) (bq : Nat → Int32) (i : Int32) (hb : ¬ inR i 2) (sz : Nat) : Met l yX7_back (Cond.code yX7_back cX7_back 3 (some .int) :: TG) ({ frames := 1, cells := 0, slots := 0, locals := 22 }) (va_Pc [.ref (a 0), .int i] (PR G y t (kMod y a th Sr dr pa um im ikp tx ty sn sm at1 pl tk vl fa pf odr gv mk bo bq) sz)) (va_Qi (fun (r : Int32) (u : Unit) => r = (-1)) (fun (u : Unit) t => PO G (va_A (kMod y a th Sr dr pa um im ikp tx ty sn sm at1 pl tk vl fa pf odr gv mk bo bq) sz) (kMod y a (nI 0) Sr dr pa um im ikp tx ty sn sm at1 pl tk vl fa pf odr gv mk bo bq) t) (va_A (kMod y a th Sr dr pa um im ikp tx ty sn sm at1 pl tk vl fa pf odr gv mk bo bq) sz)) 0 0 (va_A (kMod y a th Sr dr pa um im ikp tx ty sn sm at1 pl tk vl fa pf odr gv mk bo bq) sz) := by
  refine kMet (cc := cX7_back) (maxL := 3) (ret := some .int) (Qc := fun A => va_Qi (fun (r : Int32) (u : Unit) => r = (-1)) (fun (u : Unit) t => PO G A (kMod y a (nI 0) Sr dr pa um im ikp tx ty sn sm at1 pl tk vl fa pf odr gv mk bo bq) t) A) (by decide) rfl (Nat.le_of_ble_eq_true rfl) (fun p e s m below meth c A hsz C hin => ?_)
  refine KW.loc (lv' := [(0, .ref (a 0)), (1, .int i)]) [0, 1] rfl ?_
  refine kw_aload_n C 0 dX7_back_0 rfl ?_
  refine kw_iconst (v := nI 0) C dX7_back_1 (by decide) ?_
  refine kw_put (T := TX7) (ty := .int) C 0 0 (kMod y a (nI 0) Sr dr pa um im ikp tx ty sn sm at1 pl tk vl fa pf odr gv mk bo bq) rfl rfl (by decide) (fun w h => mT (fwX7 w h)) tyX7 tyX7_ok nmX7 rfl (mT wd_615) rfl (by decide +kernel) rfl rfl (Nat.le_of_ble_eq_true rfl) dX7_back_2 rfl ?_
  refine kw_iload_n C 1 dX7_back_5 rfl ?_
  refine kw_iconst (v := nI 0) C dX7_back_6 (by decide) ?_
  refine kw_iconst (v := nI 1) C dX7_back_7 (by decide) ?_
  refine kS_i (As := [.int i, .int (nI 0), .int (nI 1)]) (rest := []) (ws' := fun (u : Unit) => kMod y a (nI 0) Sr dr pa um im ikp tx ty sn sm at1 pl tk vl fa pf odr gv mk bo bq) C (c_X7_in l G y t i (nI 0) (nI 1)) (va_cwS 3 C.2.2.2.2.1 (goodS cT wd_688 wd_686 wd_687 wd_48) rfl rfl rfl (by decide +kernel) ⟨by decide, by decide⟩) [] [0, 1, 2, 3, 4, 5, 6, 7, 8, 9, 10, 11, 12, 13] [0, 1, 2, 3, 4, 5, 6, 7, 8, 9, 10, 11, 12, 13] rfl (by decide) rfl (by decide) (by decide) (fun _ => rfl) (by decide) rfl (Nat.le_of_ble_eq_true rfl) ⟨by decide, by decide⟩ dX7_back_8 (fun r u hr_1 => ?_)
  subst hr_1
  refine kw_if_ne_D (tgt := 16) C dX7_back_11 (by decide) (fun c_11 => ?_) (fun c_11 => ?_)
  ·
    exact absurd ((in_R1 (by decide)).mp c_11) hb
  ·
    refine kw_iconst (v := (-1)) C dX7_back_14 (by decide) ?_
    refine kR_i C () dX7_back_15 ?_ rfl
    first | rfl | trivial | (simp; done) | omega

set_option maxHeartbeats 4000000 in
set_option maxRecDepth 100000 in
theorem c_X7_back_none (l : Launch) (G : va_G) (y : Nat → ClassId) (t : Nat) (a : Nat → Nat) (th : Int32) (Sr : Nat → Int32) (dr : Nat → Int32) (pa : Nat → Int32) (um : Int32) (im : Nat → Int32) (ikp : Nat → Int32) (tx : Nat → Int32) (ty : Int32) (sn : Nat → Int32) (sm : Int32) (at1 : Int32) (pl : Int32) (tk : Int32) (vl : Int32) (fa : Int32) (pf : Nat → Int32) (odr : Nat → Int32) (gv : Nat → Int32) (mk : Nat → Int32) (bo : Nat → Int32) (bq : Nat → Int32) (j : Nat) (hj : j < 2) (hkp : ikp j = nI 0) (sz : Nat) : Met l yX7_back (Cond.code yX7_back cX7_back 3 (some .int) :: TG) ({ frames := 1, cells := 0, slots := 0, locals := 22 }) (va_Pc [.ref (a 0), .int (nI j)] (PR G y t (kMod y a th Sr dr pa um im ikp tx ty sn sm at1 pl tk vl fa pf odr gv mk bo bq) sz)) (va_Qi (fun (r : Int32) (u : Unit) => r = (-2)) (fun (u : Unit) t => PO G (va_A (kMod y a th Sr dr pa um im ikp tx ty sn sm at1 pl tk vl fa pf odr gv mk bo bq) sz) (kMod y a (nI 0) Sr dr pa um im ikp tx ty sn sm at1 pl tk vl fa pf odr gv mk bo bq) t) (va_A (kMod y a th Sr dr pa um im ikp tx ty sn sm at1 pl tk vl fa pf odr gv mk bo bq) sz)) 0 0 (va_A (kMod y a th Sr dr pa um im ikp tx ty sn sm at1 pl tk vl fa pf odr gv mk bo bq) sz) := by
  refine kMet (cc := cX7_back) (maxL := 3) (ret := some .int) (Qc := fun A => va_Qi (fun (r : Int32) (u : Unit) => r = (-2)) (fun (u : Unit) t => PO G A (kMod y a (nI 0) Sr dr pa um im ikp tx ty sn sm at1 pl tk vl fa pf odr gv mk bo bq) t) A) (by decide) rfl (Nat.le_of_ble_eq_true rfl) (fun p e s m below meth c A hsz C hin => ?_)
  refine KW.loc (lv' := [(0, .ref (a 0)), (1, .int (nI j))]) [0, 1] rfl ?_
  refine kw_aload_n C 0 dX7_back_0 rfl ?_
  refine kw_iconst (v := nI 0) C dX7_back_1 (by decide) ?_
  refine kw_put (T := TX7) (ty := .int) C 0 0 (kMod y a (nI 0) Sr dr pa um im ikp tx ty sn sm at1 pl tk vl fa pf odr gv mk bo bq) rfl rfl (by decide) (fun w h => mT (fwX7 w h)) tyX7 tyX7_ok nmX7 rfl (mT wd_615) rfl (by decide +kernel) rfl rfl (Nat.le_of_ble_eq_true rfl) dX7_back_2 rfl ?_
  refine kw_iload_n C 1 dX7_back_5 rfl ?_
  refine kw_iconst (v := nI 0) C dX7_back_6 (by decide) ?_
  refine kw_iconst (v := nI 1) C dX7_back_7 (by decide) ?_
  refine kS_i (As := [.int (nI j), .int (nI 0), .int (nI 1)]) (rest := []) (ws' := fun (u : Unit) => kMod y a (nI 0) Sr dr pa um im ikp tx ty sn sm at1 pl tk vl fa pf odr gv mk bo bq) C (c_X7_in l G y t (nI j) (nI 0) (nI 1)) (va_cwS 3 C.2.2.2.2.1 (goodS cT wd_688 wd_686 wd_687 wd_48) rfl rfl rfl (by decide +kernel) ⟨by decide, by decide⟩) [] [0, 1, 2, 3, 4, 5, 6, 7, 8, 9, 10, 11, 12, 13] [0, 1, 2, 3, 4, 5, 6, 7, 8, 9, 10, 11, 12, 13] rfl (by decide) rfl (by decide) (by decide) (fun _ => rfl) (by decide) rfl (Nat.le_of_ble_eq_true rfl) ⟨by decide, by decide⟩ dX7_back_8 (fun r u hr_1 => ?_)
  subst hr_1
  refine kw_if_ne_D (tgt := 16) C dX7_back_11 (by decide) (fun c_11 => ?_) (fun c_11 => ?_)
  ·
    refine kw_aload_n C 0 dX7_back_16 rfl ?_
    refine kw_get (v := .ref (a 5)) (T := TX7) C 0 6 rfl rfl (by decide) (fun w h => mT (fwX7 w h)) rfl (mT wd_621) rfl dX7_back_17 ?_
    refine kw_iload_n C 1 dX7_back_20 rfl ?_
    refine kw_zald (f := ikp) C 5 rfl (by omega) (by decide) dX7_back_21 ?_
    refine kw_top (show (ikp j) = (nI 0) from by exact hkp) ?_
    refine kw_if_ne_N (tgt := 28) C (by omega) dX7_back_22 (by decide) (fun c_22 => ?_) (fun c_22 => ?_)
    ·
      omega
    ·
      refine kw_bipush (v := (-2)) C dX7_back_25 (by decide) ?_
      refine kR_i C () dX7_back_27 ?_ rfl
      first | rfl | trivial | (simp; done) | omega
  ·
    exact absurd ((in_R1 (by decide)).mpr (inR_of hj (by decide))) c_11

set_option maxHeartbeats 4000000 in
set_option maxRecDepth 100000 in
theorem c_X7_back_ok (l : Launch) (G : va_G) (y : Nat → ClassId) (t : Nat) (a : Nat → Nat) (th : Int32) (Sr : Nat → Int32) (dr : Nat → Int32) (pa : Nat → Int32) (um : Int32) (im : Nat → Int32) (ikp : Nat → Int32) (tx : Nat → Int32) (ty : Int32) (sn : Nat → Int32) (sm : Int32) (at1 : Int32) (pl : Int32) (tk : Int32) (vl : Int32) (fa : Int32) (pf : Nat → Int32) (odr : Nat → Int32) (gv : Nat → Int32) (mk : Nat → Int32) (bo : Nat → Int32) (bq : Nat → Int32) (j : Nat) (hj : j < 2) (hkp : ikp j = nI 1) (sz : Nat) : Met l yX7_back (Cond.code yX7_back cX7_back 3 (some .int) :: TG) ({ frames := 1, cells := 0, slots := 0, locals := 22 }) (va_Pc [.ref (a 0), .int (nI j)] (PR G y t (kMod y a th Sr dr pa um im ikp tx ty sn sm at1 pl tk vl fa pf odr gv mk bo bq) sz)) (va_Qi (fun (r : Int32) (u : Nat → Int32) => r = (u 2) ∧ ∀ z, z < 99 → u z = im (99 * j + z)) (fun (u : Nat → Int32) t => PO G (va_A (kMod y a th Sr dr pa um im ikp tx ty sn sm at1 pl tk vl fa pf odr gv mk bo bq) sz) (kMod y a (nI 0) u dr pa (nI 0) im ikp tx ty sn sm at1 pl tk vl fa pf odr gv mk bo bq) t) (va_A (kMod y a th Sr dr pa um im ikp tx ty sn sm at1 pl tk vl fa pf odr gv mk bo bq) sz)) 0 0 (va_A (kMod y a th Sr dr pa um im ikp tx ty sn sm at1 pl tk vl fa pf odr gv mk bo bq) sz) := by
  refine kMet (cc := cX7_back) (maxL := 3) (ret := some .int) (Qc := fun A => va_Qi (fun (r : Int32) (u : Nat → Int32) => r = (u 2) ∧ ∀ z, z < 99 → u z = im (99 * j + z)) (fun (u : Nat → Int32) t => PO G A (kMod y a (nI 0) u dr pa (nI 0) im ikp tx ty sn sm at1 pl tk vl fa pf odr gv mk bo bq) t) A) (by decide) rfl (Nat.le_of_ble_eq_true rfl) (fun p e s m below meth c A hsz C hin => ?_)
  refine KW.loc (lv' := [(0, .ref (a 0)), (1, .int (nI j))]) [0, 1] rfl ?_
  refine kw_aload_n C 0 dX7_back_0 rfl ?_
  refine kw_iconst (v := nI 0) C dX7_back_1 (by decide) ?_
  refine kw_put (T := TX7) (ty := .int) C 0 0 (kMod y a (nI 0) Sr dr pa um im ikp tx ty sn sm at1 pl tk vl fa pf odr gv mk bo bq) rfl rfl (by decide) (fun w h => mT (fwX7 w h)) tyX7 tyX7_ok nmX7 rfl (mT wd_615) rfl (by decide +kernel) rfl rfl (Nat.le_of_ble_eq_true rfl) dX7_back_2 rfl ?_
  refine kw_iload_n C 1 dX7_back_5 rfl ?_
  refine kw_iconst (v := nI 0) C dX7_back_6 (by decide) ?_
  refine kw_iconst (v := nI 1) C dX7_back_7 (by decide) ?_
  refine kS_i (As := [.int (nI j), .int (nI 0), .int (nI 1)]) (rest := []) (ws' := fun (u : Unit) => kMod y a (nI 0) Sr dr pa um im ikp tx ty sn sm at1 pl tk vl fa pf odr gv mk bo bq) C (c_X7_in l G y t (nI j) (nI 0) (nI 1)) (va_cwS 3 C.2.2.2.2.1 (goodS cT wd_688 wd_686 wd_687 wd_48) rfl rfl rfl (by decide +kernel) ⟨by decide, by decide⟩) [] [0, 1, 2, 3, 4, 5, 6, 7, 8, 9, 10, 11, 12, 13] [0, 1, 2, 3, 4, 5, 6, 7, 8, 9, 10, 11, 12, 13] rfl (by decide) rfl (by decide) (by decide) (fun _ => rfl) (by decide) rfl (Nat.le_of_ble_eq_true rfl) ⟨by decide, by decide⟩ dX7_back_8 (fun r u hr_1 => ?_)
  subst hr_1
  refine kw_if_ne_D (tgt := 16) C dX7_back_11 (by decide) (fun c_11 => ?_) (fun c_11 => ?_)
  ·
    refine kw_aload_n C 0 dX7_back_16 rfl ?_
    refine kw_get (v := .ref (a 5)) (T := TX7) C 0 6 rfl rfl (by decide) (fun w h => mT (fwX7 w h)) rfl (mT wd_621) rfl dX7_back_17 ?_
    refine kw_iload_n C 1 dX7_back_20 rfl ?_
    refine kw_zald (f := ikp) C 5 rfl (by omega) (by decide) dX7_back_21 ?_
    refine kw_top (show (ikp j) = (nI 1) from by exact hkp) ?_
    refine kw_if_ne_N (tgt := 28) C (by omega) dX7_back_22 (by decide) (fun c_22 => ?_) (fun c_22 => ?_)
    ·
      refine kw_iconst (v := nI 0) C dX7_back_28 (by decide) ?_
      refine kw_istore_n C [(2, .int (nI 0)), (0, .ref (a 0)), (1, .int (nI j))] dX7_back_29 rfl (by decide) rfl ?_
      have L30_2 : ∀ (nn : Nat) (i : Nat) (f0 : Nat → Int32) (hi : i ≤ 99) (hf0 : ∀ z, z < i → f0 z = im (99 * j + z)) (hms : 99 - i < nn), KW p l e ({ frames := 1, cells := 0, slots := 0, locals := 22 }) s m ([.ref (a 0), .int (nI j)] : List Value).toArray below meth c 0 0 (MQ below (va_Qi (fun (r : Int32) (u : Nat → Int32) => r = (u 2) ∧ ∀ z, z < 99 → u z = im (99 * j + z)) (fun (u : Nat → Int32) t => PO G A (kMod y a (nI 0) u dr pa (nI 0) im ikp tx ty sn sm at1 pl tk vl fa pf odr gv mk bo bq) t) A) ([.ref (a 0), .int (nI j)] : List Value).toArray s 0 0 A) G A 3 (kMod y a (nI 0) f0 dr pa um im ikp tx ty sn sm at1 pl tk vl fa pf odr gv mk bo bq) [(2, .int (nI i)), (0, .ref (a 0)), (1, .int (nI j))] 30 [] := by
        intro nn
        induction nn with
        | zero => intro i f0 hi hf0 hms; exact absurd hms (Nat.not_lt_zero _)
        | succ nn ih_30 =>
          intro i f0 hi hf0 hms
          refine kw_iload_n C 0 dX7_back_30 rfl ?_
          refine kw_bipush (v := nI 99) C dX7_back_31 (by decide) ?_
          refine kw_icmp_ge_N (tgt := 59) C (by omega) (by omega) dX7_back_33 (by decide) (fun c_33 => ?_) (fun c_33 => ?_)
          ·
            refine kw_aload_n C 1 dX7_back_59 rfl ?_
            refine kw_iconst (v := nI 0) C dX7_back_60 (by decide) ?_
            refine kw_put (T := TX7) (ty := .int) C 0 4 (kMod y a (nI 0) f0 dr pa (nI 0) im ikp tx ty sn sm at1 pl tk vl fa pf odr gv mk bo bq) rfl rfl (by decide) (fun w h => mT (fwX7 w h)) tyX7 tyX7_ok nmX7 rfl (mT wd_619) rfl (by decide +kernel) rfl rfl (Nat.le_of_ble_eq_true rfl) dX7_back_61 rfl ?_
            refine kw_aload_n C 1 dX7_back_64 rfl ?_
            refine kw_get (v := .ref (a 1)) (T := TX7) C 0 1 rfl rfl (by decide) (fun w h => mT (fwX7 w h)) rfl (mT wd_616) rfl dX7_back_65 ?_
            refine kw_iconst (v := nI 2) C dX7_back_68 (by decide) ?_
            refine kw_iald (f := f0) C 1 rfl (by omega) (by decide) dX7_back_69 ?_
            refine kR_i C (f0) dX7_back_70 ?_ rfl
            exact ⟨rfl, fun z hz => hf0 z (by omega)⟩
          ·
            refine kw_aload_n C 1 dX7_back_36 rfl ?_
            refine kw_get (v := .ref (a 1)) (T := TX7) C 0 1 rfl rfl (by decide) (fun w h => mT (fwX7 w h)) rfl (mT wd_616) rfl dX7_back_37 ?_
            refine kw_iload_n C 0 dX7_back_40 rfl ?_
            refine kw_aload_n C 1 dX7_back_41 rfl ?_
            refine kw_get (v := .ref (a 4)) (T := TX7) C 0 5 rfl rfl (by decide) (fun w h => mT (fwX7 w h)) rfl (mT wd_620) rfl dX7_back_42 ?_
            refine kw_bipush (v := nI 99) C dX7_back_45 (by decide) ?_
            refine kw_iload_n C 2 dX7_back_47 rfl ?_
            refine kw_imul C dX7_back_48 (kw_top (pk_mul _ _) ?_)
            refine kw_iload_n C 0 dX7_back_49 rfl ?_
            refine kw_iadd C dX7_back_50 (kw_top (nI_add _ _) ?_)
            refine kw_iald (f := im) C 4 rfl (by omega) (by decide) dX7_back_51 ?_
            refine kw_iast C 1 (kMod y a (nI 0) (upd f0 i (im ((99 * j) + i))) dr pa um im ikp tx ty sn sm at1 pl tk vl fa pf odr gv mk bo bq) rfl (by omega) (by decide) dX7_back_52 rfl ?_
            refine kw_iinc (v := nI (i + 1)) C [(2, .int (nI (i + 1))), (0, .ref (a 0)), (1, .int (nI j))] 0 dX7_back_53 rfl (nI_1 _) (by decide) rfl ?_
            refine kw_goto (tgt := 30) C dX7_back_56 (by decide) ?_
            refine KW.loc (lv' := [(2, .int (nI (i + 1))), (0, .ref (a 0)), (1, .int (nI j))]) [0, 1, 2] rfl ?_
            exact ih_30 (i + 1) (upd f0 i (im ((99 * j) + i))) (by first | assumption | omega | (simp; done)) (by intro z hz; rcases Nat.lt_or_ge z i with h | h; rw [pk_un (by omega)]; exact hf0 z h; rw [show z = i from by omega]; exact pk_us) (by omega)
      refine KW.loc (lv' := [(2, .int (nI 0)), (0, .ref (a 0)), (1, .int (nI j))]) [0, 1, 2] rfl ?_
      exact L30_2 (99 - 0 + 1) 0 Sr (by first | assumption | omega | (simp; done)) (by intro z hz; exact absurd hz (Nat.not_lt_zero _)) (Nat.lt_succ_self _)
    ·
      omega
  ·
    exact absurd ((in_R1 (by decide)).mpr (inR_of hj (by decide))) c_11

set_option maxHeartbeats 4000000 in
set_option maxRecDepth 100000 in
theorem c_X7_carves_bad (l : Launch) (G : va_G) (y : Nat → ClassId) (t : Nat) (a : Nat → Nat) (th : Int32) (Sr : Nat → Int32) (dr : Nat → Int32) (pa : Nat → Int32) (um : Int32) (im : Nat → Int32) (ikp : Nat → Int32) (tx : Nat → Int32) (ty : Int32) (sn : Nat → Int32) (sm : Int32) (at1 : Int32) (pl : Int32) (tk : Int32) (vl : Int32) (fa : Int32) (pf : Nat → Int32) (odr : Nat → Int32) (gv : Nat → Int32) (mk : Nat → Int32) (bo : Nat → Int32) (bq : Nat → Int32) (i : Int32) (x : Int32) (z : Int32) (W : Nat) (H : Nat) (N : Nat) (pcl : Nat → Nat) (ik : Nat → Nat) (o : Nat → Nat) (bk : Nat → Nat) (kk : Nat → Nat) (hR : RowOk Sr W H N pcl ik o bk kk) (hb : ¬ (inR i N ∧ inR x W ∧ inR z H)) (sz : Nat) : Met l yX7_carves (Cond.code yX7_carves cX7_carves 4 (some .int) :: TG) ({ frames := 2, cells := 0, slots := 0, locals := 44 }) (va_Pc [.ref (a 0), .int i, .int x, .int z] (PR G y t (kMod y a th Sr dr pa um im ikp tx ty sn sm at1 pl tk vl fa pf odr gv mk bo bq) sz)) (va_Qi (fun (r : Int32) (u : Unit) => r = (-1)) (fun (u : Unit) t => PO G (va_A (kMod y a th Sr dr pa um im ikp tx ty sn sm at1 pl tk vl fa pf odr gv mk bo bq) sz) (kMod y a (nI 0) Sr dr pa um im ikp tx ty sn sm at1 pl tk vl fa pf odr gv mk bo bq) t) (va_A (kMod y a th Sr dr pa um im ikp tx ty sn sm at1 pl tk vl fa pf odr gv mk bo bq) sz)) 0 0 (va_A (kMod y a th Sr dr pa um im ikp tx ty sn sm at1 pl tk vl fa pf odr gv mk bo bq) sz) := by
  refine kMet (cc := cX7_carves) (maxL := 4) (ret := some .int) (Qc := fun A => va_Qi (fun (r : Int32) (u : Unit) => r = (-1)) (fun (u : Unit) t => PO G A (kMod y a (nI 0) Sr dr pa um im ikp tx ty sn sm at1 pl tk vl fa pf odr gv mk bo bq) t) A) (by decide) rfl (Nat.le_of_ble_eq_true rfl) (fun p e s m below meth c A hsz C hin => ?_)
  obtain ⟨hS0, hS1, hS2, hW, hH, hN, hpic, hink, hord, hblk, hdx⟩ := id hR
  refine KW.loc (lv' := [(0, .ref (a 0)), (1, .int i), (2, .int x), (3, .int z)]) [0, 1, 2, 3] rfl ?_
  refine kw_aload_n C 0 dX7_carves_0 rfl ?_
  refine kw_iconst (v := nI 0) C dX7_carves_1 (by decide) ?_
  refine kw_put (T := TX7) (ty := .int) C 0 0 (kMod y a (nI 0) Sr dr pa um im ikp tx ty sn sm at1 pl tk vl fa pf odr gv mk bo bq) rfl rfl (by decide) (fun w h => mT (fwX7 w h)) tyX7 tyX7_ok nmX7 rfl (mT wd_615) rfl (by decide +kernel) rfl rfl (Nat.le_of_ble_eq_true rfl) dX7_carves_2 rfl ?_
  refine kw_aload_n C 0 dX7_carves_5 rfl ?_
  refine kw_iload_n C 1 dX7_carves_6 rfl ?_
  refine kV_i (As := [.int i]) (rest := []) (ws' := fun (u : Unit) => kMod y a (nI 0) Sr dr pa um im ikp tx ty sn sm at1 pl tk vl fa pf odr gv mk bo bq) C (c_X7_isInk l G y t a (nI 0) Sr dr pa um im ikp tx ty sn sm at1 pl tk vl fa pf odr gv mk bo bq i W H N pcl ik o bk kk (by first | assumption | omega | decide)) (cwV 1 C.2.2.2.2.1 (goodV cT wd_766 wd_763 wd_765 wd_26 wd_48) rfl rfl rfl (by decide +kernel) ⟨by decide, by decide⟩) [0, 1, 2, 3, 4, 5, 6, 7, 8, 9, 10, 11, 12, 13] [] [0, 1, 2, 3, 4, 5, 6, 7, 8, 9, 10, 11, 12, 13] rfl (by decide) rfl (by decide) (by decide) (fun _ => rfl) (by decide) 0 rfl rfl rfl (Nat.le_of_ble_eq_true rfl) ⟨by decide, by decide⟩ dX7_carves_7 (fun r u hr_1 => ?_)
  subst hr_1
  refine kw_if_eq_D (tgt := 22) C dX7_carves_10 (by decide) (fun c_10 => ?_) (fun c_10 => ?_)
  ·
    refine kw_iconst (v := (-1)) C dX7_carves_22 (by decide) ?_
    refine kR_i C () dX7_carves_23 ?_ rfl
    first | rfl | trivial | (simp; done) | omega
  ·
    refine kw_aload_n C 0 dX7_carves_13 rfl ?_
    refine kw_iload_n C 2 dX7_carves_14 rfl ?_
    refine kw_iload_n C 3 dX7_carves_15 rfl ?_
    refine kV_i (As := [.int x, .int z]) (rest := []) (ws' := fun (u : Unit) => kMod y a (nI 0) Sr dr pa um im ikp tx ty sn sm at1 pl tk vl fa pf odr gv mk bo bq) C (c_X7_isCell l G y t a (nI 0) Sr dr pa um im ikp tx ty sn sm at1 pl tk vl fa pf odr gv mk bo bq x z W H N pcl ik o bk kk (by first | assumption | omega | decide)) (cwV 2 C.2.2.2.2.1 (goodV cT wd_770 wd_767 wd_769 wd_27 wd_48) rfl rfl rfl (by decide +kernel) ⟨by decide, by decide⟩) [0, 1, 2, 3, 4, 5, 6, 7, 8, 9, 10, 11, 12, 13] [] [0, 1, 2, 3, 4, 5, 6, 7, 8, 9, 10, 11, 12, 13] rfl (by decide) rfl (by decide) (by decide) (fun _ => rfl) (by decide) 0 rfl rfl rfl (Nat.le_of_ble_eq_true rfl) ⟨by decide, by decide⟩ dX7_carves_16 (fun r u hr_2 => ?_)
    subst hr_2
    refine kw_if_ne_D (tgt := 24) C dX7_carves_19 (by decide) (fun c_19 => ?_) (fun c_19 => ?_)
    ·
      exact absurd ⟨c_10, c_19.1, c_19.2⟩ hb
    ·
      refine kw_iconst (v := (-1)) C dX7_carves_22 (by decide) ?_
      refine kR_i C () dX7_carves_23 ?_ rfl
      first | rfl | trivial | (simp; done) | omega

set_option maxHeartbeats 4000000 in
set_option maxRecDepth 100000 in
theorem c_X7_carves_ok (l : Launch) (G : va_G) (y : Nat → ClassId) (t : Nat) (a : Nat → Nat) (th : Int32) (Sr : Nat → Int32) (dr : Nat → Int32) (pa : Nat → Int32) (im : Nat → Int32) (ikp : Nat → Int32) (tx : Nat → Int32) (ty : Int32) (sn : Nat → Int32) (sm : Int32) (at1 : Int32) (pl : Int32) (tk : Int32) (vl : Int32) (fa : Int32) (pf : Nat → Int32) (odr : Nat → Int32) (gv : Nat → Int32) (mk : Nat → Int32) (bo : Nat → Int32) (bq : Nat → Int32) (U : Nat) (ii : Nat) (xx : Nat) (zz : Nat) (W : Nat) (H : Nat) (N : Nat) (pcl : Nat → Nat) (ik : Nat → Nat) (o : Nat → Nat) (bk : Nat → Nat) (kk : Nat → Nat) (hR : RowOk Sr W H N pcl ik o bk kk) (hU : U ≤ 6) (hii : ii < N) (hxx : xx < W) (hzz : zz < H) (sz : Nat) : Met l yX7_carves (Cond.code yX7_carves cX7_carves 4 (some .int) :: TG) ({ frames := 2, cells := 0, slots := 0, locals := 44 }) (va_Pc [.ref (a 0), .int (nI ii), .int (nI xx), .int (nI zz)] (PR G y t (kMod y a th Sr dr pa (nI U) im ikp tx ty sn sm at1 pl tk vl fa pf odr gv mk bo bq) sz)) (va_Qi (fun (r : Int32) (u : (Nat → Int32) × Nat) => r = (nI (if (bk (6 * ii + zz) ^^^ 2 ^ xx).testBit xx then 1 else 0)) ∧ (U < 6 → u.2 = U + 1 ∧ (∀ j, j < 99 * U → u.1 j = pa j) ∧ (∀ j, j < 99 → u.1 (99 * U + j) = Sr j)) ∧ (U = 6 → u.2 = 6 ∧ (∀ j, j < 495 → u.1 j = pa (99 + j)) ∧ (∀ j, j < 99 → u.1 (495 + j) = Sr j))) (fun (u : (Nat → Int32) × Nat) t => PO G (va_A (kMod y a th Sr dr pa (nI U) im ikp tx ty sn sm at1 pl tk vl fa pf odr gv mk bo bq) sz) (kMod y a (nI 0) (upd Sr (51 + 6 * ii + zz) (nI (bk (6 * ii + zz) ^^^ 2 ^ xx))) dr u.1 (nI u.2) im ikp tx ty sn sm at1 pl tk vl fa pf odr gv mk bo bq) t) (va_A (kMod y a th Sr dr pa (nI U) im ikp tx ty sn sm at1 pl tk vl fa pf odr gv mk bo bq) sz)) 0 0 (va_A (kMod y a th Sr dr pa (nI U) im ikp tx ty sn sm at1 pl tk vl fa pf odr gv mk bo bq) sz) := by
  refine kMet (cc := cX7_carves) (maxL := 4) (ret := some .int) (Qc := fun A => va_Qi (fun (r : Int32) (u : (Nat → Int32) × Nat) => r = (nI (if (bk (6 * ii + zz) ^^^ 2 ^ xx).testBit xx then 1 else 0)) ∧ (U < 6 → u.2 = U + 1 ∧ (∀ j, j < 99 * U → u.1 j = pa j) ∧ (∀ j, j < 99 → u.1 (99 * U + j) = Sr j)) ∧ (U = 6 → u.2 = 6 ∧ (∀ j, j < 495 → u.1 j = pa (99 + j)) ∧ (∀ j, j < 99 → u.1 (495 + j) = Sr j))) (fun (u : (Nat → Int32) × Nat) t => PO G A (kMod y a (nI 0) (upd Sr (51 + 6 * ii + zz) (nI (bk (6 * ii + zz) ^^^ 2 ^ xx))) dr u.1 (nI u.2) im ikp tx ty sn sm at1 pl tk vl fa pf odr gv mk bo bq) t) A) (by decide) rfl (Nat.le_of_ble_eq_true rfl) (fun p e s m below meth c A hsz C hin => ?_)
  obtain ⟨hS0, hS1, hS2, hW, hH, hN, hpic, hink, hord, hblk, hdx⟩ := id hR
  refine KW.loc (lv' := [(0, .ref (a 0)), (1, .int (nI ii)), (2, .int (nI xx)), (3, .int (nI zz))]) [0, 1, 2, 3] rfl ?_
  refine kw_aload_n C 0 dX7_carves_0 rfl ?_
  refine kw_iconst (v := nI 0) C dX7_carves_1 (by decide) ?_
  refine kw_put (T := TX7) (ty := .int) C 0 0 (kMod y a (nI 0) Sr dr pa (nI U) im ikp tx ty sn sm at1 pl tk vl fa pf odr gv mk bo bq) rfl rfl (by decide) (fun w h => mT (fwX7 w h)) tyX7 tyX7_ok nmX7 rfl (mT wd_615) rfl (by decide +kernel) rfl rfl (Nat.le_of_ble_eq_true rfl) dX7_carves_2 rfl ?_
  refine kw_aload_n C 0 dX7_carves_5 rfl ?_
  refine kw_iload_n C 1 dX7_carves_6 rfl ?_
  refine kV_i (As := [.int (nI ii)]) (rest := []) (ws' := fun (u : Unit) => kMod y a (nI 0) Sr dr pa (nI U) im ikp tx ty sn sm at1 pl tk vl fa pf odr gv mk bo bq) C (c_X7_isInk l G y t a (nI 0) Sr dr pa (nI U) im ikp tx ty sn sm at1 pl tk vl fa pf odr gv mk bo bq (nI ii) W H N pcl ik o bk kk (by first | assumption | omega | decide)) (cwV 1 C.2.2.2.2.1 (goodV cT wd_766 wd_763 wd_765 wd_26 wd_48) rfl rfl rfl (by decide +kernel) ⟨by decide, by decide⟩) [0, 1, 2, 3, 4, 5, 6, 7, 8, 9, 10, 11, 12, 13] [] [0, 1, 2, 3, 4, 5, 6, 7, 8, 9, 10, 11, 12, 13] rfl (by decide) rfl (by decide) (by decide) (fun _ => rfl) (by decide) 0 rfl rfl rfl (Nat.le_of_ble_eq_true rfl) ⟨by decide, by decide⟩ dX7_carves_7 (fun r u hr_1 => ?_)
  subst hr_1
  refine kw_if_eq_D (tgt := 22) C dX7_carves_10 (by decide) (fun c_10 => ?_) (fun c_10 => ?_)
  ·
    exact absurd (inR_of hii (by omega)) c_10
  ·
    refine kw_aload_n C 0 dX7_carves_13 rfl ?_
    refine kw_iload_n C 2 dX7_carves_14 rfl ?_
    refine kw_iload_n C 3 dX7_carves_15 rfl ?_
    refine kV_i (As := [.int (nI xx), .int (nI zz)]) (rest := []) (ws' := fun (u : Unit) => kMod y a (nI 0) Sr dr pa (nI U) im ikp tx ty sn sm at1 pl tk vl fa pf odr gv mk bo bq) C (c_X7_isCell l G y t a (nI 0) Sr dr pa (nI U) im ikp tx ty sn sm at1 pl tk vl fa pf odr gv mk bo bq (nI xx) (nI zz) W H N pcl ik o bk kk (by first | assumption | omega | decide)) (cwV 2 C.2.2.2.2.1 (goodV cT wd_770 wd_767 wd_769 wd_27 wd_48) rfl rfl rfl (by decide +kernel) ⟨by decide, by decide⟩) [0, 1, 2, 3, 4, 5, 6, 7, 8, 9, 10, 11, 12, 13] [] [0, 1, 2, 3, 4, 5, 6, 7, 8, 9, 10, 11, 12, 13] rfl (by decide) rfl (by decide) (by decide) (fun _ => rfl) (by decide) 0 rfl rfl rfl (Nat.le_of_ble_eq_true rfl) ⟨by decide, by decide⟩ dX7_carves_16 (fun r u hr_2 => ?_)
    subst hr_2
    refine kw_if_ne_D (tgt := 24) C dX7_carves_19 (by decide) (fun c_19 => ?_) (fun c_19 => ?_)
    ·
      refine kw_aload_n C 0 dX7_carves_24 rfl ?_
      refine kV_v (As := []) (rest := []) (ws' := fun (u : (Nat → Int32) × Nat) => kMod y a (nI 0) Sr dr u.1 (nI u.2) im ikp tx ty sn sm at1 pl tk vl fa pf odr gv mk bo bq) C (c_X7_notes l G y t a (nI 0) Sr dr pa im ikp tx ty sn sm at1 pl tk vl fa pf odr gv mk bo bq U (by first | assumption | omega | decide)) (cwV 0 C.2.2.2.2.1 (goodV cT wd_728 wd_725 wd_727 wd_20 wd_48) rfl rfl rfl (by decide +kernel) ⟨by decide, by decide⟩) [0, 1, 2, 3, 4, 5, 6, 7, 8, 9, 10, 11, 12, 13] [] [0, 1, 2, 3, 4, 5, 6, 7, 8, 9, 10, 11, 12, 13] rfl (by decide) rfl (by decide) (by decide) (fun _ => rfl) (by decide) 0 rfl rfl rfl (Nat.le_of_ble_eq_true rfl) ⟨by decide, by decide⟩ dX7_carves_25 (fun u hr_5 => ?_)
      obtain ⟨pa1_3, U1_4⟩ := u
      try dsimp only at hr_5
      have hpo := hr_5
      refine kw_aload_n C 0 dX7_carves_28 rfl ?_
      refine kw_get (v := .ref (a 1)) (T := TX7) C 0 1 rfl rfl (by decide) (fun w h => mT (fwX7 w h)) rfl (mT wd_616) rfl dX7_carves_29 ?_
      refine kw_bipush (v := nI 51) C dX7_carves_32 (by decide) ?_
      refine kw_bipush (v := nI 6) C dX7_carves_34 (by decide) ?_
      refine kw_iload_n C 1 dX7_carves_36 rfl ?_
      refine kw_imul C dX7_carves_37 (kw_top (pk_mul _ _) ?_)
      refine kw_iadd C dX7_carves_38 (kw_top (nI_add _ _) ?_)
      refine kw_iload_n C 3 dX7_carves_39 rfl ?_
      refine kw_iadd C dX7_carves_40 (kw_top (nI_add _ _) ?_)
      refine kw_dup2_11 C dX7_carves_41 rfl rfl ?_
      refine kw_iald (f := Sr) C 1 rfl (by omega) (by decide) dX7_carves_42 ?_
      refine kw_top (show (Sr ((51 + (6 * ii)) + zz)) = (nI (bk (6 * (ii) + (zz)))) from by exact (hblk (ii) (zz) (by first | assumption | omega) (by first | assumption | omega)).1) ?_
      have hl_42 := (hblk (ii) (zz) (by first | assumption | omega) (by first | assumption | omega)).2
      refine kw_iconst (v := nI 1) C dX7_carves_43 (by decide) ?_
      refine kw_iload_n C 2 dX7_carves_44 rfl ?_
      refine kw_ishl C dX7_carves_45 (kw_top (n_shl1 (by omega)) ?_)
      refine kw_ixor C dX7_carves_46 (kw_top (n_xor _ _) ?_)
      have hx64 : bk (6 * ii + zz) ^^^ 2 ^ xx < 64 := Nat.xor_lt_two_pow (n := 6) hl_42 (pw2lt (by omega))
      refine kw_iast C 1 (kMod y a (nI 0) (upd Sr ((51 + (6 * ii)) + zz) (nI ((bk (6 * (ii) + (zz))) ^^^ (2 ^ xx)))) dr pa1_3 (nI U1_4) im ikp tx ty sn sm at1 pl tk vl fa pf odr gv mk bo bq) rfl (by omega) (by decide) dX7_carves_47 rfl ?_
      refine kw_aload_n C 0 dX7_carves_48 rfl ?_
      refine kw_get (v := .ref (a 1)) (T := TX7) C 0 1 rfl rfl (by decide) (fun w h => mT (fwX7 w h)) rfl (mT wd_616) rfl dX7_carves_49 ?_
      refine kw_bipush (v := nI 51) C dX7_carves_52 (by decide) ?_
      refine kw_bipush (v := nI 6) C dX7_carves_54 (by decide) ?_
      refine kw_iload_n C 1 dX7_carves_56 rfl ?_
      refine kw_imul C dX7_carves_57 (kw_top (pk_mul _ _) ?_)
      refine kw_iadd C dX7_carves_58 (kw_top (nI_add _ _) ?_)
      refine kw_iload_n C 3 dX7_carves_59 rfl ?_
      refine kw_iadd C dX7_carves_60 (kw_top (nI_add _ _) ?_)
      refine kw_iald (f := upd Sr ((51 + (6 * ii)) + zz) (nI ((bk (6 * (ii) + (zz))) ^^^ (2 ^ xx)))) C 1 rfl (by omega) (by decide) dX7_carves_61 ?_
      refine kw_top (show ((upd Sr ((51 + (6 * ii)) + zz) (nI ((bk (6 * (ii) + (zz))) ^^^ (2 ^ xx)))) ((51 + (6 * ii)) + zz)) = (nI (bk (6 * ii + zz) ^^^ 2 ^ xx)) from by exact pk_us) ?_
      refine kw_iload_n C 2 dX7_carves_62 rfl ?_
      refine kw_ishr C dX7_carves_63 (kw_top (n_shr (by omega) (by omega)) ?_)
      refine kw_iconst (v := nI 1) C dX7_carves_64 (by decide) ?_
      refine kw_iand C dX7_carves_65 (kw_top (n_and _ _) ?_)
      refine kR_i C (pa1_3, U1_4) dX7_carves_66 ?_ rfl
      exact ⟨by rw [tbm_d], hpo⟩
    ·
      exact absurd (And.intro (inR_of hxx (by omega)) (inR_of hzz (by omega))) c_19

set_option maxHeartbeats 4000000 in
set_option maxRecDepth 100000 in
theorem c_X7_slips_bad (l : Launch) (G : va_G) (y : Nat → ClassId) (t : Nat) (a : Nat → Nat) (th : Int32) (Sr : Nat → Int32) (dr : Nat → Int32) (pa : Nat → Int32) (um : Int32) (im : Nat → Int32) (ikp : Nat → Int32) (tx : Nat → Int32) (ty : Int32) (sn : Nat → Int32) (sm : Int32) (at1 : Int32) (pl : Int32) (tk : Int32) (vl : Int32) (fa : Int32) (pf : Nat → Int32) (odr : Nat → Int32) (gv : Nat → Int32) (mk : Nat → Int32) (bo : Nat → Int32) (bq : Nat → Int32) (i : Int32) (dx : Int32) (dy : Int32) (W : Nat) (H : Nat) (N : Nat) (pcl : Nat → Nat) (ik : Nat → Nat) (o : Nat → Nat) (bk : Nat → Nat) (kk : Nat → Nat) (hR : RowOk Sr W H N pcl ik o bk kk) (hb : ¬ (inR i N ∧ inD dx ∧ inD dy)) (sz : Nat) : Met l yX7_slips (Cond.code yX7_slips cX7_slips 4 (some .int) :: TG) ({ frames := 2, cells := 0, slots := 0, locals := 43 }) (va_Pc [.ref (a 0), .int i, .int dx, .int dy] (PR G y t (kMod y a th Sr dr pa um im ikp tx ty sn sm at1 pl tk vl fa pf odr gv mk bo bq) sz)) (va_Qi (fun (r : Int32) (u : Unit) => r = (-1)) (fun (u : Unit) t => PO G (va_A (kMod y a th Sr dr pa um im ikp tx ty sn sm at1 pl tk vl fa pf odr gv mk bo bq) sz) (kMod y a (nI 0) Sr dr pa um im ikp tx ty sn sm at1 pl tk vl fa pf odr gv mk bo bq) t) (va_A (kMod y a th Sr dr pa um im ikp tx ty sn sm at1 pl tk vl fa pf odr gv mk bo bq) sz)) 0 0 (va_A (kMod y a th Sr dr pa um im ikp tx ty sn sm at1 pl tk vl fa pf odr gv mk bo bq) sz) := by
  refine kMet (cc := cX7_slips) (maxL := 4) (ret := some .int) (Qc := fun A => va_Qi (fun (r : Int32) (u : Unit) => r = (-1)) (fun (u : Unit) t => PO G A (kMod y a (nI 0) Sr dr pa um im ikp tx ty sn sm at1 pl tk vl fa pf odr gv mk bo bq) t) A) (by decide) rfl (Nat.le_of_ble_eq_true rfl) (fun p e s m below meth c A hsz C hin => ?_)
  obtain ⟨hS0, hS1, hS2, hW, hH, hN, hpic, hink, hord, hblk, hdx⟩ := id hR
  refine KW.loc (lv' := [(0, .ref (a 0)), (1, .int i), (2, .int dx), (3, .int dy)]) [0, 1, 2, 3] rfl ?_
  refine kw_aload_n C 0 dX7_slips_0 rfl ?_
  refine kw_iconst (v := nI 0) C dX7_slips_1 (by decide) ?_
  refine kw_put (T := TX7) (ty := .int) C 0 0 (kMod y a (nI 0) Sr dr pa um im ikp tx ty sn sm at1 pl tk vl fa pf odr gv mk bo bq) rfl rfl (by decide) (fun w h => mT (fwX7 w h)) tyX7 tyX7_ok nmX7 rfl (mT wd_615) rfl (by decide +kernel) rfl rfl (Nat.le_of_ble_eq_true rfl) dX7_slips_2 rfl ?_
  refine kw_aload_n C 0 dX7_slips_5 rfl ?_
  refine kw_iload_n C 1 dX7_slips_6 rfl ?_
  refine kV_i (As := [.int i]) (rest := []) (ws' := fun (u : Unit) => kMod y a (nI 0) Sr dr pa um im ikp tx ty sn sm at1 pl tk vl fa pf odr gv mk bo bq) C (c_X7_isInk l G y t a (nI 0) Sr dr pa um im ikp tx ty sn sm at1 pl tk vl fa pf odr gv mk bo bq i W H N pcl ik o bk kk (by first | assumption | omega | decide)) (cwV 1 C.2.2.2.2.1 (goodV cT wd_766 wd_763 wd_765 wd_26 wd_48) rfl rfl rfl (by decide +kernel) ⟨by decide, by decide⟩) [0, 1, 2, 3, 4, 5, 6, 7, 8, 9, 10, 11, 12, 13] [] [0, 1, 2, 3, 4, 5, 6, 7, 8, 9, 10, 11, 12, 13] rfl (by decide) rfl (by decide) (by decide) (fun _ => rfl) (by decide) 0 rfl rfl rfl (Nat.le_of_ble_eq_true rfl) ⟨by decide, by decide⟩ dX7_slips_7 (fun r u hr_1 => ?_)
  subst hr_1
  refine kw_if_eq_D (tgt := 31) C dX7_slips_10 (by decide) (fun c_10 => ?_) (fun c_10 => ?_)
  ·
    refine kw_iconst (v := (-1)) C dX7_slips_31 (by decide) ?_
    refine kR_i C () dX7_slips_32 ?_ rfl
    first | rfl | trivial | (simp; done) | omega
  ·
    refine kw_iload_n C 2 dX7_slips_13 rfl ?_
    refine kw_iconst (v := (-1)) C dX7_slips_14 (by decide) ?_
    refine kw_iconst (v := nI 1) C dX7_slips_15 (by decide) ?_
    refine kS_i (As := [.int dx, .int (-1), .int (nI 1)]) (rest := []) (ws' := fun (u : Unit) => kMod y a (nI 0) Sr dr pa um im ikp tx ty sn sm at1 pl tk vl fa pf odr gv mk bo bq) C (c_X7_in l G y t dx (-1) (nI 1)) (va_cwS 3 C.2.2.2.2.1 (goodS cT wd_688 wd_686 wd_687 wd_48) rfl rfl rfl (by decide +kernel) ⟨by decide, by decide⟩) [] [0, 1, 2, 3, 4, 5, 6, 7, 8, 9, 10, 11, 12, 13] [0, 1, 2, 3, 4, 5, 6, 7, 8, 9, 10, 11, 12, 13] rfl (by decide) rfl (by decide) (by decide) (fun _ => rfl) (by decide) rfl (Nat.le_of_ble_eq_true rfl) ⟨by decide, by decide⟩ dX7_slips_16 (fun r u hr_2 => ?_)
    subst hr_2
    refine kw_if_eq_D (tgt := 31) C dX7_slips_19 (by decide) (fun c_19 => ?_) (fun c_19 => ?_)
    ·
      refine kw_iconst (v := (-1)) C dX7_slips_31 (by decide) ?_
      refine kR_i C () dX7_slips_32 ?_ rfl
      first | rfl | trivial | (simp; done) | omega
    ·
      refine kw_iload_n C 3 dX7_slips_22 rfl ?_
      refine kw_iconst (v := (-1)) C dX7_slips_23 (by decide) ?_
      refine kw_iconst (v := nI 1) C dX7_slips_24 (by decide) ?_
      refine kS_i (As := [.int dy, .int (-1), .int (nI 1)]) (rest := []) (ws' := fun (u : Unit) => kMod y a (nI 0) Sr dr pa um im ikp tx ty sn sm at1 pl tk vl fa pf odr gv mk bo bq) C (c_X7_in l G y t dy (-1) (nI 1)) (va_cwS 3 C.2.2.2.2.1 (goodS cT wd_688 wd_686 wd_687 wd_48) rfl rfl rfl (by decide +kernel) ⟨by decide, by decide⟩) [] [0, 1, 2, 3, 4, 5, 6, 7, 8, 9, 10, 11, 12, 13] [0, 1, 2, 3, 4, 5, 6, 7, 8, 9, 10, 11, 12, 13] rfl (by decide) rfl (by decide) (by decide) (fun _ => rfl) (by decide) rfl (Nat.le_of_ble_eq_true rfl) ⟨by decide, by decide⟩ dX7_slips_25 (fun r u hr_3 => ?_)
      subst hr_3
      refine kw_if_ne_D (tgt := 33) C dX7_slips_28 (by decide) (fun c_28 => ?_) (fun c_28 => ?_)
      ·
        exact absurd ⟨c_10, c_19, c_28⟩ hb
      ·
        refine kw_iconst (v := (-1)) C dX7_slips_31 (by decide) ?_
        refine kR_i C () dX7_slips_32 ?_ rfl
        first | rfl | trivial | (simp; done) | omega

set_option maxHeartbeats 4000000 in
set_option maxRecDepth 100000 in
theorem c_X7_slips_same (l : Launch) (G : va_G) (y : Nat → ClassId) (t : Nat) (a : Nat → Nat) (th : Int32) (Sr : Nat → Int32) (dr : Nat → Int32) (pa : Nat → Int32) (um : Int32) (im : Nat → Int32) (ikp : Nat → Int32) (tx : Nat → Int32) (ty : Int32) (sn : Nat → Int32) (sm : Int32) (at1 : Int32) (pl : Int32) (tk : Int32) (vl : Int32) (fa : Int32) (pf : Nat → Int32) (odr : Nat → Int32) (gv : Nat → Int32) (mk : Nat → Int32) (bo : Nat → Int32) (bq : Nat → Int32) (ii : Nat) (a0 : Nat) (b0 : Nat) (W : Nat) (H : Nat) (N : Nat) (pcl : Nat → Nat) (ik : Nat → Nat) (o : Nat → Nat) (bk : Nat → Nat) (kk : Nat → Nat) (hR : RowOk Sr W H N pcl ik o bk kk) (hii : ii < N) (ha0 : a0 < 3) (hb0 : b0 < 3) (hsm : kk ii = 3 * b0 + a0) (sz : Nat) : Met l yX7_slips (Cond.code yX7_slips cX7_slips 4 (some .int) :: TG) ({ frames := 2, cells := 0, slots := 0, locals := 43 }) (va_Pc [.ref (a 0), .int (nI ii), .int (dI a0), .int (dI b0)] (PR G y t (kMod y a th Sr dr pa um im ikp tx ty sn sm at1 pl tk vl fa pf odr gv mk bo bq) sz)) (va_Qi (fun (r : Int32) (u : Unit) => r = (-2)) (fun (u : Unit) t => PO G (va_A (kMod y a th Sr dr pa um im ikp tx ty sn sm at1 pl tk vl fa pf odr gv mk bo bq) sz) (kMod y a (nI 0) Sr dr pa um im ikp tx ty sn sm at1 pl tk vl fa pf odr gv mk bo bq) t) (va_A (kMod y a th Sr dr pa um im ikp tx ty sn sm at1 pl tk vl fa pf odr gv mk bo bq) sz)) 0 0 (va_A (kMod y a th Sr dr pa um im ikp tx ty sn sm at1 pl tk vl fa pf odr gv mk bo bq) sz) := by
  refine kMet (cc := cX7_slips) (maxL := 4) (ret := some .int) (Qc := fun A => va_Qi (fun (r : Int32) (u : Unit) => r = (-2)) (fun (u : Unit) t => PO G A (kMod y a (nI 0) Sr dr pa um im ikp tx ty sn sm at1 pl tk vl fa pf odr gv mk bo bq) t) A) (by decide) rfl (Nat.le_of_ble_eq_true rfl) (fun p e s m below meth c A hsz C hin => ?_)
  obtain ⟨hS0, hS1, hS2, hW, hH, hN, hpic, hink, hord, hblk, hdx⟩ := id hR
  refine KW.loc (lv' := [(0, .ref (a 0)), (1, .int (nI ii)), (2, .int (dI a0)), (3, .int (dI b0))]) [0, 1, 2, 3] rfl ?_
  refine kw_aload_n C 0 dX7_slips_0 rfl ?_
  refine kw_iconst (v := nI 0) C dX7_slips_1 (by decide) ?_
  refine kw_put (T := TX7) (ty := .int) C 0 0 (kMod y a (nI 0) Sr dr pa um im ikp tx ty sn sm at1 pl tk vl fa pf odr gv mk bo bq) rfl rfl (by decide) (fun w h => mT (fwX7 w h)) tyX7 tyX7_ok nmX7 rfl (mT wd_615) rfl (by decide +kernel) rfl rfl (Nat.le_of_ble_eq_true rfl) dX7_slips_2 rfl ?_
  refine kw_aload_n C 0 dX7_slips_5 rfl ?_
  refine kw_iload_n C 1 dX7_slips_6 rfl ?_
  refine kV_i (As := [.int (nI ii)]) (rest := []) (ws' := fun (u : Unit) => kMod y a (nI 0) Sr dr pa um im ikp tx ty sn sm at1 pl tk vl fa pf odr gv mk bo bq) C (c_X7_isInk l G y t a (nI 0) Sr dr pa um im ikp tx ty sn sm at1 pl tk vl fa pf odr gv mk bo bq (nI ii) W H N pcl ik o bk kk (by first | assumption | omega | decide)) (cwV 1 C.2.2.2.2.1 (goodV cT wd_766 wd_763 wd_765 wd_26 wd_48) rfl rfl rfl (by decide +kernel) ⟨by decide, by decide⟩) [0, 1, 2, 3, 4, 5, 6, 7, 8, 9, 10, 11, 12, 13] [] [0, 1, 2, 3, 4, 5, 6, 7, 8, 9, 10, 11, 12, 13] rfl (by decide) rfl (by decide) (by decide) (fun _ => rfl) (by decide) 0 rfl rfl rfl (Nat.le_of_ble_eq_true rfl) ⟨by decide, by decide⟩ dX7_slips_7 (fun r u hr_1 => ?_)
  subst hr_1
  refine kw_if_eq_D (tgt := 31) C dX7_slips_10 (by decide) (fun c_10 => ?_) (fun c_10 => ?_)
  ·
    exact absurd (inR_of hii (by omega)) c_10
  ·
    refine kw_iload_n C 2 dX7_slips_13 rfl ?_
    refine kw_iconst (v := (-1)) C dX7_slips_14 (by decide) ?_
    refine kw_iconst (v := nI 1) C dX7_slips_15 (by decide) ?_
    refine kS_i (As := [.int (dI a0), .int (-1), .int (nI 1)]) (rest := []) (ws' := fun (u : Unit) => kMod y a (nI 0) Sr dr pa um im ikp tx ty sn sm at1 pl tk vl fa pf odr gv mk bo bq) C (c_X7_in l G y t (dI a0) (-1) (nI 1)) (va_cwS 3 C.2.2.2.2.1 (goodS cT wd_688 wd_686 wd_687 wd_48) rfl rfl rfl (by decide +kernel) ⟨by decide, by decide⟩) [] [0, 1, 2, 3, 4, 5, 6, 7, 8, 9, 10, 11, 12, 13] [0, 1, 2, 3, 4, 5, 6, 7, 8, 9, 10, 11, 12, 13] rfl (by decide) rfl (by decide) (by decide) (fun _ => rfl) (by decide) rfl (Nat.le_of_ble_eq_true rfl) ⟨by decide, by decide⟩ dX7_slips_16 (fun r u hr_2 => ?_)
    subst hr_2
    refine kw_if_eq_D (tgt := 31) C dX7_slips_19 (by decide) (fun c_19 => ?_) (fun c_19 => ?_)
    ·
      exact absurd (And.intro (dI_ok a0 ha0).1 (dI_ok a0 ha0).2.1) c_19
    ·
      refine kw_iload_n C 3 dX7_slips_22 rfl ?_
      refine kw_iconst (v := (-1)) C dX7_slips_23 (by decide) ?_
      refine kw_iconst (v := nI 1) C dX7_slips_24 (by decide) ?_
      refine kS_i (As := [.int (dI b0), .int (-1), .int (nI 1)]) (rest := []) (ws' := fun (u : Unit) => kMod y a (nI 0) Sr dr pa um im ikp tx ty sn sm at1 pl tk vl fa pf odr gv mk bo bq) C (c_X7_in l G y t (dI b0) (-1) (nI 1)) (va_cwS 3 C.2.2.2.2.1 (goodS cT wd_688 wd_686 wd_687 wd_48) rfl rfl rfl (by decide +kernel) ⟨by decide, by decide⟩) [] [0, 1, 2, 3, 4, 5, 6, 7, 8, 9, 10, 11, 12, 13] [0, 1, 2, 3, 4, 5, 6, 7, 8, 9, 10, 11, 12, 13] rfl (by decide) rfl (by decide) (by decide) (fun _ => rfl) (by decide) rfl (Nat.le_of_ble_eq_true rfl) ⟨by decide, by decide⟩ dX7_slips_25 (fun r u hr_3 => ?_)
      subst hr_3
      refine kw_if_ne_D (tgt := 33) C dX7_slips_28 (by decide) (fun c_28 => ?_) (fun c_28 => ?_)
      ·
        refine kw_aload_n C 0 dX7_slips_33 rfl ?_
        refine kw_get (v := .ref (a 1)) (T := TX7) C 0 1 rfl rfl (by decide) (fun w h => mT (fwX7 w h)) rfl (mT wd_616) rfl dX7_slips_34 ?_
        refine kw_bipush (v := nI 87) C dX7_slips_37 (by decide) ?_
        refine kw_iload_n C 1 dX7_slips_39 rfl ?_
        refine kw_iadd C dX7_slips_40 (kw_top (nI_add _ _) ?_)
        refine kw_iald (f := Sr) C 1 rfl (by omega) (by decide) dX7_slips_41 ?_
        refine kw_top (show (Sr (87 + ii)) = (dI (kk (ii) % 3)) from by exact (hdx (ii) (by first | assumption | omega)).1) ?_
        have hl_41 := (hdx (ii) (by first | assumption | omega)).2.2
        refine kw_iload_n C 2 dX7_slips_42 rfl ?_
        refine kw_icmp_ne (tgt := 62) C dX7_slips_43 (by decide) (fun c_43 => ?_) (fun c_43 => ?_)
        ·
          exact absurd (by rw [hsm]; congr 1; omega) c_43
        ·
          refine kw_aload_n C 0 dX7_slips_46 rfl ?_
          refine kw_get (v := .ref (a 1)) (T := TX7) C 0 1 rfl rfl (by decide) (fun w h => mT (fwX7 w h)) rfl (mT wd_616) rfl dX7_slips_47 ?_
          refine kw_bipush (v := nI 93) C dX7_slips_50 (by decide) ?_
          refine kw_iload_n C 1 dX7_slips_52 rfl ?_
          refine kw_iadd C dX7_slips_53 (kw_top (nI_add _ _) ?_)
          refine kw_iald (f := Sr) C 1 rfl (by omega) (by decide) dX7_slips_54 ?_
          refine kw_top (show (Sr (93 + ii)) = (dI (kk (ii) / 3)) from by exact (hdx (ii) (by first | assumption | omega)).2.1) ?_
          have hl_54 := (hdx (ii) (by first | assumption | omega)).2.2
          refine kw_iload_n C 3 dX7_slips_55 rfl ?_
          refine kw_icmp_ne (tgt := 62) C dX7_slips_56 (by decide) (fun c_56 => ?_) (fun c_56 => ?_)
          ·
            exact absurd (by rw [hsm]; congr 1; omega) c_56
          ·
            refine kw_bipush (v := (-2)) C dX7_slips_59 (by decide) ?_
            refine kR_i C () dX7_slips_61 ?_ rfl
            first | rfl | trivial | (simp; done) | omega
      ·
        exact absurd (And.intro (dI_ok b0 hb0).1 (dI_ok b0 hb0).2.1) c_28

set_option maxHeartbeats 4000000 in
set_option maxRecDepth 100000 in
theorem c_X7_slips_ok (l : Launch) (G : va_G) (y : Nat → ClassId) (t : Nat) (a : Nat → Nat) (th : Int32) (Sr : Nat → Int32) (dr : Nat → Int32) (pa : Nat → Int32) (im : Nat → Int32) (ikp : Nat → Int32) (tx : Nat → Int32) (ty : Int32) (sn : Nat → Int32) (sm : Int32) (at1 : Int32) (pl : Int32) (tk : Int32) (vl : Int32) (fa : Int32) (pf : Nat → Int32) (odr : Nat → Int32) (gv : Nat → Int32) (mk : Nat → Int32) (bo : Nat → Int32) (bq : Nat → Int32) (U : Nat) (ii : Nat) (a0 : Nat) (b0 : Nat) (W : Nat) (H : Nat) (N : Nat) (pcl : Nat → Nat) (ik : Nat → Nat) (o : Nat → Nat) (bk : Nat → Nat) (kk : Nat → Nat) (hR : RowOk Sr W H N pcl ik o bk kk) (hii : ii < N) (ha0 : a0 < 3) (hb0 : b0 < 3) (hU : U ≤ 6) (hsm : kk ii ≠ 3 * b0 + a0) (sz : Nat) : Met l yX7_slips (Cond.code yX7_slips cX7_slips 4 (some .int) :: TG) ({ frames := 2, cells := 0, slots := 0, locals := 43 }) (va_Pc [.ref (a 0), .int (nI ii), .int (dI a0), .int (dI b0)] (PR G y t (kMod y a th Sr dr pa (nI U) im ikp tx ty sn sm at1 pl tk vl fa pf odr gv mk bo bq) sz)) (va_Qi (fun (r : Int32) (u : (Nat → Int32) × Nat) => r = (nI 1) ∧ (U < 6 → u.2 = U + 1 ∧ (∀ j, j < 99 * U → u.1 j = pa j) ∧ (∀ j, j < 99 → u.1 (99 * U + j) = Sr j)) ∧ (U = 6 → u.2 = 6 ∧ (∀ j, j < 495 → u.1 j = pa (99 + j)) ∧ (∀ j, j < 99 → u.1 (495 + j) = Sr j))) (fun (u : (Nat → Int32) × Nat) t => PO G (va_A (kMod y a th Sr dr pa (nI U) im ikp tx ty sn sm at1 pl tk vl fa pf odr gv mk bo bq) sz) (kMod y a (nI 0) (upd (upd Sr (87 + ii) (dI a0)) (93 + ii) (dI b0)) dr u.1 (nI u.2) im ikp tx ty sn sm at1 pl tk vl fa pf odr gv mk bo bq) t) (va_A (kMod y a th Sr dr pa (nI U) im ikp tx ty sn sm at1 pl tk vl fa pf odr gv mk bo bq) sz)) 0 0 (va_A (kMod y a th Sr dr pa (nI U) im ikp tx ty sn sm at1 pl tk vl fa pf odr gv mk bo bq) sz) := by
  refine kMet (cc := cX7_slips) (maxL := 4) (ret := some .int) (Qc := fun A => va_Qi (fun (r : Int32) (u : (Nat → Int32) × Nat) => r = (nI 1) ∧ (U < 6 → u.2 = U + 1 ∧ (∀ j, j < 99 * U → u.1 j = pa j) ∧ (∀ j, j < 99 → u.1 (99 * U + j) = Sr j)) ∧ (U = 6 → u.2 = 6 ∧ (∀ j, j < 495 → u.1 j = pa (99 + j)) ∧ (∀ j, j < 99 → u.1 (495 + j) = Sr j))) (fun (u : (Nat → Int32) × Nat) t => PO G A (kMod y a (nI 0) (upd (upd Sr (87 + ii) (dI a0)) (93 + ii) (dI b0)) dr u.1 (nI u.2) im ikp tx ty sn sm at1 pl tk vl fa pf odr gv mk bo bq) t) A) (by decide) rfl (Nat.le_of_ble_eq_true rfl) (fun p e s m below meth c A hsz C hin => ?_)
  obtain ⟨hS0, hS1, hS2, hW, hH, hN, hpic, hink, hord, hblk, hdx⟩ := id hR
  refine KW.loc (lv' := [(0, .ref (a 0)), (1, .int (nI ii)), (2, .int (dI a0)), (3, .int (dI b0))]) [0, 1, 2, 3] rfl ?_
  refine kw_aload_n C 0 dX7_slips_0 rfl ?_
  refine kw_iconst (v := nI 0) C dX7_slips_1 (by decide) ?_
  refine kw_put (T := TX7) (ty := .int) C 0 0 (kMod y a (nI 0) Sr dr pa (nI U) im ikp tx ty sn sm at1 pl tk vl fa pf odr gv mk bo bq) rfl rfl (by decide) (fun w h => mT (fwX7 w h)) tyX7 tyX7_ok nmX7 rfl (mT wd_615) rfl (by decide +kernel) rfl rfl (Nat.le_of_ble_eq_true rfl) dX7_slips_2 rfl ?_
  refine kw_aload_n C 0 dX7_slips_5 rfl ?_
  refine kw_iload_n C 1 dX7_slips_6 rfl ?_
  refine kV_i (As := [.int (nI ii)]) (rest := []) (ws' := fun (u : Unit) => kMod y a (nI 0) Sr dr pa (nI U) im ikp tx ty sn sm at1 pl tk vl fa pf odr gv mk bo bq) C (c_X7_isInk l G y t a (nI 0) Sr dr pa (nI U) im ikp tx ty sn sm at1 pl tk vl fa pf odr gv mk bo bq (nI ii) W H N pcl ik o bk kk (by first | assumption | omega | decide)) (cwV 1 C.2.2.2.2.1 (goodV cT wd_766 wd_763 wd_765 wd_26 wd_48) rfl rfl rfl (by decide +kernel) ⟨by decide, by decide⟩) [0, 1, 2, 3, 4, 5, 6, 7, 8, 9, 10, 11, 12, 13] [] [0, 1, 2, 3, 4, 5, 6, 7, 8, 9, 10, 11, 12, 13] rfl (by decide) rfl (by decide) (by decide) (fun _ => rfl) (by decide) 0 rfl rfl rfl (Nat.le_of_ble_eq_true rfl) ⟨by decide, by decide⟩ dX7_slips_7 (fun r u hr_1 => ?_)
  subst hr_1
  refine kw_if_eq_D (tgt := 31) C dX7_slips_10 (by decide) (fun c_10 => ?_) (fun c_10 => ?_)
  ·
    exact absurd (inR_of hii (by omega)) c_10
  ·
    refine kw_iload_n C 2 dX7_slips_13 rfl ?_
    refine kw_iconst (v := (-1)) C dX7_slips_14 (by decide) ?_
    refine kw_iconst (v := nI 1) C dX7_slips_15 (by decide) ?_
    refine kS_i (As := [.int (dI a0), .int (-1), .int (nI 1)]) (rest := []) (ws' := fun (u : Unit) => kMod y a (nI 0) Sr dr pa (nI U) im ikp tx ty sn sm at1 pl tk vl fa pf odr gv mk bo bq) C (c_X7_in l G y t (dI a0) (-1) (nI 1)) (va_cwS 3 C.2.2.2.2.1 (goodS cT wd_688 wd_686 wd_687 wd_48) rfl rfl rfl (by decide +kernel) ⟨by decide, by decide⟩) [] [0, 1, 2, 3, 4, 5, 6, 7, 8, 9, 10, 11, 12, 13] [0, 1, 2, 3, 4, 5, 6, 7, 8, 9, 10, 11, 12, 13] rfl (by decide) rfl (by decide) (by decide) (fun _ => rfl) (by decide) rfl (Nat.le_of_ble_eq_true rfl) ⟨by decide, by decide⟩ dX7_slips_16 (fun r u hr_2 => ?_)
    subst hr_2
    refine kw_if_eq_D (tgt := 31) C dX7_slips_19 (by decide) (fun c_19 => ?_) (fun c_19 => ?_)
    ·
      exact absurd (And.intro (dI_ok a0 ha0).1 (dI_ok a0 ha0).2.1) c_19
    ·
      refine kw_iload_n C 3 dX7_slips_22 rfl ?_
      refine kw_iconst (v := (-1)) C dX7_slips_23 (by decide) ?_
      refine kw_iconst (v := nI 1) C dX7_slips_24 (by decide) ?_
      refine kS_i (As := [.int (dI b0), .int (-1), .int (nI 1)]) (rest := []) (ws' := fun (u : Unit) => kMod y a (nI 0) Sr dr pa (nI U) im ikp tx ty sn sm at1 pl tk vl fa pf odr gv mk bo bq) C (c_X7_in l G y t (dI b0) (-1) (nI 1)) (va_cwS 3 C.2.2.2.2.1 (goodS cT wd_688 wd_686 wd_687 wd_48) rfl rfl rfl (by decide +kernel) ⟨by decide, by decide⟩) [] [0, 1, 2, 3, 4, 5, 6, 7, 8, 9, 10, 11, 12, 13] [0, 1, 2, 3, 4, 5, 6, 7, 8, 9, 10, 11, 12, 13] rfl (by decide) rfl (by decide) (by decide) (fun _ => rfl) (by decide) rfl (Nat.le_of_ble_eq_true rfl) ⟨by decide, by decide⟩ dX7_slips_25 (fun r u hr_3 => ?_)
      subst hr_3
      refine kw_if_ne_D (tgt := 33) C dX7_slips_28 (by decide) (fun c_28 => ?_) (fun c_28 => ?_)
      ·
        refine kw_aload_n C 0 dX7_slips_33 rfl ?_
        refine kw_get (v := .ref (a 1)) (T := TX7) C 0 1 rfl rfl (by decide) (fun w h => mT (fwX7 w h)) rfl (mT wd_616) rfl dX7_slips_34 ?_
        refine kw_bipush (v := nI 87) C dX7_slips_37 (by decide) ?_
        refine kw_iload_n C 1 dX7_slips_39 rfl ?_
        refine kw_iadd C dX7_slips_40 (kw_top (nI_add _ _) ?_)
        refine kw_iald (f := Sr) C 1 rfl (by omega) (by decide) dX7_slips_41 ?_
        refine kw_top (show (Sr (87 + ii)) = (dI (kk (ii) % 3)) from by exact (hdx (ii) (by first | assumption | omega)).1) ?_
        have hl_41 := (hdx (ii) (by first | assumption | omega)).2.2
        refine kw_iload_n C 2 dX7_slips_42 rfl ?_
        refine kw_icmp_ne (tgt := 62) C dX7_slips_43 (by decide) (fun c_43 => ?_) (fun c_43 => ?_)
        ·
          refine kw_aload_n C 0 dX7_slips_62 rfl ?_
          refine kV_v (As := []) (rest := []) (ws' := fun (u : (Nat → Int32) × Nat) => kMod y a (nI 0) Sr dr u.1 (nI u.2) im ikp tx ty sn sm at1 pl tk vl fa pf odr gv mk bo bq) C (c_X7_notes l G y t a (nI 0) Sr dr pa im ikp tx ty sn sm at1 pl tk vl fa pf odr gv mk bo bq U (by first | assumption | omega | decide)) (cwV 0 C.2.2.2.2.1 (goodV cT wd_728 wd_725 wd_727 wd_20 wd_48) rfl rfl rfl (by decide +kernel) ⟨by decide, by decide⟩) [0, 1, 2, 3, 4, 5, 6, 7, 8, 9, 10, 11, 12, 13] [] [0, 1, 2, 3, 4, 5, 6, 7, 8, 9, 10, 11, 12, 13] rfl (by decide) rfl (by decide) (by decide) (fun _ => rfl) (by decide) 0 rfl rfl rfl (Nat.le_of_ble_eq_true rfl) ⟨by decide, by decide⟩ dX7_slips_63 (fun u hr_6 => ?_)
          obtain ⟨pa1_4, U1_5⟩ := u
          try dsimp only at hr_6
          have hpo := hr_6
          refine kw_aload_n C 0 dX7_slips_66 rfl ?_
          refine kw_get (v := .ref (a 1)) (T := TX7) C 0 1 rfl rfl (by decide) (fun w h => mT (fwX7 w h)) rfl (mT wd_616) rfl dX7_slips_67 ?_
          refine kw_bipush (v := nI 87) C dX7_slips_70 (by decide) ?_
          refine kw_iload_n C 1 dX7_slips_72 rfl ?_
          refine kw_iadd C dX7_slips_73 (kw_top (nI_add _ _) ?_)
          refine kw_iload_n C 2 dX7_slips_74 rfl ?_
          refine kw_iast C 1 (kMod y a (nI 0) (upd Sr (87 + ii) (dI a0)) dr pa1_4 (nI U1_5) im ikp tx ty sn sm at1 pl tk vl fa pf odr gv mk bo bq) rfl (by omega) (by decide) dX7_slips_75 rfl ?_
          refine kw_aload_n C 0 dX7_slips_76 rfl ?_
          refine kw_get (v := .ref (a 1)) (T := TX7) C 0 1 rfl rfl (by decide) (fun w h => mT (fwX7 w h)) rfl (mT wd_616) rfl dX7_slips_77 ?_
          refine kw_bipush (v := nI 93) C dX7_slips_80 (by decide) ?_
          refine kw_iload_n C 1 dX7_slips_82 rfl ?_
          refine kw_iadd C dX7_slips_83 (kw_top (nI_add _ _) ?_)
          refine kw_iload_n C 3 dX7_slips_84 rfl ?_
          refine kw_iast C 1 (kMod y a (nI 0) (upd (upd Sr (87 + ii) (dI a0)) (93 + ii) (dI b0)) dr pa1_4 (nI U1_5) im ikp tx ty sn sm at1 pl tk vl fa pf odr gv mk bo bq) rfl (by omega) (by decide) dX7_slips_85 rfl ?_
          refine kw_iconst (v := nI 1) C dX7_slips_86 (by decide) ?_
          refine kR_i C (pa1_4, U1_5) dX7_slips_87 ?_ rfl
          exact ⟨rfl, hpo⟩
        ·
          refine kw_aload_n C 0 dX7_slips_46 rfl ?_
          refine kw_get (v := .ref (a 1)) (T := TX7) C 0 1 rfl rfl (by decide) (fun w h => mT (fwX7 w h)) rfl (mT wd_616) rfl dX7_slips_47 ?_
          refine kw_bipush (v := nI 93) C dX7_slips_50 (by decide) ?_
          refine kw_iload_n C 1 dX7_slips_52 rfl ?_
          refine kw_iadd C dX7_slips_53 (kw_top (nI_add _ _) ?_)
          refine kw_iald (f := Sr) C 1 rfl (by omega) (by decide) dX7_slips_54 ?_
          refine kw_top (show (Sr (93 + ii)) = (dI (kk (ii) / 3)) from by exact (hdx (ii) (by first | assumption | omega)).2.1) ?_
          have hl_54 := (hdx (ii) (by first | assumption | omega)).2.2
          refine kw_iload_n C 3 dX7_slips_55 rfl ?_
          refine kw_icmp_ne (tgt := 62) C dX7_slips_56 (by decide) (fun c_56 => ?_) (fun c_56 => ?_)
          ·
            refine kw_aload_n C 0 dX7_slips_62 rfl ?_
            refine kV_v (As := []) (rest := []) (ws' := fun (u : (Nat → Int32) × Nat) => kMod y a (nI 0) Sr dr u.1 (nI u.2) im ikp tx ty sn sm at1 pl tk vl fa pf odr gv mk bo bq) C (c_X7_notes l G y t a (nI 0) Sr dr pa im ikp tx ty sn sm at1 pl tk vl fa pf odr gv mk bo bq U (by first | assumption | omega | decide)) (cwV 0 C.2.2.2.2.1 (goodV cT wd_728 wd_725 wd_727 wd_20 wd_48) rfl rfl rfl (by decide +kernel) ⟨by decide, by decide⟩) [0, 1, 2, 3, 4, 5, 6, 7, 8, 9, 10, 11, 12, 13] [] [0, 1, 2, 3, 4, 5, 6, 7, 8, 9, 10, 11, 12, 13] rfl (by decide) rfl (by decide) (by decide) (fun _ => rfl) (by decide) 0 rfl rfl rfl (Nat.le_of_ble_eq_true rfl) ⟨by decide, by decide⟩ dX7_slips_63 (fun u hr_9 => ?_)
            obtain ⟨pa1_7, U1_8⟩ := u
            try dsimp only at hr_9
            have hpo := hr_9
            refine kw_aload_n C 0 dX7_slips_66 rfl ?_
            refine kw_get (v := .ref (a 1)) (T := TX7) C 0 1 rfl rfl (by decide) (fun w h => mT (fwX7 w h)) rfl (mT wd_616) rfl dX7_slips_67 ?_
            refine kw_bipush (v := nI 87) C dX7_slips_70 (by decide) ?_
            refine kw_iload_n C 1 dX7_slips_72 rfl ?_
            refine kw_iadd C dX7_slips_73 (kw_top (nI_add _ _) ?_)
            refine kw_iload_n C 2 dX7_slips_74 rfl ?_
            refine kw_iast C 1 (kMod y a (nI 0) (upd Sr (87 + ii) (dI a0)) dr pa1_7 (nI U1_8) im ikp tx ty sn sm at1 pl tk vl fa pf odr gv mk bo bq) rfl (by omega) (by decide) dX7_slips_75 rfl ?_
            refine kw_aload_n C 0 dX7_slips_76 rfl ?_
            refine kw_get (v := .ref (a 1)) (T := TX7) C 0 1 rfl rfl (by decide) (fun w h => mT (fwX7 w h)) rfl (mT wd_616) rfl dX7_slips_77 ?_
            refine kw_bipush (v := nI 93) C dX7_slips_80 (by decide) ?_
            refine kw_iload_n C 1 dX7_slips_82 rfl ?_
            refine kw_iadd C dX7_slips_83 (kw_top (nI_add _ _) ?_)
            refine kw_iload_n C 3 dX7_slips_84 rfl ?_
            refine kw_iast C 1 (kMod y a (nI 0) (upd (upd Sr (87 + ii) (dI a0)) (93 + ii) (dI b0)) dr pa1_7 (nI U1_8) im ikp tx ty sn sm at1 pl tk vl fa pf odr gv mk bo bq) rfl (by omega) (by decide) dX7_slips_85 rfl ?_
            refine kw_iconst (v := nI 1) C dX7_slips_86 (by decide) ?_
            refine kR_i C (pa1_7, U1_8) dX7_slips_87 ?_ rfl
            exact ⟨rfl, hpo⟩
          ·
            exact absurd (show kk ii = 3 * b0 + a0 from by have h1 := dI_inj _ (by omega) _ ha0 c_43; have h2 := dI_inj _ (by omega) _ hb0 c_56; omega) hsm
      ·
        exact absurd (And.intro (dI_ok b0 hb0).1 (dI_ok b0 hb0).2.1) c_28

set_option maxHeartbeats 4000000 in
set_option maxRecDepth 100000 in
theorem c_X7_placeOf (l : Launch) (G : va_G) (y : Nat → ClassId) (t : Nat) (a : Nat → Nat) (th : Int32) (Sr : Nat → Int32) (dr : Nat → Int32) (pa : Nat → Int32) (um : Int32) (im : Nat → Int32) (ikp : Nat → Int32) (tx : Nat → Int32) (ty : Int32) (sn : Nat → Int32) (sm : Int32) (at1 : Int32) (pl : Int32) (tk : Int32) (vl : Int32) (fa : Int32) (pf : Nat → Int32) (odr : Nat → Int32) (gv : Nat → Int32) (mk : Nat → Int32) (bo : Nat → Int32) (bq : Nat → Int32) (i : Nat) (q : Nat) (W : Nat) (H : Nat) (N : Nat) (pcl : Nat → Nat) (ik : Nat → Nat) (o : Nat → Nat) (bk : Nat → Nat) (kk : Nat → Nat) (hR : RowOk Sr W H N pcl ik o bk kk) (hi : i < 6) (hq : q < N) (hqi : o q = i) (hu : ∀ z, z < q → o z ≠ i) (sz : Nat) : Met l yX7_placeOf (Cond.code yX7_placeOf cX7_placeOf 3 (some .int) :: TG) ({ frames := 0, cells := 0, slots := 0, locals := 0 }) (va_Pc [.ref (a 0), .int (nI i)] (PR G y t (kMod y a th Sr dr pa um im ikp tx ty sn sm at1 pl tk vl fa pf odr gv mk bo bq) sz)) (va_Qi (fun (r : Int32) (u : Unit) => r = (nI q)) (fun (u : Unit) t => PO G (va_A (kMod y a th Sr dr pa um im ikp tx ty sn sm at1 pl tk vl fa pf odr gv mk bo bq) sz) (kMod y a th Sr dr pa um im ikp tx ty sn sm at1 pl tk vl fa pf odr gv mk bo bq) t) (va_A (kMod y a th Sr dr pa um im ikp tx ty sn sm at1 pl tk vl fa pf odr gv mk bo bq) sz)) 0 0 (va_A (kMod y a th Sr dr pa um im ikp tx ty sn sm at1 pl tk vl fa pf odr gv mk bo bq) sz) := by
  refine kMet (cc := cX7_placeOf) (maxL := 3) (ret := some .int) (Qc := fun A => va_Qi (fun (r : Int32) (u : Unit) => r = (nI q)) (fun (u : Unit) t => PO G A (kMod y a th Sr dr pa um im ikp tx ty sn sm at1 pl tk vl fa pf odr gv mk bo bq) t) A) (by decide) rfl (Nat.le_of_ble_eq_true rfl) (fun p e s m below meth c A hsz C hin => ?_)
  obtain ⟨hS0, hS1, hS2, hW, hH, hN, hpic, hink, hord, hblk, hdx⟩ := id hR
  refine KW.loc (lv' := [(0, .ref (a 0)), (1, .int (nI i))]) [0, 1] rfl ?_
  refine kw_iconst (v := nI 0) C dX7_placeOf_0 (by decide) ?_
  refine kw_istore_n C [(2, .int (nI 0)), (0, .ref (a 0)), (1, .int (nI i))] dX7_placeOf_1 rfl (by decide) rfl ?_
  have L2_1 : ∀ (nn : Nat) (z : Nat) (hz : z ≤ q) (hms : q - z < nn), KW p l e ({ frames := 0, cells := 0, slots := 0, locals := 0 }) s m ([.ref (a 0), .int (nI i)] : List Value).toArray below meth c 0 0 (MQ below (va_Qi (fun (r : Int32) (u : Unit) => r = (nI q)) (fun (u : Unit) t => PO G A (kMod y a th Sr dr pa um im ikp tx ty sn sm at1 pl tk vl fa pf odr gv mk bo bq) t) A) ([.ref (a 0), .int (nI i)] : List Value).toArray s 0 0 A) G A 3 (kMod y a th Sr dr pa um im ikp tx ty sn sm at1 pl tk vl fa pf odr gv mk bo bq) [(2, .int (nI z)), (0, .ref (a 0)), (1, .int (nI i))] 2 [] := by
    intro nn
    induction nn with
    | zero => intro z hz hms; exact absurd hms (Nat.not_lt_zero _)
    | succ nn ih_2 =>
      intro z hz hms
      refine kw_aload_n C 1 dX7_placeOf_2 rfl ?_
      refine kw_get (v := .ref (a 1)) (T := TX7) C 0 1 rfl rfl (by decide) (fun w h => mT (fwX7 w h)) rfl (mT wd_616) rfl dX7_placeOf_3 ?_
      refine kw_bipush (v := nI 45) C dX7_placeOf_6 (by decide) ?_
      refine kw_iload_n C 0 dX7_placeOf_8 rfl ?_
      refine kw_iadd C dX7_placeOf_9 (kw_top (nI_add _ _) ?_)
      refine kw_iald (f := Sr) C 1 rfl (by omega) (by decide) dX7_placeOf_10 ?_
      refine kw_top (show (Sr (45 + z)) = (nI (o (z))) from by exact (hord (z) (by first | assumption | omega)).1) ?_
      have hl_10 := (hord (z) (by first | assumption | omega)).2
      refine kw_iload_n C 2 dX7_placeOf_11 rfl ?_
      refine kw_icmp_eq_N (tgt := 21) C (by omega) (by omega) dX7_placeOf_12 (by decide) (fun c_12 => ?_) (fun c_12 => ?_)
      ·
        refine kw_iload_n C 0 dX7_placeOf_21 rfl ?_
        refine kR_i C () dX7_placeOf_22 ?_ rfl
        rcases Nat.lt_or_ge z q with h | h
        · exact absurd c_12 (hu z h)
        · rw [show z = q from by omega]
      ·
        refine kw_iinc (v := nI (z + 1)) C [(2, .int (nI (z + 1))), (0, .ref (a 0)), (1, .int (nI i))] 0 dX7_placeOf_15 rfl (nI_1 _) (by decide) rfl ?_
        refine kw_goto (tgt := 2) C dX7_placeOf_18 (by decide) ?_
        refine KW.loc (lv' := [(2, .int (nI (z + 1))), (0, .ref (a 0)), (1, .int (nI i))]) [0, 1, 2] rfl ?_
        exact ih_2 (z + 1) (by exact Nat.lt_of_le_of_ne hz (fun h => c_12 (by rw [h]; exact hqi))) (by have := Nat.lt_of_le_of_ne hz (fun h => c_12 (by rw [h]; exact hqi)); omega)
  refine KW.loc (lv' := [(2, .int (nI 0)), (0, .ref (a 0)), (1, .int (nI i))]) [0, 1, 2] rfl ?_
  exact L2_1 (q - 0 + 1) 0 (by first | assumption | omega | (simp; done)) (Nat.lt_succ_self _)

set_option maxHeartbeats 4000000 in
set_option maxRecDepth 100000 in
theorem c_X7_swaps_bad (l : Launch) (G : va_G) (y : Nat → ClassId) (t : Nat) (a : Nat → Nat) (th : Int32) (Sr : Nat → Int32) (dr : Nat → Int32) (pa : Nat → Int32) (um : Int32) (im : Nat → Int32) (ikp : Nat → Int32) (tx : Nat → Int32) (ty : Int32) (sn : Nat → Int32) (sm : Int32) (at1 : Int32) (pl : Int32) (tk : Int32) (vl : Int32) (fa : Int32) (pf : Nat → Int32) (odr : Nat → Int32) (gv : Nat → Int32) (mk : Nat → Int32) (bo : Nat → Int32) (bq : Nat → Int32) (i : Int32) (j : Int32) (W : Nat) (H : Nat) (N : Nat) (pcl : Nat → Nat) (ik : Nat → Nat) (o : Nat → Nat) (bk : Nat → Nat) (kk : Nat → Nat) (hR : RowOk Sr W H N pcl ik o bk kk) (hb : ¬ (inR i N ∧ inR j N ∧ i ≠ j)) (sz : Nat) : Met l yX7_swaps (Cond.code yX7_swaps cX7_swaps 5 (some .int) :: TG) ({ frames := 2, cells := 0, slots := 0, locals := 43 }) (va_Pc [.ref (a 0), .int i, .int j] (PR G y t (kMod y a th Sr dr pa um im ikp tx ty sn sm at1 pl tk vl fa pf odr gv mk bo bq) sz)) (va_Qi (fun (r : Int32) (u : Unit) => r = (-1)) (fun (u : Unit) t => PO G (va_A (kMod y a th Sr dr pa um im ikp tx ty sn sm at1 pl tk vl fa pf odr gv mk bo bq) sz) (kMod y a (nI 0) Sr dr pa um im ikp tx ty sn sm at1 pl tk vl fa pf odr gv mk bo bq) t) (va_A (kMod y a th Sr dr pa um im ikp tx ty sn sm at1 pl tk vl fa pf odr gv mk bo bq) sz)) 0 0 (va_A (kMod y a th Sr dr pa um im ikp tx ty sn sm at1 pl tk vl fa pf odr gv mk bo bq) sz) := by
  refine kMet (cc := cX7_swaps) (maxL := 5) (ret := some .int) (Qc := fun A => va_Qi (fun (r : Int32) (u : Unit) => r = (-1)) (fun (u : Unit) t => PO G A (kMod y a (nI 0) Sr dr pa um im ikp tx ty sn sm at1 pl tk vl fa pf odr gv mk bo bq) t) A) (by decide) rfl (Nat.le_of_ble_eq_true rfl) (fun p e s m below meth c A hsz C hin => ?_)
  obtain ⟨hS0, hS1, hS2, hW, hH, hN, hpic, hink, hord, hblk, hdx⟩ := id hR
  refine KW.loc (lv' := [(0, .ref (a 0)), (1, .int i), (2, .int j)]) [0, 1, 2] rfl ?_
  refine kw_aload_n C 0 dX7_swaps_0 rfl ?_
  refine kw_iconst (v := nI 0) C dX7_swaps_1 (by decide) ?_
  refine kw_put (T := TX7) (ty := .int) C 0 0 (kMod y a (nI 0) Sr dr pa um im ikp tx ty sn sm at1 pl tk vl fa pf odr gv mk bo bq) rfl rfl (by decide) (fun w h => mT (fwX7 w h)) tyX7 tyX7_ok nmX7 rfl (mT wd_615) rfl (by decide +kernel) rfl rfl (Nat.le_of_ble_eq_true rfl) dX7_swaps_2 rfl ?_
  refine kw_aload_n C 0 dX7_swaps_5 rfl ?_
  refine kw_iload_n C 1 dX7_swaps_6 rfl ?_
  refine kV_i (As := [.int i]) (rest := []) (ws' := fun (u : Unit) => kMod y a (nI 0) Sr dr pa um im ikp tx ty sn sm at1 pl tk vl fa pf odr gv mk bo bq) C (c_X7_isInk l G y t a (nI 0) Sr dr pa um im ikp tx ty sn sm at1 pl tk vl fa pf odr gv mk bo bq i W H N pcl ik o bk kk (by first | assumption | omega | decide)) (cwV 1 C.2.2.2.2.1 (goodV cT wd_766 wd_763 wd_765 wd_26 wd_48) rfl rfl rfl (by decide +kernel) ⟨by decide, by decide⟩) [0, 1, 2, 3, 4, 5, 6, 7, 8, 9, 10, 11, 12, 13] [] [0, 1, 2, 3, 4, 5, 6, 7, 8, 9, 10, 11, 12, 13] rfl (by decide) rfl (by decide) (by decide) (fun _ => rfl) (by decide) 0 rfl rfl rfl (Nat.le_of_ble_eq_true rfl) ⟨by decide, by decide⟩ dX7_swaps_7 (fun r u hr_1 => ?_)
  subst hr_1
  refine kw_if_eq_D (tgt := 26) C dX7_swaps_10 (by decide) (fun c_10 => ?_) (fun c_10 => ?_)
  ·
    refine kw_iconst (v := (-1)) C dX7_swaps_26 (by decide) ?_
    refine kR_i C () dX7_swaps_27 ?_ rfl
    first | rfl | trivial | (simp; done) | omega
  ·
    refine kw_aload_n C 0 dX7_swaps_13 rfl ?_
    refine kw_iload_n C 2 dX7_swaps_14 rfl ?_
    refine kV_i (As := [.int j]) (rest := []) (ws' := fun (u : Unit) => kMod y a (nI 0) Sr dr pa um im ikp tx ty sn sm at1 pl tk vl fa pf odr gv mk bo bq) C (c_X7_isInk l G y t a (nI 0) Sr dr pa um im ikp tx ty sn sm at1 pl tk vl fa pf odr gv mk bo bq j W H N pcl ik o bk kk (by first | assumption | omega | decide)) (cwV 1 C.2.2.2.2.1 (goodV cT wd_766 wd_763 wd_765 wd_26 wd_48) rfl rfl rfl (by decide +kernel) ⟨by decide, by decide⟩) [0, 1, 2, 3, 4, 5, 6, 7, 8, 9, 10, 11, 12, 13] [] [0, 1, 2, 3, 4, 5, 6, 7, 8, 9, 10, 11, 12, 13] rfl (by decide) rfl (by decide) (by decide) (fun _ => rfl) (by decide) 0 rfl rfl rfl (Nat.le_of_ble_eq_true rfl) ⟨by decide, by decide⟩ dX7_swaps_15 (fun r u hr_2 => ?_)
    subst hr_2
    refine kw_if_eq_D (tgt := 26) C dX7_swaps_18 (by decide) (fun c_18 => ?_) (fun c_18 => ?_)
    ·
      refine kw_iconst (v := (-1)) C dX7_swaps_26 (by decide) ?_
      refine kR_i C () dX7_swaps_27 ?_ rfl
      first | rfl | trivial | (simp; done) | omega
    ·
      refine kw_iload_n C 1 dX7_swaps_21 rfl ?_
      refine kw_iload_n C 2 dX7_swaps_22 rfl ?_
      refine kw_icmp_ne (tgt := 28) C dX7_swaps_23 (by decide) (fun c_23 => ?_) (fun c_23 => ?_)
      ·
        exact absurd ⟨c_10, c_18, c_23⟩ hb
      ·
        refine kw_iconst (v := (-1)) C dX7_swaps_26 (by decide) ?_
        refine kR_i C () dX7_swaps_27 ?_ rfl
        first | rfl | trivial | (simp; done) | omega

set_option maxHeartbeats 4000000 in
set_option maxRecDepth 100000 in
theorem c_X7_swaps_ok (l : Launch) (G : va_G) (y : Nat → ClassId) (t : Nat) (a : Nat → Nat) (th : Int32) (Sr : Nat → Int32) (dr : Nat → Int32) (pa : Nat → Int32) (im : Nat → Int32) (ikp : Nat → Int32) (tx : Nat → Int32) (ty : Int32) (sn : Nat → Int32) (sm : Int32) (at1 : Int32) (pl : Int32) (tk : Int32) (vl : Int32) (fa : Int32) (pf : Nat → Int32) (odr : Nat → Int32) (gv : Nat → Int32) (mk : Nat → Int32) (bo : Nat → Int32) (bq : Nat → Int32) (U : Nat) (ii : Nat) (jj : Nat) (qa : Nat) (qb : Nat) (W : Nat) (H : Nat) (N : Nat) (pcl : Nat → Nat) (ik : Nat → Nat) (o : Nat → Nat) (bk : Nat → Nat) (kk : Nat → Nat) (hR : RowOk Sr W H N pcl ik o bk kk) (hU : U ≤ 6) (hii : ii < N) (hjj : jj < N) (hne : ii ≠ jj) (hqa : qa < N) (hoa : o qa = ii) (hua : ∀ z, z < qa → o z ≠ ii) (hqb : qb < N) (hob : o qb = jj) (hub : ∀ z, z < qb → o z ≠ jj) (sz : Nat) : Met l yX7_swaps (Cond.code yX7_swaps cX7_swaps 5 (some .int) :: TG) ({ frames := 3, cells := 0, slots := 0, locals := 74 }) (va_Pc [.ref (a 0), .int (nI ii), .int (nI jj)] (PR G y t (kMod y a th Sr dr pa (nI U) im ikp tx ty sn sm at1 pl tk vl fa pf odr gv mk bo bq) sz)) (va_Qi (fun (r : Int32) (u : (Nat → Int32) × Nat × (Nat → Int32)) => r = (nI (wcY (pvF W H bk ik (swO o qa qb ii jj) kk (-9) 4 N) pcl W H)) ∧ (U < 6 → u.2.1 = U + 1 ∧ (∀ j, j < 99 * U → u.1 j = pa j) ∧ (∀ j, j < 99 → u.1 (99 * U + j) = Sr j)) ∧ (U = 6 → u.2.1 = 6 ∧ (∀ j, j < 495 → u.1 j = pa (99 + j)) ∧ (∀ j, j < 99 → u.1 (495 + j) = Sr j))) (fun (u : (Nat → Int32) × Nat × (Nat → Int32)) t => PO G (va_A (kMod y a th Sr dr pa (nI U) im ikp tx ty sn sm at1 pl tk vl fa pf odr gv mk bo bq) sz) (kMod y a (nI 0) (upd (upd Sr (45 + qa) (nI jj)) (45 + qb) (nI ii)) dr u.1 (nI u.2.1) im ikp tx ty sn sm at1 pl tk vl fa u.2.2 odr gv mk bo bq) t) (va_A (kMod y a th Sr dr pa (nI U) im ikp tx ty sn sm at1 pl tk vl fa pf odr gv mk bo bq) sz)) 0 0 (va_A (kMod y a th Sr dr pa (nI U) im ikp tx ty sn sm at1 pl tk vl fa pf odr gv mk bo bq) sz) := by
  refine kMet (cc := cX7_swaps) (maxL := 5) (ret := some .int) (Qc := fun A => va_Qi (fun (r : Int32) (u : (Nat → Int32) × Nat × (Nat → Int32)) => r = (nI (wcY (pvF W H bk ik (swO o qa qb ii jj) kk (-9) 4 N) pcl W H)) ∧ (U < 6 → u.2.1 = U + 1 ∧ (∀ j, j < 99 * U → u.1 j = pa j) ∧ (∀ j, j < 99 → u.1 (99 * U + j) = Sr j)) ∧ (U = 6 → u.2.1 = 6 ∧ (∀ j, j < 495 → u.1 j = pa (99 + j)) ∧ (∀ j, j < 99 → u.1 (495 + j) = Sr j))) (fun (u : (Nat → Int32) × Nat × (Nat → Int32)) t => PO G A (kMod y a (nI 0) (upd (upd Sr (45 + qa) (nI jj)) (45 + qb) (nI ii)) dr u.1 (nI u.2.1) im ikp tx ty sn sm at1 pl tk vl fa u.2.2 odr gv mk bo bq) t) A) (by decide) rfl (Nat.le_of_ble_eq_true rfl) (fun p e s m below meth c A hsz C hin => ?_)
  obtain ⟨hS0, hS1, hS2, hW, hH, hN, hpic, hink, hord, hblk, hdx⟩ := id hR
  refine KW.loc (lv' := [(0, .ref (a 0)), (1, .int (nI ii)), (2, .int (nI jj))]) [0, 1, 2] rfl ?_
  refine kw_aload_n C 0 dX7_swaps_0 rfl ?_
  refine kw_iconst (v := nI 0) C dX7_swaps_1 (by decide) ?_
  refine kw_put (T := TX7) (ty := .int) C 0 0 (kMod y a (nI 0) Sr dr pa (nI U) im ikp tx ty sn sm at1 pl tk vl fa pf odr gv mk bo bq) rfl rfl (by decide) (fun w h => mT (fwX7 w h)) tyX7 tyX7_ok nmX7 rfl (mT wd_615) rfl (by decide +kernel) rfl rfl (Nat.le_of_ble_eq_true rfl) dX7_swaps_2 rfl ?_
  refine kw_aload_n C 0 dX7_swaps_5 rfl ?_
  refine kw_iload_n C 1 dX7_swaps_6 rfl ?_
  refine kV_i (As := [.int (nI ii)]) (rest := []) (ws' := fun (u : Unit) => kMod y a (nI 0) Sr dr pa (nI U) im ikp tx ty sn sm at1 pl tk vl fa pf odr gv mk bo bq) C (c_X7_isInk l G y t a (nI 0) Sr dr pa (nI U) im ikp tx ty sn sm at1 pl tk vl fa pf odr gv mk bo bq (nI ii) W H N pcl ik o bk kk (by first | assumption | omega | decide)) (cwV 1 C.2.2.2.2.1 (goodV cT wd_766 wd_763 wd_765 wd_26 wd_48) rfl rfl rfl (by decide +kernel) ⟨by decide, by decide⟩) [0, 1, 2, 3, 4, 5, 6, 7, 8, 9, 10, 11, 12, 13] [] [0, 1, 2, 3, 4, 5, 6, 7, 8, 9, 10, 11, 12, 13] rfl (by decide) rfl (by decide) (by decide) (fun _ => rfl) (by decide) 0 rfl rfl rfl (Nat.le_of_ble_eq_true rfl) ⟨by decide, by decide⟩ dX7_swaps_7 (fun r u hr_1 => ?_)
  subst hr_1
  refine kw_if_eq_D (tgt := 26) C dX7_swaps_10 (by decide) (fun c_10 => ?_) (fun c_10 => ?_)
  ·
    exact absurd (inR_of hii (by omega)) c_10
  ·
    refine kw_aload_n C 0 dX7_swaps_13 rfl ?_
    refine kw_iload_n C 2 dX7_swaps_14 rfl ?_
    refine kV_i (As := [.int (nI jj)]) (rest := []) (ws' := fun (u : Unit) => kMod y a (nI 0) Sr dr pa (nI U) im ikp tx ty sn sm at1 pl tk vl fa pf odr gv mk bo bq) C (c_X7_isInk l G y t a (nI 0) Sr dr pa (nI U) im ikp tx ty sn sm at1 pl tk vl fa pf odr gv mk bo bq (nI jj) W H N pcl ik o bk kk (by first | assumption | omega | decide)) (cwV 1 C.2.2.2.2.1 (goodV cT wd_766 wd_763 wd_765 wd_26 wd_48) rfl rfl rfl (by decide +kernel) ⟨by decide, by decide⟩) [0, 1, 2, 3, 4, 5, 6, 7, 8, 9, 10, 11, 12, 13] [] [0, 1, 2, 3, 4, 5, 6, 7, 8, 9, 10, 11, 12, 13] rfl (by decide) rfl (by decide) (by decide) (fun _ => rfl) (by decide) 0 rfl rfl rfl (Nat.le_of_ble_eq_true rfl) ⟨by decide, by decide⟩ dX7_swaps_15 (fun r u hr_2 => ?_)
    subst hr_2
    refine kw_if_eq_D (tgt := 26) C dX7_swaps_18 (by decide) (fun c_18 => ?_) (fun c_18 => ?_)
    ·
      exact absurd (inR_of hjj (by omega)) c_18
    ·
      refine kw_iload_n C 1 dX7_swaps_21 rfl ?_
      refine kw_iload_n C 2 dX7_swaps_22 rfl ?_
      refine kw_icmp_ne_N (tgt := 28) C (by omega) (by omega) dX7_swaps_23 (by decide) (fun c_23 => ?_) (fun c_23 => ?_)
      ·
        refine kw_aload_n C 0 dX7_swaps_28 rfl ?_
        refine kV_v (As := []) (rest := []) (ws' := fun (u : (Nat → Int32) × Nat) => kMod y a (nI 0) Sr dr u.1 (nI u.2) im ikp tx ty sn sm at1 pl tk vl fa pf odr gv mk bo bq) C (c_X7_notes l G y t a (nI 0) Sr dr pa im ikp tx ty sn sm at1 pl tk vl fa pf odr gv mk bo bq U (by first | assumption | omega | decide)) (cwV 0 C.2.2.2.2.1 (goodV cT wd_728 wd_725 wd_727 wd_20 wd_48) rfl rfl rfl (by decide +kernel) ⟨by decide, by decide⟩) [0, 1, 2, 3, 4, 5, 6, 7, 8, 9, 10, 11, 12, 13] [] [0, 1, 2, 3, 4, 5, 6, 7, 8, 9, 10, 11, 12, 13] rfl (by decide) rfl (by decide) (by decide) (fun _ => rfl) (by decide) 0 rfl rfl rfl (Nat.le_of_ble_eq_true rfl) ⟨by decide, by decide⟩ dX7_swaps_29 (fun u hr_5 => ?_)
        obtain ⟨pa1_3, U1_4⟩ := u
        try dsimp only at hr_5
        have hpo := hr_5
        refine kw_aload_n C 0 dX7_swaps_32 rfl ?_
        refine kw_iload_n C 1 dX7_swaps_33 rfl ?_
        refine kV_i (As := [.int (nI ii)]) (rest := []) (ws' := fun (u : Unit) => kMod y a (nI 0) Sr dr pa1_3 (nI U1_4) im ikp tx ty sn sm at1 pl tk vl fa pf odr gv mk bo bq) C (c_X7_placeOf l G y t a (nI 0) Sr dr pa1_3 (nI U1_4) im ikp tx ty sn sm at1 pl tk vl fa pf odr gv mk bo bq ii qa W H N pcl ik o bk kk (by first | assumption | omega | decide) (by first | assumption | omega | decide) (by first | assumption | omega | decide) (by first | assumption | omega | decide) (by first | assumption | omega | decide)) (cwV 1 C.2.2.2.2.1 (goodV cT wd_782 wd_779 wd_781 wd_28 wd_48) rfl rfl rfl (by decide +kernel) ⟨by decide, by decide⟩) [0, 1, 2, 3, 4, 5, 6, 7, 8, 9, 10, 11, 12, 13] [] [0, 1, 2, 3, 4, 5, 6, 7, 8, 9, 10, 11, 12, 13] rfl (by decide) rfl (by decide) (by decide) (fun _ => rfl) (by decide) 0 rfl rfl rfl (Nat.le_of_ble_eq_true rfl) ⟨by decide, by decide⟩ dX7_swaps_34 (fun r u hr_6 => ?_)
        subst hr_6
        refine kw_istore_n C [(3, .int (nI qa)), (0, .ref (a 0)), (1, .int (nI ii)), (2, .int (nI jj))] dX7_swaps_37 rfl (by decide) rfl ?_
        refine kw_aload_n C 1 dX7_swaps_38 rfl ?_
        refine kw_iload_n C 3 dX7_swaps_39 rfl ?_
        refine kV_i (As := [.int (nI jj)]) (rest := []) (ws' := fun (u : Unit) => kMod y a (nI 0) Sr dr pa1_3 (nI U1_4) im ikp tx ty sn sm at1 pl tk vl fa pf odr gv mk bo bq) C (c_X7_placeOf l G y t a (nI 0) Sr dr pa1_3 (nI U1_4) im ikp tx ty sn sm at1 pl tk vl fa pf odr gv mk bo bq jj qb W H N pcl ik o bk kk (by first | assumption | omega | decide) (by first | assumption | omega | decide) (by first | assumption | omega | decide) (by first | assumption | omega | decide) (by first | assumption | omega | decide)) (cwV 1 C.2.2.2.2.1 (goodV cT wd_782 wd_779 wd_781 wd_28 wd_48) rfl rfl rfl (by decide +kernel) ⟨by decide, by decide⟩) [0, 1, 2, 3, 4, 5, 6, 7, 8, 9, 10, 11, 12, 13] [] [0, 1, 2, 3, 4, 5, 6, 7, 8, 9, 10, 11, 12, 13] rfl (by decide) rfl (by decide) (by decide) (fun _ => rfl) (by decide) 0 rfl rfl rfl (Nat.le_of_ble_eq_true rfl) ⟨by decide, by decide⟩ dX7_swaps_40 (fun r u hr_7 => ?_)
        subst hr_7
        refine kw_istore C [(4, .int (nI qb)), (3, .int (nI qa)), (0, .ref (a 0)), (1, .int (nI ii)), (2, .int (nI jj))] dX7_swaps_43 (by decide) rfl ?_
        refine kw_aload_n C 2 dX7_swaps_45 rfl ?_
        refine kw_get (v := .ref (a 1)) (T := TX7) C 0 1 rfl rfl (by decide) (fun w h => mT (fwX7 w h)) rfl (mT wd_616) rfl dX7_swaps_46 ?_
        refine kw_bipush (v := nI 45) C dX7_swaps_49 (by decide) ?_
        refine kw_iload_n C 1 dX7_swaps_51 rfl ?_
        refine kw_iadd C dX7_swaps_52 (kw_top (nI_add _ _) ?_)
        refine kw_iload_n C 4 dX7_swaps_53 rfl ?_
        refine kw_iast C 1 (kMod y a (nI 0) (upd Sr (45 + qa) (nI jj)) dr pa1_3 (nI U1_4) im ikp tx ty sn sm at1 pl tk vl fa pf odr gv mk bo bq) rfl (by omega) (by decide) dX7_swaps_54 rfl ?_
        refine kw_aload_n C 2 dX7_swaps_55 rfl ?_
        refine kw_get (v := .ref (a 1)) (T := TX7) C 0 1 rfl rfl (by decide) (fun w h => mT (fwX7 w h)) rfl (mT wd_616) rfl dX7_swaps_56 ?_
        refine kw_bipush (v := nI 45) C dX7_swaps_59 (by decide) ?_
        refine kw_iload C 0 dX7_swaps_61 rfl ?_
        refine kw_iadd C dX7_swaps_63 (kw_top (nI_add _ _) ?_)
        refine kw_iload_n C 3 dX7_swaps_64 rfl ?_
        refine kw_iast C 1 (kMod y a (nI 0) (upd (upd Sr (45 + qa) (nI jj)) (45 + qb) (nI ii)) dr pa1_3 (nI U1_4) im ikp tx ty sn sm at1 pl tk vl fa pf odr gv mk bo bq) rfl (by omega) (by decide) dX7_swaps_65 rfl ?_
        have hR2 := RowOk_sw hR hqa hqb hii hjj
        refine kw_aload_n C 2 dX7_swaps_66 rfl ?_
        refine kw_bipush (v := (-9)) C dX7_swaps_67 (by decide) ?_
        refine kw_iconst (v := nI 0) C dX7_swaps_69 (by decide) ?_
        refine kw_iconst (v := nI 0) C dX7_swaps_70 (by decide) ?_
        refine KW.ass (congrArg (fun zq => ([.int (nI 0), .int zq, .int (-9), .ref (a 0)] : List Value)) (show (nI 0) = (dI (4 % 3)) from by decide)) ?_
        refine KW.ass (congrArg (fun zq => ([.int zq, .int (dI (4 % 3)), .int (-9), .ref (a 0)] : List Value)) (show (nI 0) = (dI (4 / 3)) from by decide)) ?_
        refine kV_v (As := [.int (-9), .int (dI (4 % 3)), .int (dI (4 / 3))]) (rest := []) (ws' := fun (u : Unit) => kMod y a (nI 0) (upd (upd Sr (45 + qa) (nI jj)) (45 + qb) (nI ii)) dr pa1_3 (nI U1_4) im ikp tx ty sn sm at1 pl tk vl fa (aN (pvF W H bk ik (swO o qa qb ii jj) kk (-9) 4 N)) odr gv mk bo bq) C (c_X7_proves l G y t a (nI 0) (upd (upd Sr (45 + qa) (nI jj)) (45 + qb) (nI ii)) dr pa1_3 (nI U1_4) im ikp tx ty sn sm at1 pl tk vl fa pf odr gv mk bo bq (-9) 4 W H N pcl ik (swO o qa qb ii jj) bk kk (by exact hR2) (by decide)) (cwV 3 C.2.2.2.2.1 (goodV cT wd_786 wd_783 wd_785 wd_29 wd_48) rfl rfl rfl (by decide +kernel) ⟨by decide, by decide⟩) [0, 1, 2, 3, 4, 5, 6, 7, 8, 9, 10, 11, 12, 13] [] [0, 1, 2, 3, 4, 5, 6, 7, 8, 9, 10, 11, 12, 13] rfl (by decide) rfl (by decide) (by decide) (fun _ => rfl) (by decide) 0 rfl rfl rfl (Nat.le_of_ble_eq_true rfl) ⟨by decide, by decide⟩ dX7_swaps_71 (fun u hr_8 => ?_)
        refine kw_aload_n C 2 dX7_swaps_74 rfl ?_
        refine kV_i (As := []) (rest := []) (ws' := fun (u : Unit) => kMod y a (nI 0) (upd (upd Sr (45 + qa) (nI jj)) (45 + qb) (nI ii)) dr pa1_3 (nI U1_4) im ikp tx ty sn sm at1 pl tk vl fa (aN (pvF W H bk ik (swO o qa qb ii jj) kk (-9) 4 N)) odr gv mk bo bq) C (c_X7_wrongCells l G y t a (nI 0) (upd (upd Sr (45 + qa) (nI jj)) (45 + qb) (nI ii)) dr pa1_3 (nI U1_4) im ikp tx ty sn sm at1 pl tk vl fa odr gv mk bo bq (pvF W H bk ik (swO o qa qb ii jj) kk (-9) 4 N) W H N pcl ik (swO o qa qb ii jj) bk kk (by exact hR2) (by exact pvF_lt hink (RowOk_ord hR2) N (Nat.le_refl N))) (cwV 0 C.2.2.2.2.1 (goodV cT wd_794 wd_791 wd_793 wd_31 wd_48) rfl rfl rfl (by decide +kernel) ⟨by decide, by decide⟩) [0, 1, 2, 3, 4, 5, 6, 7, 8, 9, 10, 11, 12, 13] [] [0, 1, 2, 3, 4, 5, 6, 7, 8, 9, 10, 11, 12, 13] rfl (by decide) rfl (by decide) (by decide) (fun _ => rfl) (by decide) 0 rfl rfl rfl (Nat.le_of_ble_eq_true rfl) ⟨by decide, by decide⟩ dX7_swaps_75 (fun r u hr_9 => ?_)
        subst hr_9
        refine kR_i C (pa1_3, U1_4, aN (pvF W H bk ik (swO o qa qb ii jj) kk (-9) 4 N)) dX7_swaps_78 ?_ rfl
        exact ⟨rfl, hpo⟩
      ·
        omega

set_option maxHeartbeats 4000000 in
set_option maxRecDepth 100000 in
theorem c_X7_wrong_ok (l : Launch) (G : va_G) (y : Nat → ClassId) (t : Nat) (a : Nat → Nat) (th : Int32) (Sr : Nat → Int32) (dr : Nat → Int32) (pa : Nat → Int32) (um : Int32) (im : Nat → Int32) (ikp : Nat → Int32) (tx : Nat → Int32) (ty : Int32) (sn : Nat → Int32) (sm : Int32) (at1 : Int32) (pl : Int32) (tk : Int32) (vl : Int32) (fa : Int32) (pf : Nat → Int32) (odr : Nat → Int32) (gv : Nat → Int32) (mk : Nat → Int32) (bo : Nat → Int32) (bq : Nat → Int32) (W : Nat) (H : Nat) (N : Nat) (pcl : Nat → Nat) (ik : Nat → Nat) (o : Nat → Nat) (bk : Nat → Nat) (kk : Nat → Nat) (hR : RowOk Sr W H N pcl ik o bk kk) (sz : Nat) : Met l yX7_wrong (Cond.code yX7_wrong cX7_wrong 1 (some .int) :: TG) ({ frames := 3, cells := 0, slots := 0, locals := 74 }) (va_Pc [.ref (a 0)] (PR G y t (kMod y a th Sr dr pa um im ikp tx ty sn sm at1 pl tk vl fa pf odr gv mk bo bq) sz)) (va_Qi (fun (r : Int32) (u : Nat → Int32) => r = (nI (wcY (pvF W H bk ik o kk (-9) 4 N) pcl W H))) (fun (u : Nat → Int32) t => PO G (va_A (kMod y a th Sr dr pa um im ikp tx ty sn sm at1 pl tk vl fa pf odr gv mk bo bq) sz) (kMod y a (nI 0) Sr dr pa um im ikp tx ty sn sm at1 pl tk vl fa u odr gv mk bo bq) t) (va_A (kMod y a th Sr dr pa um im ikp tx ty sn sm at1 pl tk vl fa pf odr gv mk bo bq) sz)) 0 0 (va_A (kMod y a th Sr dr pa um im ikp tx ty sn sm at1 pl tk vl fa pf odr gv mk bo bq) sz) := by
  refine kMet (cc := cX7_wrong) (maxL := 1) (ret := some .int) (Qc := fun A => va_Qi (fun (r : Int32) (u : Nat → Int32) => r = (nI (wcY (pvF W H bk ik o kk (-9) 4 N) pcl W H))) (fun (u : Nat → Int32) t => PO G A (kMod y a (nI 0) Sr dr pa um im ikp tx ty sn sm at1 pl tk vl fa u odr gv mk bo bq) t) A) (by decide) rfl (Nat.le_of_ble_eq_true rfl) (fun p e s m below meth c A hsz C hin => ?_)
  obtain ⟨hS0, hS1, hS2, hW, hH, hN, hpic, hink, hord, hblk, hdx⟩ := id hR
  refine KW.loc (lv' := [(0, .ref (a 0))]) [0] rfl ?_
  refine kw_aload_n C 0 dX7_wrong_0 rfl ?_
  refine kw_iconst (v := nI 0) C dX7_wrong_1 (by decide) ?_
  refine kw_put (T := TX7) (ty := .int) C 0 0 (kMod y a (nI 0) Sr dr pa um im ikp tx ty sn sm at1 pl tk vl fa pf odr gv mk bo bq) rfl rfl (by decide) (fun w h => mT (fwX7 w h)) tyX7 tyX7_ok nmX7 rfl (mT wd_615) rfl (by decide +kernel) rfl rfl (Nat.le_of_ble_eq_true rfl) dX7_wrong_2 rfl ?_
  refine kw_aload_n C 0 dX7_wrong_5 rfl ?_
  refine kw_bipush (v := (-9)) C dX7_wrong_6 (by decide) ?_
  refine kw_iconst (v := nI 0) C dX7_wrong_8 (by decide) ?_
  refine kw_iconst (v := nI 0) C dX7_wrong_9 (by decide) ?_
  refine KW.ass (congrArg (fun zq => ([.int (nI 0), .int zq, .int (-9), .ref (a 0)] : List Value)) (show (nI 0) = (dI (4 % 3)) from by decide)) ?_
  refine KW.ass (congrArg (fun zq => ([.int zq, .int (dI (4 % 3)), .int (-9), .ref (a 0)] : List Value)) (show (nI 0) = (dI (4 / 3)) from by decide)) ?_
  refine kV_v (As := [.int (-9), .int (dI (4 % 3)), .int (dI (4 / 3))]) (rest := []) (ws' := fun (u : Unit) => kMod y a (nI 0) Sr dr pa um im ikp tx ty sn sm at1 pl tk vl fa (aN (pvF W H bk ik o kk (-9) 4 N)) odr gv mk bo bq) C (c_X7_proves l G y t a (nI 0) Sr dr pa um im ikp tx ty sn sm at1 pl tk vl fa pf odr gv mk bo bq (-9) 4 W H N pcl ik o bk kk (by exact hR) (by decide)) (cwV 3 C.2.2.2.2.1 (goodV cT wd_786 wd_783 wd_785 wd_29 wd_48) rfl rfl rfl (by decide +kernel) ⟨by decide, by decide⟩) [0, 1, 2, 3, 4, 5, 6, 7, 8, 9, 10, 11, 12, 13] [] [0, 1, 2, 3, 4, 5, 6, 7, 8, 9, 10, 11, 12, 13] rfl (by decide) rfl (by decide) (by decide) (fun _ => rfl) (by decide) 0 rfl rfl rfl (Nat.le_of_ble_eq_true rfl) ⟨by decide, by decide⟩ dX7_wrong_10 (fun u hr_1 => ?_)
  refine kw_aload_n C 0 dX7_wrong_13 rfl ?_
  refine kV_i (As := []) (rest := []) (ws' := fun (u : Unit) => kMod y a (nI 0) Sr dr pa um im ikp tx ty sn sm at1 pl tk vl fa (aN (pvF W H bk ik o kk (-9) 4 N)) odr gv mk bo bq) C (c_X7_wrongCells l G y t a (nI 0) Sr dr pa um im ikp tx ty sn sm at1 pl tk vl fa odr gv mk bo bq (pvF W H bk ik o kk (-9) 4 N) W H N pcl ik o bk kk (by exact hR) (by exact pvF_lt hink hord N (Nat.le_refl N))) (cwV 0 C.2.2.2.2.1 (goodV cT wd_794 wd_791 wd_793 wd_31 wd_48) rfl rfl rfl (by decide +kernel) ⟨by decide, by decide⟩) [0, 1, 2, 3, 4, 5, 6, 7, 8, 9, 10, 11, 12, 13] [] [0, 1, 2, 3, 4, 5, 6, 7, 8, 9, 10, 11, 12, 13] rfl (by decide) rfl (by decide) (by decide) (fun _ => rfl) (by decide) 0 rfl rfl rfl (Nat.le_of_ble_eq_true rfl) ⟨by decide, by decide⟩ dX7_wrong_14 (fun r u hr_2 => ?_)
  subst hr_2
  refine kR_i C (aN (pvF W H bk ik o kk (-9) 4 N)) dX7_wrong_17 ?_ rfl
  first | rfl | trivial | (simp; done) | omega

set_option maxHeartbeats 4000000 in
set_option maxRecDepth 100000 in
theorem c_X7_hurt_bad (l : Launch) (G : va_G) (y : Nat → ClassId) (t : Nat) (a : Nat → Nat) (th : Int32) (Sr : Nat → Int32) (dr : Nat → Int32) (pa : Nat → Int32) (um : Int32) (im : Nat → Int32) (ikp : Nat → Int32) (tx : Nat → Int32) (ty : Int32) (sn : Nat → Int32) (sm : Int32) (at1 : Int32) (pl : Int32) (tk : Int32) (vl : Int32) (fa : Int32) (pf : Nat → Int32) (odr : Nat → Int32) (gv : Nat → Int32) (mk : Nat → Int32) (bo : Nat → Int32) (bq : Nat → Int32) (i : Int32) (W : Nat) (H : Nat) (N : Nat) (pcl : Nat → Nat) (ik : Nat → Nat) (o : Nat → Nat) (bk : Nat → Nat) (kk : Nat → Nat) (hR : RowOk Sr W H N pcl ik o bk kk) (hb : ¬ inR i N) (sz : Nat) : Met l yX7_hurt (Cond.code yX7_hurt cX7_hurt 3 (some .int) :: TG) ({ frames := 2, cells := 0, slots := 0, locals := 43 }) (va_Pc [.ref (a 0), .int i] (PR G y t (kMod y a th Sr dr pa um im ikp tx ty sn sm at1 pl tk vl fa pf odr gv mk bo bq) sz)) (va_Qi (fun (r : Int32) (u : Unit) => r = (-1000000)) (fun (u : Unit) t => PO G (va_A (kMod y a th Sr dr pa um im ikp tx ty sn sm at1 pl tk vl fa pf odr gv mk bo bq) sz) (kMod y a (nI 0) Sr dr pa um im ikp tx ty sn sm at1 pl tk vl fa pf odr gv mk bo bq) t) (va_A (kMod y a th Sr dr pa um im ikp tx ty sn sm at1 pl tk vl fa pf odr gv mk bo bq) sz)) 0 0 (va_A (kMod y a th Sr dr pa um im ikp tx ty sn sm at1 pl tk vl fa pf odr gv mk bo bq) sz) := by
  refine kMet (cc := cX7_hurt) (maxL := 3) (ret := some .int) (Qc := fun A => va_Qi (fun (r : Int32) (u : Unit) => r = (-1000000)) (fun (u : Unit) t => PO G A (kMod y a (nI 0) Sr dr pa um im ikp tx ty sn sm at1 pl tk vl fa pf odr gv mk bo bq) t) A) (by decide) rfl (Nat.le_of_ble_eq_true rfl) (fun p e s m below meth c A hsz C hin => ?_)
  obtain ⟨hS0, hS1, hS2, hW, hH, hN, hpic, hink, hord, hblk, hdx⟩ := id hR
  refine KW.loc (lv' := [(0, .ref (a 0)), (1, .int i)]) [0, 1] rfl ?_
  refine kw_aload_n C 0 dX7_hurt_0 rfl ?_
  refine kw_iconst (v := nI 0) C dX7_hurt_1 (by decide) ?_
  refine kw_put (T := TX7) (ty := .int) C 0 0 (kMod y a (nI 0) Sr dr pa um im ikp tx ty sn sm at1 pl tk vl fa pf odr gv mk bo bq) rfl rfl (by decide) (fun w h => mT (fwX7 w h)) tyX7 tyX7_ok nmX7 rfl (mT wd_615) rfl (by decide +kernel) rfl rfl (Nat.le_of_ble_eq_true rfl) dX7_hurt_2 rfl ?_
  refine kw_aload_n C 0 dX7_hurt_5 rfl ?_
  refine kw_iload_n C 1 dX7_hurt_6 rfl ?_
  refine kV_i (As := [.int i]) (rest := []) (ws' := fun (u : Unit) => kMod y a (nI 0) Sr dr pa um im ikp tx ty sn sm at1 pl tk vl fa pf odr gv mk bo bq) C (c_X7_isInk l G y t a (nI 0) Sr dr pa um im ikp tx ty sn sm at1 pl tk vl fa pf odr gv mk bo bq i W H N pcl ik o bk kk (by first | assumption | omega | decide)) (cwV 1 C.2.2.2.2.1 (goodV cT wd_766 wd_763 wd_765 wd_26 wd_48) rfl rfl rfl (by decide +kernel) ⟨by decide, by decide⟩) [0, 1, 2, 3, 4, 5, 6, 7, 8, 9, 10, 11, 12, 13] [] [0, 1, 2, 3, 4, 5, 6, 7, 8, 9, 10, 11, 12, 13] rfl (by decide) rfl (by decide) (by decide) (fun _ => rfl) (by decide) 0 rfl rfl rfl (Nat.le_of_ble_eq_true rfl) ⟨by decide, by decide⟩ dX7_hurt_7 (fun r u hr_1 => ?_)
  subst hr_1
  refine kw_if_ne_D (tgt := 16) C dX7_hurt_10 (by decide) (fun c_10 => ?_) (fun c_10 => ?_)
  ·
    exact absurd c_10 hb
  ·
    refine kw_ldc (v := (-1000000)) C (mT wd_807) dX7_hurt_13 ?_
    refine kR_i C () dX7_hurt_15 ?_ rfl
    first | rfl | trivial | (simp; done) | omega

set_option maxHeartbeats 4000000 in
set_option maxRecDepth 100000 in
theorem c_X7_hurt_ok (l : Launch) (G : va_G) (y : Nat → ClassId) (t : Nat) (a : Nat → Nat) (th : Int32) (Sr : Nat → Int32) (dr : Nat → Int32) (pa : Nat → Int32) (um : Int32) (im : Nat → Int32) (ikp : Nat → Int32) (tx : Nat → Int32) (ty : Int32) (sn : Nat → Int32) (sm : Int32) (at1 : Int32) (pl : Int32) (tk : Int32) (vl : Int32) (fa : Int32) (pf : Nat → Int32) (odr : Nat → Int32) (gv : Nat → Int32) (mk : Nat → Int32) (bo : Nat → Int32) (bq : Nat → Int32) (ii : Nat) (W : Nat) (H : Nat) (N : Nat) (pcl : Nat → Nat) (ik : Nat → Nat) (o : Nat → Nat) (bk : Nat → Nat) (kk : Nat → Nat) (hR : RowOk Sr W H N pcl ik o bk kk) (hii : ii < N) (sz : Nat) : Met l yX7_hurt (Cond.code yX7_hurt cX7_hurt 3 (some .int) :: TG) ({ frames := 3, cells := 0, slots := 0, locals := 74 }) (va_Pc [.ref (a 0), .int (nI ii)] (PR G y t (kMod y a th Sr dr pa um im ikp tx ty sn sm at1 pl tk vl fa pf odr gv mk bo bq) sz)) (va_Qi (fun (r : Int32) (u : Nat → Int32) => r = (nI (wcY (pvF W H bk ik o kk (nI ii) (fur (kk ii)) N) pcl W H) - nI (wcY (pvF W H bk ik o kk (-9) 4 N) pcl W H))) (fun (u : Nat → Int32) t => PO G (va_A (kMod y a th Sr dr pa um im ikp tx ty sn sm at1 pl tk vl fa pf odr gv mk bo bq) sz) (kMod y a (nI 0) Sr dr pa um im ikp tx ty sn sm at1 pl tk vl fa u odr gv mk bo bq) t) (va_A (kMod y a th Sr dr pa um im ikp tx ty sn sm at1 pl tk vl fa pf odr gv mk bo bq) sz)) 0 0 (va_A (kMod y a th Sr dr pa um im ikp tx ty sn sm at1 pl tk vl fa pf odr gv mk bo bq) sz) := by
  refine kMet (cc := cX7_hurt) (maxL := 3) (ret := some .int) (Qc := fun A => va_Qi (fun (r : Int32) (u : Nat → Int32) => r = (nI (wcY (pvF W H bk ik o kk (nI ii) (fur (kk ii)) N) pcl W H) - nI (wcY (pvF W H bk ik o kk (-9) 4 N) pcl W H))) (fun (u : Nat → Int32) t => PO G A (kMod y a (nI 0) Sr dr pa um im ikp tx ty sn sm at1 pl tk vl fa u odr gv mk bo bq) t) A) (by decide) rfl (Nat.le_of_ble_eq_true rfl) (fun p e s m below meth c A hsz C hin => ?_)
  obtain ⟨hS0, hS1, hS2, hW, hH, hN, hpic, hink, hord, hblk, hdx⟩ := id hR
  refine KW.loc (lv' := [(0, .ref (a 0)), (1, .int (nI ii))]) [0, 1] rfl ?_
  refine kw_aload_n C 0 dX7_hurt_0 rfl ?_
  refine kw_iconst (v := nI 0) C dX7_hurt_1 (by decide) ?_
  refine kw_put (T := TX7) (ty := .int) C 0 0 (kMod y a (nI 0) Sr dr pa um im ikp tx ty sn sm at1 pl tk vl fa pf odr gv mk bo bq) rfl rfl (by decide) (fun w h => mT (fwX7 w h)) tyX7 tyX7_ok nmX7 rfl (mT wd_615) rfl (by decide +kernel) rfl rfl (Nat.le_of_ble_eq_true rfl) dX7_hurt_2 rfl ?_
  refine kw_aload_n C 0 dX7_hurt_5 rfl ?_
  refine kw_iload_n C 1 dX7_hurt_6 rfl ?_
  refine kV_i (As := [.int (nI ii)]) (rest := []) (ws' := fun (u : Unit) => kMod y a (nI 0) Sr dr pa um im ikp tx ty sn sm at1 pl tk vl fa pf odr gv mk bo bq) C (c_X7_isInk l G y t a (nI 0) Sr dr pa um im ikp tx ty sn sm at1 pl tk vl fa pf odr gv mk bo bq (nI ii) W H N pcl ik o bk kk (by first | assumption | omega | decide)) (cwV 1 C.2.2.2.2.1 (goodV cT wd_766 wd_763 wd_765 wd_26 wd_48) rfl rfl rfl (by decide +kernel) ⟨by decide, by decide⟩) [0, 1, 2, 3, 4, 5, 6, 7, 8, 9, 10, 11, 12, 13] [] [0, 1, 2, 3, 4, 5, 6, 7, 8, 9, 10, 11, 12, 13] rfl (by decide) rfl (by decide) (by decide) (fun _ => rfl) (by decide) 0 rfl rfl rfl (Nat.le_of_ble_eq_true rfl) ⟨by decide, by decide⟩ dX7_hurt_7 (fun r u hr_1 => ?_)
  subst hr_1
  refine kw_if_ne_D (tgt := 16) C dX7_hurt_10 (by decide) (fun c_10 => ?_) (fun c_10 => ?_)
  ·
    refine kw_aload_n C 0 dX7_hurt_16 rfl ?_
    refine kw_bipush (v := (-9)) C dX7_hurt_17 (by decide) ?_
    refine kw_iconst (v := nI 0) C dX7_hurt_19 (by decide) ?_
    refine kw_iconst (v := nI 0) C dX7_hurt_20 (by decide) ?_
    refine KW.ass (congrArg (fun zq => ([.int (nI 0), .int zq, .int (-9), .ref (a 0)] : List Value)) (show (nI 0) = (dI (4 % 3)) from by decide)) ?_
    refine KW.ass (congrArg (fun zq => ([.int zq, .int (dI (4 % 3)), .int (-9), .ref (a 0)] : List Value)) (show (nI 0) = (dI (4 / 3)) from by decide)) ?_
    refine kV_v (As := [.int (-9), .int (dI (4 % 3)), .int (dI (4 / 3))]) (rest := []) (ws' := fun (u : Unit) => kMod y a (nI 0) Sr dr pa um im ikp tx ty sn sm at1 pl tk vl fa (aN (pvF W H bk ik o kk (-9) 4 N)) odr gv mk bo bq) C (c_X7_proves l G y t a (nI 0) Sr dr pa um im ikp tx ty sn sm at1 pl tk vl fa pf odr gv mk bo bq (-9) 4 W H N pcl ik o bk kk (by exact hR) (by decide)) (cwV 3 C.2.2.2.2.1 (goodV cT wd_786 wd_783 wd_785 wd_29 wd_48) rfl rfl rfl (by decide +kernel) ⟨by decide, by decide⟩) [0, 1, 2, 3, 4, 5, 6, 7, 8, 9, 10, 11, 12, 13] [] [0, 1, 2, 3, 4, 5, 6, 7, 8, 9, 10, 11, 12, 13] rfl (by decide) rfl (by decide) (by decide) (fun _ => rfl) (by decide) 0 rfl rfl rfl (Nat.le_of_ble_eq_true rfl) ⟨by decide, by decide⟩ dX7_hurt_21 (fun u hr_2 => ?_)
    refine kw_aload_n C 0 dX7_hurt_24 rfl ?_
    refine kV_i (As := []) (rest := []) (ws' := fun (u : Unit) => kMod y a (nI 0) Sr dr pa um im ikp tx ty sn sm at1 pl tk vl fa (aN (pvF W H bk ik o kk (-9) 4 N)) odr gv mk bo bq) C (c_X7_wrongCells l G y t a (nI 0) Sr dr pa um im ikp tx ty sn sm at1 pl tk vl fa odr gv mk bo bq (pvF W H bk ik o kk (-9) 4 N) W H N pcl ik o bk kk (by exact hR) (by exact pvF_lt hink hord N (Nat.le_refl N))) (cwV 0 C.2.2.2.2.1 (goodV cT wd_794 wd_791 wd_793 wd_31 wd_48) rfl rfl rfl (by decide +kernel) ⟨by decide, by decide⟩) [0, 1, 2, 3, 4, 5, 6, 7, 8, 9, 10, 11, 12, 13] [] [0, 1, 2, 3, 4, 5, 6, 7, 8, 9, 10, 11, 12, 13] rfl (by decide) rfl (by decide) (by decide) (fun _ => rfl) (by decide) 0 rfl rfl rfl (Nat.le_of_ble_eq_true rfl) ⟨by decide, by decide⟩ dX7_hurt_25 (fun r u hr_3 => ?_)
    subst hr_3
    refine kw_istore_n C [(2, .int (nI (wcY (pvF W H bk ik o kk (-9) 4 N) pcl W H))), (0, .ref (a 0)), (1, .int (nI ii))] dX7_hurt_28 rfl (by decide) rfl ?_
    refine kw_aload_n C 1 dX7_hurt_29 rfl ?_
    refine kw_iload_n C 2 dX7_hurt_30 rfl ?_
    refine kw_aload_n C 1 dX7_hurt_31 rfl ?_
    refine kw_get (v := .ref (a 1)) (T := TX7) C 0 1 rfl rfl (by decide) (fun w h => mT (fwX7 w h)) rfl (mT wd_616) rfl dX7_hurt_32 ?_
    refine kw_bipush (v := nI 87) C dX7_hurt_35 (by decide) ?_
    refine kw_iload_n C 2 dX7_hurt_37 rfl ?_
    refine kw_iadd C dX7_hurt_38 (kw_top (nI_add _ _) ?_)
    refine kw_iald (f := Sr) C 1 rfl (by omega) (by decide) dX7_hurt_39 ?_
    refine kw_top (show (Sr (87 + ii)) = (dI (kk (ii) % 3)) from by exact (hdx (ii) (by first | assumption | omega)).1) ?_
    have hl_39 := (hdx (ii) (by first | assumption | omega)).2.2
    have hk9 := (hdx ii hii).2.2
    refine kw_iconst (v := nI 1) C dX7_hurt_40 (by decide) ?_
    have J59_4 : ∀ (_ : Unit), KW p l e ({ frames := 3, cells := 0, slots := 0, locals := 74 }) s m ([.ref (a 0), .int (nI ii)] : List Value).toArray below meth c 0 0 (MQ below (va_Qi (fun (r : Int32) (u : Nat → Int32) => r = (nI (wcY (pvF W H bk ik o kk (nI ii) (fur (kk ii)) N) pcl W H) - nI (wcY (pvF W H bk ik o kk (-9) 4 N) pcl W H))) (fun (u : Nat → Int32) t => PO G A (kMod y a (nI 0) Sr dr pa um im ikp tx ty sn sm at1 pl tk vl fa u odr gv mk bo bq) t) A) ([.ref (a 0), .int (nI ii)] : List Value).toArray s 0 0 A) G A 3 (kMod y a (nI 0) Sr dr pa um im ikp tx ty sn sm at1 pl tk vl fa (aN (pvF W H bk ik o kk (-9) 4 N)) odr gv mk bo bq) [(2, .int (nI (wcY (pvF W H bk ik o kk (-9) 4 N) pcl W H))), (0, .ref (a 0)), (1, .int (nI ii))] 59 [.int (dI (fur (kk ii) % 3)), .int (nI ii), .ref (a 0)] := by
      intro _
      refine kw_aload_n C 1 dX7_hurt_59 rfl ?_
      refine kw_get (v := .ref (a 1)) (T := TX7) C 0 1 rfl rfl (by decide) (fun w h => mT (fwX7 w h)) rfl (mT wd_616) rfl dX7_hurt_60 ?_
      refine kw_bipush (v := nI 93) C dX7_hurt_63 (by decide) ?_
      refine kw_iload_n C 2 dX7_hurt_65 rfl ?_
      refine kw_iadd C dX7_hurt_66 (kw_top (nI_add _ _) ?_)
      refine kw_iald (f := Sr) C 1 rfl (by omega) (by decide) dX7_hurt_67 ?_
      refine kw_top (show (Sr (93 + ii)) = (dI (fur (kk ii) / 3)) from by rw [(hdx ii hii).2.1]; exact fur_y _ (hdx ii hii).2.2) ?_
      refine kV_v (As := [.int (nI ii), .int (dI (fur (kk ii) % 3)), .int (dI (fur (kk ii) / 3))]) (rest := []) (ws' := fun (u : Unit) => kMod y a (nI 0) Sr dr pa um im ikp tx ty sn sm at1 pl tk vl fa (aN (pvF W H bk ik o kk (nI ii) (fur (kk ii)) N)) odr gv mk bo bq) C (c_X7_proves l G y t a (nI 0) Sr dr pa um im ikp tx ty sn sm at1 pl tk vl fa (aN (pvF W H bk ik o kk (-9) 4 N)) odr gv mk bo bq (nI ii) (fur (kk ii)) W H N pcl ik o bk kk (by exact hR) (by exact fur_lt _ (hdx ii hii).2.2)) (cwV 3 C.2.2.2.2.1 (goodV cT wd_786 wd_783 wd_785 wd_29 wd_48) rfl rfl rfl (by decide +kernel) ⟨by decide, by decide⟩) [0, 1, 2, 3, 4, 5, 6, 7, 8, 9, 10, 11, 12, 13] [] [0, 1, 2, 3, 4, 5, 6, 7, 8, 9, 10, 11, 12, 13] rfl (by decide) rfl (by decide) (by decide) (fun _ => rfl) (by decide) 0 rfl rfl rfl (Nat.le_of_ble_eq_true rfl) ⟨by decide, by decide⟩ dX7_hurt_68 (fun u hr_5 => ?_)
      refine kw_aload_n C 1 dX7_hurt_71 rfl ?_
      refine kV_i (As := []) (rest := []) (ws' := fun (u : Unit) => kMod y a (nI 0) Sr dr pa um im ikp tx ty sn sm at1 pl tk vl fa (aN (pvF W H bk ik o kk (nI ii) (fur (kk ii)) N)) odr gv mk bo bq) C (c_X7_wrongCells l G y t a (nI 0) Sr dr pa um im ikp tx ty sn sm at1 pl tk vl fa odr gv mk bo bq (pvF W H bk ik o kk (nI ii) (fur (kk ii)) N) W H N pcl ik o bk kk (by exact hR) (by exact pvF_lt hink hord N (Nat.le_refl N))) (cwV 0 C.2.2.2.2.1 (goodV cT wd_794 wd_791 wd_793 wd_31 wd_48) rfl rfl rfl (by decide +kernel) ⟨by decide, by decide⟩) [0, 1, 2, 3, 4, 5, 6, 7, 8, 9, 10, 11, 12, 13] [] [0, 1, 2, 3, 4, 5, 6, 7, 8, 9, 10, 11, 12, 13] rfl (by decide) rfl (by decide) (by decide) (fun _ => rfl) (by decide) 0 rfl rfl rfl (Nat.le_of_ble_eq_true rfl) ⟨by decide, by decide⟩ dX7_hurt_72 (fun r u hr_6 => ?_)
      subst hr_6
      refine kw_iload_n C 0 dX7_hurt_75 rfl ?_
      refine kw_isub C dX7_hurt_76 ?_
      refine kR_i C (aN (pvF W H bk ik o kk (nI ii) (fur (kk ii)) N)) dX7_hurt_77 ?_ rfl
      first | rfl | trivial | (simp; done) | omega
    refine kw_icmp_ne (tgt := 48) C dX7_hurt_41 (by decide) (fun c_41 => ?_) (fun c_41 => ?_)
    ·
      refine kw_aload_n C 1 dX7_hurt_48 rfl ?_
      refine kw_get (v := .ref (a 1)) (T := TX7) C 0 1 rfl rfl (by decide) (fun w h => mT (fwX7 w h)) rfl (mT wd_616) rfl dX7_hurt_49 ?_
      refine kw_bipush (v := nI 87) C dX7_hurt_52 (by decide) ?_
      refine kw_iload_n C 2 dX7_hurt_54 rfl ?_
      refine kw_iadd C dX7_hurt_55 (kw_top (nI_add _ _) ?_)
      refine kw_iald (f := Sr) C 1 rfl (by omega) (by decide) dX7_hurt_56 ?_
      refine kw_top (show (Sr (87 + ii)) = (dI (kk (ii) % 3)) from by exact (hdx (ii) (by first | assumption | omega)).1) ?_
      have hl_56 := (hdx (ii) (by first | assumption | omega)).2.2
      refine kw_iconst (v := nI 1) C dX7_hurt_57 (by decide) ?_
      refine kw_iadd C dX7_hurt_58 ?_
      refine KW.loc (lv' := [(2, .int (nI (wcY (pvF W H bk ik o kk (-9) 4 N) pcl W H))), (0, .ref (a 0)), (1, .int (nI ii))]) [0, 1, 2] rfl ?_
      refine KW.ass (congrArg (fun zq => ([.int zq, .int (nI ii), .ref (a 0)] : List Value)) (show ((dI (kk (ii) % 3)) + (nI 1)) = (dI (fur (kk ii) % 3)) from by first | exact fur_x1 _ (hdx ii hii).2.2 c_41 | exact fur_x2 _ (hdx ii hii).2.2 c_41)) ?_
      exact J59_4 ()
    ·
      refine kw_iconst (v := nI 0) C dX7_hurt_44 (by decide) ?_
      refine kw_goto (tgt := 59) C dX7_hurt_45 (by decide) ?_
      refine KW.loc (lv' := [(2, .int (nI (wcY (pvF W H bk ik o kk (-9) 4 N) pcl W H))), (0, .ref (a 0)), (1, .int (nI ii))]) [0, 1, 2] rfl ?_
      refine KW.ass (congrArg (fun zq => ([.int zq, .int (nI ii), .ref (a 0)] : List Value)) (show (nI 0) = (dI (fur (kk ii) % 3)) from by first | exact fur_x1 _ (hdx ii hii).2.2 c_41 | exact fur_x2 _ (hdx ii hii).2.2 c_41)) ?_
      exact J59_4 ()
  ·
    exact absurd (inR_of hii (by omega)) c_10

set_option maxHeartbeats 4000000 in
set_option maxRecDepth 100000 in
theorem c_X7_cell_bad (l : Launch) (G : va_G) (y : Nat → ClassId) (t : Nat) (a : Nat → Nat) (th : Int32) (Sr : Nat → Int32) (dr : Nat → Int32) (pa : Nat → Int32) (um : Int32) (im : Nat → Int32) (ikp : Nat → Int32) (tx : Nat → Int32) (ty : Int32) (sn : Nat → Int32) (sm : Int32) (at1 : Int32) (pl : Int32) (tk : Int32) (vl : Int32) (fa : Int32) (pf : Nat → Int32) (odr : Nat → Int32) (gv : Nat → Int32) (mk : Nat → Int32) (bo : Nat → Int32) (bq : Nat → Int32) (x : Int32) (z : Int32) (wh : Int32) (W : Nat) (H : Nat) (N : Nat) (pcl : Nat → Nat) (ik : Nat → Nat) (o : Nat → Nat) (bk : Nat → Nat) (kk : Nat → Nat) (hR : RowOk Sr W H N pcl ik o bk kk) (hb : ¬ ((inR x W ∧ inR z H) ∧ inR wh 3)) (sz : Nat) : Met l yX7_cell (Cond.code yX7_cell cX7_cell 6 (some .int) :: TG) ({ frames := 2, cells := 0, slots := 0, locals := 44 }) (va_Pc [.ref (a 0), .int x, .int z, .int wh] (PR G y t (kMod y a th Sr dr pa um im ikp tx ty sn sm at1 pl tk vl fa pf odr gv mk bo bq) sz)) (va_Qi (fun (r : Int32) (u : Unit) => r = (-1)) (fun (u : Unit) t => PO G (va_A (kMod y a th Sr dr pa um im ikp tx ty sn sm at1 pl tk vl fa pf odr gv mk bo bq) sz) (kMod y a (nI 0) Sr dr pa um im ikp tx ty sn sm at1 pl tk vl fa pf odr gv mk bo bq) t) (va_A (kMod y a th Sr dr pa um im ikp tx ty sn sm at1 pl tk vl fa pf odr gv mk bo bq) sz)) 0 0 (va_A (kMod y a th Sr dr pa um im ikp tx ty sn sm at1 pl tk vl fa pf odr gv mk bo bq) sz) := by
  refine kMet (cc := cX7_cell) (maxL := 6) (ret := some .int) (Qc := fun A => va_Qi (fun (r : Int32) (u : Unit) => r = (-1)) (fun (u : Unit) t => PO G A (kMod y a (nI 0) Sr dr pa um im ikp tx ty sn sm at1 pl tk vl fa pf odr gv mk bo bq) t) A) (by decide) rfl (Nat.le_of_ble_eq_true rfl) (fun p e s m below meth c A hsz C hin => ?_)
  obtain ⟨hS0, hS1, hS2, hW, hH, hN, hpic, hink, hord, hblk, hdx⟩ := id hR
  refine KW.loc (lv' := [(0, .ref (a 0)), (1, .int x), (2, .int z), (3, .int wh)]) [0, 1, 2, 3] rfl ?_
  refine kw_aload_n C 0 dX7_cell_0 rfl ?_
  refine kw_iconst (v := nI 0) C dX7_cell_1 (by decide) ?_
  refine kw_put (T := TX7) (ty := .int) C 0 0 (kMod y a (nI 0) Sr dr pa um im ikp tx ty sn sm at1 pl tk vl fa pf odr gv mk bo bq) rfl rfl (by decide) (fun w h => mT (fwX7 w h)) tyX7 tyX7_ok nmX7 rfl (mT wd_615) rfl (by decide +kernel) rfl rfl (Nat.le_of_ble_eq_true rfl) dX7_cell_2 rfl ?_
  refine kw_aload_n C 0 dX7_cell_5 rfl ?_
  refine kw_iload_n C 1 dX7_cell_6 rfl ?_
  refine kw_iload_n C 2 dX7_cell_7 rfl ?_
  refine kV_i (As := [.int x, .int z]) (rest := []) (ws' := fun (u : Unit) => kMod y a (nI 0) Sr dr pa um im ikp tx ty sn sm at1 pl tk vl fa pf odr gv mk bo bq) C (c_X7_isCell l G y t a (nI 0) Sr dr pa um im ikp tx ty sn sm at1 pl tk vl fa pf odr gv mk bo bq x z W H N pcl ik o bk kk (by first | assumption | omega | decide)) (cwV 2 C.2.2.2.2.1 (goodV cT wd_770 wd_767 wd_769 wd_27 wd_48) rfl rfl rfl (by decide +kernel) ⟨by decide, by decide⟩) [0, 1, 2, 3, 4, 5, 6, 7, 8, 9, 10, 11, 12, 13] [] [0, 1, 2, 3, 4, 5, 6, 7, 8, 9, 10, 11, 12, 13] rfl (by decide) rfl (by decide) (by decide) (fun _ => rfl) (by decide) 0 rfl rfl rfl (Nat.le_of_ble_eq_true rfl) ⟨by decide, by decide⟩ dX7_cell_8 (fun r u hr_1 => ?_)
  subst hr_1
  refine kw_if_eq_D (tgt := 23) C dX7_cell_11 (by decide) (fun c_11 => ?_) (fun c_11 => ?_)
  ·
    refine kw_iconst (v := (-1)) C dX7_cell_23 (by decide) ?_
    refine kR_i C () dX7_cell_24 ?_ rfl
    first | rfl | trivial | (simp; done) | omega
  ·
    refine kw_iload_n C 3 dX7_cell_14 rfl ?_
    refine kw_iconst (v := nI 0) C dX7_cell_15 (by decide) ?_
    refine kw_iconst (v := nI 2) C dX7_cell_16 (by decide) ?_
    refine kS_i (As := [.int wh, .int (nI 0), .int (nI 2)]) (rest := []) (ws' := fun (u : Unit) => kMod y a (nI 0) Sr dr pa um im ikp tx ty sn sm at1 pl tk vl fa pf odr gv mk bo bq) C (c_X7_in l G y t wh (nI 0) (nI 2)) (va_cwS 3 C.2.2.2.2.1 (goodS cT wd_688 wd_686 wd_687 wd_48) rfl rfl rfl (by decide +kernel) ⟨by decide, by decide⟩) [] [0, 1, 2, 3, 4, 5, 6, 7, 8, 9, 10, 11, 12, 13] [0, 1, 2, 3, 4, 5, 6, 7, 8, 9, 10, 11, 12, 13] rfl (by decide) rfl (by decide) (by decide) (fun _ => rfl) (by decide) rfl (Nat.le_of_ble_eq_true rfl) ⟨by decide, by decide⟩ dX7_cell_17 (fun r u hr_2 => ?_)
    subst hr_2
    refine kw_if_ne_D (tgt := 25) C dX7_cell_20 (by decide) (fun c_20 => ?_) (fun c_20 => ?_)
    ·
      exact absurd ⟨c_11, (in_R1 (by decide)).mp c_20⟩ hb
    ·
      refine kw_iconst (v := (-1)) C dX7_cell_23 (by decide) ?_
      refine kR_i C () dX7_cell_24 ?_ rfl
      first | rfl | trivial | (simp; done) | omega

set_option maxHeartbeats 4000000 in
set_option maxRecDepth 100000 in
theorem c_X7_cell_0 (l : Launch) (G : va_G) (y : Nat → ClassId) (t : Nat) (a : Nat → Nat) (th : Int32) (Sr : Nat → Int32) (dr : Nat → Int32) (pa : Nat → Int32) (um : Int32) (im : Nat → Int32) (ikp : Nat → Int32) (tx : Nat → Int32) (ty : Int32) (sn : Nat → Int32) (sm : Int32) (at1 : Int32) (pl : Int32) (tk : Int32) (vl : Int32) (fa : Int32) (pf : Nat → Int32) (odr : Nat → Int32) (gv : Nat → Int32) (mk : Nat → Int32) (bo : Nat → Int32) (bq : Nat → Int32) (xx : Nat) (zz : Nat) (W : Nat) (H : Nat) (N : Nat) (pcl : Nat → Nat) (ik : Nat → Nat) (o : Nat → Nat) (bk : Nat → Nat) (kk : Nat → Nat) (hR : RowOk Sr W H N pcl ik o bk kk) (hxx : xx < W) (hzz : zz < H) (sz : Nat) : Met l yX7_cell (Cond.code yX7_cell cX7_cell 6 (some .int) :: TG) ({ frames := 2, cells := 0, slots := 0, locals := 44 }) (va_Pc [.ref (a 0), .int (nI xx), .int (nI zz), .int (nI 0)] (PR G y t (kMod y a th Sr dr pa um im ikp tx ty sn sm at1 pl tk vl fa pf odr gv mk bo bq) sz)) (va_Qi (fun (r : Int32) (u : Unit) => r = (nI (pcl (6 * zz + xx)))) (fun (u : Unit) t => PO G (va_A (kMod y a th Sr dr pa um im ikp tx ty sn sm at1 pl tk vl fa pf odr gv mk bo bq) sz) (kMod y a (nI 0) Sr dr pa um im ikp tx ty sn sm at1 pl tk vl fa pf odr gv mk bo bq) t) (va_A (kMod y a th Sr dr pa um im ikp tx ty sn sm at1 pl tk vl fa pf odr gv mk bo bq) sz)) 0 0 (va_A (kMod y a th Sr dr pa um im ikp tx ty sn sm at1 pl tk vl fa pf odr gv mk bo bq) sz) := by
  refine kMet (cc := cX7_cell) (maxL := 6) (ret := some .int) (Qc := fun A => va_Qi (fun (r : Int32) (u : Unit) => r = (nI (pcl (6 * zz + xx)))) (fun (u : Unit) t => PO G A (kMod y a (nI 0) Sr dr pa um im ikp tx ty sn sm at1 pl tk vl fa pf odr gv mk bo bq) t) A) (by decide) rfl (Nat.le_of_ble_eq_true rfl) (fun p e s m below meth c A hsz C hin => ?_)
  obtain ⟨hS0, hS1, hS2, hW, hH, hN, hpic, hink, hord, hblk, hdx⟩ := id hR
  refine KW.loc (lv' := [(0, .ref (a 0)), (1, .int (nI xx)), (2, .int (nI zz)), (3, .int (nI 0))]) [0, 1, 2, 3] rfl ?_
  refine kw_aload_n C 0 dX7_cell_0 rfl ?_
  refine kw_iconst (v := nI 0) C dX7_cell_1 (by decide) ?_
  refine kw_put (T := TX7) (ty := .int) C 0 0 (kMod y a (nI 0) Sr dr pa um im ikp tx ty sn sm at1 pl tk vl fa pf odr gv mk bo bq) rfl rfl (by decide) (fun w h => mT (fwX7 w h)) tyX7 tyX7_ok nmX7 rfl (mT wd_615) rfl (by decide +kernel) rfl rfl (Nat.le_of_ble_eq_true rfl) dX7_cell_2 rfl ?_
  refine kw_aload_n C 0 dX7_cell_5 rfl ?_
  refine kw_iload_n C 1 dX7_cell_6 rfl ?_
  refine kw_iload_n C 2 dX7_cell_7 rfl ?_
  refine kV_i (As := [.int (nI xx), .int (nI zz)]) (rest := []) (ws' := fun (u : Unit) => kMod y a (nI 0) Sr dr pa um im ikp tx ty sn sm at1 pl tk vl fa pf odr gv mk bo bq) C (c_X7_isCell l G y t a (nI 0) Sr dr pa um im ikp tx ty sn sm at1 pl tk vl fa pf odr gv mk bo bq (nI xx) (nI zz) W H N pcl ik o bk kk (by first | assumption | omega | decide)) (cwV 2 C.2.2.2.2.1 (goodV cT wd_770 wd_767 wd_769 wd_27 wd_48) rfl rfl rfl (by decide +kernel) ⟨by decide, by decide⟩) [0, 1, 2, 3, 4, 5, 6, 7, 8, 9, 10, 11, 12, 13] [] [0, 1, 2, 3, 4, 5, 6, 7, 8, 9, 10, 11, 12, 13] rfl (by decide) rfl (by decide) (by decide) (fun _ => rfl) (by decide) 0 rfl rfl rfl (Nat.le_of_ble_eq_true rfl) ⟨by decide, by decide⟩ dX7_cell_8 (fun r u hr_1 => ?_)
  subst hr_1
  refine kw_if_eq_D (tgt := 23) C dX7_cell_11 (by decide) (fun c_11 => ?_) (fun c_11 => ?_)
  ·
    exact absurd (And.intro (inR_of hxx (by omega)) (inR_of hzz (by omega))) c_11
  ·
    refine kw_iload_n C 3 dX7_cell_14 rfl ?_
    refine kw_iconst (v := nI 0) C dX7_cell_15 (by decide) ?_
    refine kw_iconst (v := nI 2) C dX7_cell_16 (by decide) ?_
    refine kS_i (As := [.int (nI 0), .int (nI 0), .int (nI 2)]) (rest := []) (ws' := fun (u : Unit) => kMod y a (nI 0) Sr dr pa um im ikp tx ty sn sm at1 pl tk vl fa pf odr gv mk bo bq) C (c_X7_in l G y t (nI 0) (nI 0) (nI 2)) (va_cwS 3 C.2.2.2.2.1 (goodS cT wd_688 wd_686 wd_687 wd_48) rfl rfl rfl (by decide +kernel) ⟨by decide, by decide⟩) [] [0, 1, 2, 3, 4, 5, 6, 7, 8, 9, 10, 11, 12, 13] [0, 1, 2, 3, 4, 5, 6, 7, 8, 9, 10, 11, 12, 13] rfl (by decide) rfl (by decide) (by decide) (fun _ => rfl) (by decide) rfl (Nat.le_of_ble_eq_true rfl) ⟨by decide, by decide⟩ dX7_cell_17 (fun r u hr_2 => ?_)
    subst hr_2
    refine kw_if_ne_D (tgt := 25) C dX7_cell_20 (by decide) (fun c_20 => ?_) (fun c_20 => ?_)
    ·
      refine kw_iload_n C 3 dX7_cell_25 rfl ?_
      refine kw_if_ne_N (tgt := 43) C (by omega) dX7_cell_26 (by decide) (fun c_26 => ?_) (fun c_26 => ?_)
      ·
        omega
      ·
        refine kw_aload_n C 0 dX7_cell_29 rfl ?_
        refine kw_get (v := .ref (a 1)) (T := TX7) C 0 1 rfl rfl (by decide) (fun w h => mT (fwX7 w h)) rfl (mT wd_616) rfl dX7_cell_30 ?_
        refine kw_iconst (v := nI 3) C dX7_cell_33 (by decide) ?_
        refine kw_bipush (v := nI 6) C dX7_cell_34 (by decide) ?_
        refine kw_iload_n C 2 dX7_cell_36 rfl ?_
        refine kw_imul C dX7_cell_37 (kw_top (pk_mul _ _) ?_)
        refine kw_iadd C dX7_cell_38 (kw_top (nI_add _ _) ?_)
        refine kw_iload_n C 1 dX7_cell_39 rfl ?_
        refine kw_iadd C dX7_cell_40 (kw_top (nI_add _ _) ?_)
        refine kw_iald (f := Sr) C 1 rfl (by omega) (by decide) dX7_cell_41 ?_
        refine kw_top (show (Sr ((3 + (6 * zz)) + xx)) = (nI (pcl (6 * zz + xx))) from by exact (hpic (zz) (xx) (by first | assumption | omega) (by first | assumption | omega)).1) ?_
        have hl_41 := (hpic (zz) (xx) (by first | assumption | omega) (by first | assumption | omega)).2
        refine kR_i C () dX7_cell_42 ?_ rfl
        first | rfl | trivial | (simp; done) | omega
    ·
      exact absurd (by decide) c_20

set_option maxHeartbeats 4000000 in
set_option maxRecDepth 100000 in
theorem c_X7_cell_1 (l : Launch) (G : va_G) (y : Nat → ClassId) (t : Nat) (a : Nat → Nat) (th : Int32) (Sr : Nat → Int32) (dr : Nat → Int32) (pa : Nat → Int32) (um : Int32) (im : Nat → Int32) (ikp : Nat → Int32) (tx : Nat → Int32) (ty : Int32) (sn : Nat → Int32) (sm : Int32) (at1 : Int32) (pl : Int32) (tk : Int32) (vl : Int32) (fa : Int32) (pf : Nat → Int32) (odr : Nat → Int32) (gv : Nat → Int32) (mk : Nat → Int32) (bo : Nat → Int32) (bq : Nat → Int32) (xx : Nat) (zz : Nat) (W : Nat) (H : Nat) (N : Nat) (pcl : Nat → Nat) (ik : Nat → Nat) (o : Nat → Nat) (bk : Nat → Nat) (kk : Nat → Nat) (hR : RowOk Sr W H N pcl ik o bk kk) (hxx : xx < W) (hzz : zz < H) (sz : Nat) : Met l yX7_cell (Cond.code yX7_cell cX7_cell 6 (some .int) :: TG) ({ frames := 3, cells := 0, slots := 0, locals := 74 }) (va_Pc [.ref (a 0), .int (nI xx), .int (nI zz), .int (nI 1)] (PR G y t (kMod y a th Sr dr pa um im ikp tx ty sn sm at1 pl tk vl fa pf odr gv mk bo bq) sz)) (va_Qi (fun (r : Int32) (u : Nat → Int32) => r = (nI (pvF W H bk ik o kk (-9) 4 N (6 * zz + xx)))) (fun (u : Nat → Int32) t => PO G (va_A (kMod y a th Sr dr pa um im ikp tx ty sn sm at1 pl tk vl fa pf odr gv mk bo bq) sz) (kMod y a (nI 0) Sr dr pa um im ikp tx ty sn sm at1 pl tk vl fa u odr gv mk bo bq) t) (va_A (kMod y a th Sr dr pa um im ikp tx ty sn sm at1 pl tk vl fa pf odr gv mk bo bq) sz)) 0 0 (va_A (kMod y a th Sr dr pa um im ikp tx ty sn sm at1 pl tk vl fa pf odr gv mk bo bq) sz) := by
  refine kMet (cc := cX7_cell) (maxL := 6) (ret := some .int) (Qc := fun A => va_Qi (fun (r : Int32) (u : Nat → Int32) => r = (nI (pvF W H bk ik o kk (-9) 4 N (6 * zz + xx)))) (fun (u : Nat → Int32) t => PO G A (kMod y a (nI 0) Sr dr pa um im ikp tx ty sn sm at1 pl tk vl fa u odr gv mk bo bq) t) A) (by decide) rfl (Nat.le_of_ble_eq_true rfl) (fun p e s m below meth c A hsz C hin => ?_)
  obtain ⟨hS0, hS1, hS2, hW, hH, hN, hpic, hink, hord, hblk, hdx⟩ := id hR
  refine KW.loc (lv' := [(0, .ref (a 0)), (1, .int (nI xx)), (2, .int (nI zz)), (3, .int (nI 1))]) [0, 1, 2, 3] rfl ?_
  refine kw_aload_n C 0 dX7_cell_0 rfl ?_
  refine kw_iconst (v := nI 0) C dX7_cell_1 (by decide) ?_
  refine kw_put (T := TX7) (ty := .int) C 0 0 (kMod y a (nI 0) Sr dr pa um im ikp tx ty sn sm at1 pl tk vl fa pf odr gv mk bo bq) rfl rfl (by decide) (fun w h => mT (fwX7 w h)) tyX7 tyX7_ok nmX7 rfl (mT wd_615) rfl (by decide +kernel) rfl rfl (Nat.le_of_ble_eq_true rfl) dX7_cell_2 rfl ?_
  refine kw_aload_n C 0 dX7_cell_5 rfl ?_
  refine kw_iload_n C 1 dX7_cell_6 rfl ?_
  refine kw_iload_n C 2 dX7_cell_7 rfl ?_
  refine kV_i (As := [.int (nI xx), .int (nI zz)]) (rest := []) (ws' := fun (u : Unit) => kMod y a (nI 0) Sr dr pa um im ikp tx ty sn sm at1 pl tk vl fa pf odr gv mk bo bq) C (c_X7_isCell l G y t a (nI 0) Sr dr pa um im ikp tx ty sn sm at1 pl tk vl fa pf odr gv mk bo bq (nI xx) (nI zz) W H N pcl ik o bk kk (by first | assumption | omega | decide)) (cwV 2 C.2.2.2.2.1 (goodV cT wd_770 wd_767 wd_769 wd_27 wd_48) rfl rfl rfl (by decide +kernel) ⟨by decide, by decide⟩) [0, 1, 2, 3, 4, 5, 6, 7, 8, 9, 10, 11, 12, 13] [] [0, 1, 2, 3, 4, 5, 6, 7, 8, 9, 10, 11, 12, 13] rfl (by decide) rfl (by decide) (by decide) (fun _ => rfl) (by decide) 0 rfl rfl rfl (Nat.le_of_ble_eq_true rfl) ⟨by decide, by decide⟩ dX7_cell_8 (fun r u hr_1 => ?_)
  subst hr_1
  refine kw_if_eq_D (tgt := 23) C dX7_cell_11 (by decide) (fun c_11 => ?_) (fun c_11 => ?_)
  ·
    exact absurd (And.intro (inR_of hxx (by omega)) (inR_of hzz (by omega))) c_11
  ·
    refine kw_iload_n C 3 dX7_cell_14 rfl ?_
    refine kw_iconst (v := nI 0) C dX7_cell_15 (by decide) ?_
    refine kw_iconst (v := nI 2) C dX7_cell_16 (by decide) ?_
    refine kS_i (As := [.int (nI 1), .int (nI 0), .int (nI 2)]) (rest := []) (ws' := fun (u : Unit) => kMod y a (nI 0) Sr dr pa um im ikp tx ty sn sm at1 pl tk vl fa pf odr gv mk bo bq) C (c_X7_in l G y t (nI 1) (nI 0) (nI 2)) (va_cwS 3 C.2.2.2.2.1 (goodS cT wd_688 wd_686 wd_687 wd_48) rfl rfl rfl (by decide +kernel) ⟨by decide, by decide⟩) [] [0, 1, 2, 3, 4, 5, 6, 7, 8, 9, 10, 11, 12, 13] [0, 1, 2, 3, 4, 5, 6, 7, 8, 9, 10, 11, 12, 13] rfl (by decide) rfl (by decide) (by decide) (fun _ => rfl) (by decide) rfl (Nat.le_of_ble_eq_true rfl) ⟨by decide, by decide⟩ dX7_cell_17 (fun r u hr_2 => ?_)
    subst hr_2
    refine kw_if_ne_D (tgt := 25) C dX7_cell_20 (by decide) (fun c_20 => ?_) (fun c_20 => ?_)
    ·
      refine kw_iload_n C 3 dX7_cell_25 rfl ?_
      refine kw_if_ne_N (tgt := 43) C (by omega) dX7_cell_26 (by decide) (fun c_26 => ?_) (fun c_26 => ?_)
      ·
        refine kw_iload_n C 3 dX7_cell_43 rfl ?_
        refine kw_iconst (v := nI 1) C dX7_cell_44 (by decide) ?_
        refine kw_icmp_ne_N (tgt := 68) C (by omega) (by omega) dX7_cell_45 (by decide) (fun c_45 => ?_) (fun c_45 => ?_)
        ·
          omega
        ·
          refine kw_aload_n C 0 dX7_cell_48 rfl ?_
          refine kw_bipush (v := (-9)) C dX7_cell_49 (by decide) ?_
          refine kw_iconst (v := nI 0) C dX7_cell_51 (by decide) ?_
          refine kw_iconst (v := nI 0) C dX7_cell_52 (by decide) ?_
          refine KW.ass (congrArg (fun zq => ([.int (nI 0), .int zq, .int (-9), .ref (a 0)] : List Value)) (show (nI 0) = (dI (4 % 3)) from by decide)) ?_
          refine KW.ass (congrArg (fun zq => ([.int zq, .int (dI (4 % 3)), .int (-9), .ref (a 0)] : List Value)) (show (nI 0) = (dI (4 / 3)) from by decide)) ?_
          refine kV_v (As := [.int (-9), .int (dI (4 % 3)), .int (dI (4 / 3))]) (rest := []) (ws' := fun (u : Unit) => kMod y a (nI 0) Sr dr pa um im ikp tx ty sn sm at1 pl tk vl fa (aN (pvF W H bk ik o kk (-9) 4 N)) odr gv mk bo bq) C (c_X7_proves l G y t a (nI 0) Sr dr pa um im ikp tx ty sn sm at1 pl tk vl fa pf odr gv mk bo bq (-9) 4 W H N pcl ik o bk kk (by exact hR) (by decide)) (cwV 3 C.2.2.2.2.1 (goodV cT wd_786 wd_783 wd_785 wd_29 wd_48) rfl rfl rfl (by decide +kernel) ⟨by decide, by decide⟩) [0, 1, 2, 3, 4, 5, 6, 7, 8, 9, 10, 11, 12, 13] [] [0, 1, 2, 3, 4, 5, 6, 7, 8, 9, 10, 11, 12, 13] rfl (by decide) rfl (by decide) (by decide) (fun _ => rfl) (by decide) 0 rfl rfl rfl (Nat.le_of_ble_eq_true rfl) ⟨by decide, by decide⟩ dX7_cell_53 (fun u hr_3 => ?_)
          refine kw_aload_n C 0 dX7_cell_56 rfl ?_
          refine kw_get (v := .ref (a 8)) (T := TX7) C 0 16 rfl rfl (by decide) (fun w h => mT (fwX7 w h)) rfl (mT wd_631) rfl dX7_cell_57 ?_
          refine kw_bipush (v := nI 6) C dX7_cell_60 (by decide) ?_
          refine kw_iload_n C 2 dX7_cell_62 rfl ?_
          refine kw_imul C dX7_cell_63 (kw_top (pk_mul _ _) ?_)
          refine kw_iload_n C 1 dX7_cell_64 rfl ?_
          refine kw_iadd C dX7_cell_65 (kw_top (nI_add _ _) ?_)
          refine kw_iald (f := aN (pvF W H bk ik o kk (-9) 4 N)) C 8 rfl (by omega) (by decide) dX7_cell_66 ?_
          refine kw_top (show ((aN (pvF W H bk ik o kk (-9) 4 N)) ((6 * zz) + xx)) = (nI ((pvF W H bk ik o kk (-9) 4 N) ((6 * zz) + xx))) from by rfl) ?_
          refine kR_i C (aN (pvF W H bk ik o kk (-9) 4 N)) dX7_cell_67 ?_ rfl
          first | rfl | trivial | (simp; done) | omega
      ·
        omega
    ·
      exact absurd (by decide) c_20

set_option maxHeartbeats 4000000 in
set_option maxRecDepth 100000 in
theorem c_X7_cell_2 (l : Launch) (G : va_G) (y : Nat → ClassId) (t : Nat) (a : Nat → Nat) (th : Int32) (Sr : Nat → Int32) (dr : Nat → Int32) (pa : Nat → Int32) (um : Int32) (im : Nat → Int32) (ikp : Nat → Int32) (tx : Nat → Int32) (ty : Int32) (sn : Nat → Int32) (sm : Int32) (at1 : Int32) (pl : Int32) (tk : Int32) (vl : Int32) (fa : Int32) (pf : Nat → Int32) (odr : Nat → Int32) (gv : Nat → Int32) (mk : Nat → Int32) (bo : Nat → Int32) (bq : Nat → Int32) (xx : Nat) (zz : Nat) (W : Nat) (H : Nat) (N : Nat) (pcl : Nat → Nat) (ik : Nat → Nat) (o : Nat → Nat) (bk : Nat → Nat) (kk : Nat → Nat) (hR : RowOk Sr W H N pcl ik o bk kk) (hxx : xx < W) (hzz : zz < H) (sz : Nat) : Met l yX7_cell (Cond.code yX7_cell cX7_cell 6 (some .int) :: TG) ({ frames := 2, cells := 0, slots := 0, locals := 44 }) (va_Pc [.ref (a 0), .int (nI xx), .int (nI zz), .int (nI 2)] (PR G y t (kMod y a th Sr dr pa um im ikp tx ty sn sm at1 pl tk vl fa pf odr gv mk bo bq) sz)) (va_Qi (fun (r : Int32) (u : Unit) => r = (nI (ikS bk xx zz N))) (fun (u : Unit) t => PO G (va_A (kMod y a th Sr dr pa um im ikp tx ty sn sm at1 pl tk vl fa pf odr gv mk bo bq) sz) (kMod y a (nI 0) Sr dr pa um im ikp tx ty sn sm at1 pl tk vl fa pf odr gv mk bo bq) t) (va_A (kMod y a th Sr dr pa um im ikp tx ty sn sm at1 pl tk vl fa pf odr gv mk bo bq) sz)) 0 0 (va_A (kMod y a th Sr dr pa um im ikp tx ty sn sm at1 pl tk vl fa pf odr gv mk bo bq) sz) := by
  refine kMet (cc := cX7_cell) (maxL := 6) (ret := some .int) (Qc := fun A => va_Qi (fun (r : Int32) (u : Unit) => r = (nI (ikS bk xx zz N))) (fun (u : Unit) t => PO G A (kMod y a (nI 0) Sr dr pa um im ikp tx ty sn sm at1 pl tk vl fa pf odr gv mk bo bq) t) A) (by decide) rfl (Nat.le_of_ble_eq_true rfl) (fun p e s m below meth c A hsz C hin => ?_)
  obtain ⟨hS0, hS1, hS2, hW, hH, hN, hpic, hink, hord, hblk, hdx⟩ := id hR
  refine KW.loc (lv' := [(0, .ref (a 0)), (1, .int (nI xx)), (2, .int (nI zz)), (3, .int (nI 2))]) [0, 1, 2, 3] rfl ?_
  refine kw_aload_n C 0 dX7_cell_0 rfl ?_
  refine kw_iconst (v := nI 0) C dX7_cell_1 (by decide) ?_
  refine kw_put (T := TX7) (ty := .int) C 0 0 (kMod y a (nI 0) Sr dr pa um im ikp tx ty sn sm at1 pl tk vl fa pf odr gv mk bo bq) rfl rfl (by decide) (fun w h => mT (fwX7 w h)) tyX7 tyX7_ok nmX7 rfl (mT wd_615) rfl (by decide +kernel) rfl rfl (Nat.le_of_ble_eq_true rfl) dX7_cell_2 rfl ?_
  refine kw_aload_n C 0 dX7_cell_5 rfl ?_
  refine kw_iload_n C 1 dX7_cell_6 rfl ?_
  refine kw_iload_n C 2 dX7_cell_7 rfl ?_
  refine kV_i (As := [.int (nI xx), .int (nI zz)]) (rest := []) (ws' := fun (u : Unit) => kMod y a (nI 0) Sr dr pa um im ikp tx ty sn sm at1 pl tk vl fa pf odr gv mk bo bq) C (c_X7_isCell l G y t a (nI 0) Sr dr pa um im ikp tx ty sn sm at1 pl tk vl fa pf odr gv mk bo bq (nI xx) (nI zz) W H N pcl ik o bk kk (by first | assumption | omega | decide)) (cwV 2 C.2.2.2.2.1 (goodV cT wd_770 wd_767 wd_769 wd_27 wd_48) rfl rfl rfl (by decide +kernel) ⟨by decide, by decide⟩) [0, 1, 2, 3, 4, 5, 6, 7, 8, 9, 10, 11, 12, 13] [] [0, 1, 2, 3, 4, 5, 6, 7, 8, 9, 10, 11, 12, 13] rfl (by decide) rfl (by decide) (by decide) (fun _ => rfl) (by decide) 0 rfl rfl rfl (Nat.le_of_ble_eq_true rfl) ⟨by decide, by decide⟩ dX7_cell_8 (fun r u hr_1 => ?_)
  subst hr_1
  refine kw_if_eq_D (tgt := 23) C dX7_cell_11 (by decide) (fun c_11 => ?_) (fun c_11 => ?_)
  ·
    exact absurd (And.intro (inR_of hxx (by omega)) (inR_of hzz (by omega))) c_11
  ·
    refine kw_iload_n C 3 dX7_cell_14 rfl ?_
    refine kw_iconst (v := nI 0) C dX7_cell_15 (by decide) ?_
    refine kw_iconst (v := nI 2) C dX7_cell_16 (by decide) ?_
    refine kS_i (As := [.int (nI 2), .int (nI 0), .int (nI 2)]) (rest := []) (ws' := fun (u : Unit) => kMod y a (nI 0) Sr dr pa um im ikp tx ty sn sm at1 pl tk vl fa pf odr gv mk bo bq) C (c_X7_in l G y t (nI 2) (nI 0) (nI 2)) (va_cwS 3 C.2.2.2.2.1 (goodS cT wd_688 wd_686 wd_687 wd_48) rfl rfl rfl (by decide +kernel) ⟨by decide, by decide⟩) [] [0, 1, 2, 3, 4, 5, 6, 7, 8, 9, 10, 11, 12, 13] [0, 1, 2, 3, 4, 5, 6, 7, 8, 9, 10, 11, 12, 13] rfl (by decide) rfl (by decide) (by decide) (fun _ => rfl) (by decide) rfl (Nat.le_of_ble_eq_true rfl) ⟨by decide, by decide⟩ dX7_cell_17 (fun r u hr_2 => ?_)
    subst hr_2
    refine kw_if_ne_D (tgt := 25) C dX7_cell_20 (by decide) (fun c_20 => ?_) (fun c_20 => ?_)
    ·
      refine kw_iload_n C 3 dX7_cell_25 rfl ?_
      refine kw_if_ne_N (tgt := 43) C (by omega) dX7_cell_26 (by decide) (fun c_26 => ?_) (fun c_26 => ?_)
      ·
        refine kw_iload_n C 3 dX7_cell_43 rfl ?_
        refine kw_iconst (v := nI 1) C dX7_cell_44 (by decide) ?_
        refine kw_icmp_ne_N (tgt := 68) C (by omega) (by omega) dX7_cell_45 (by decide) (fun c_45 => ?_) (fun c_45 => ?_)
        ·
          refine kw_iconst (v := nI 0) C dX7_cell_68 (by decide) ?_
          refine kw_istore C [(4, .int (nI 0)), (0, .ref (a 0)), (1, .int (nI xx)), (2, .int (nI zz)), (3, .int (nI 2))] dX7_cell_69 (by decide) rfl ?_
          refine kw_iconst (v := nI 0) C dX7_cell_71 (by decide) ?_
          refine kw_istore C [(5, .int (nI 0)), (4, .int (nI 0)), (0, .ref (a 0)), (1, .int (nI xx)), (2, .int (nI zz)), (3, .int (nI 2))] dX7_cell_72 (by decide) rfl ?_
          have L74_3 : ∀ (nn : Nat) (i : Nat) (hi : i ≤ N) (hms : N - i < nn), KW p l e ({ frames := 2, cells := 0, slots := 0, locals := 44 }) s m ([.ref (a 0), .int (nI xx), .int (nI zz), .int (nI 2)] : List Value).toArray below meth c 0 0 (MQ below (va_Qi (fun (r : Int32) (u : Unit) => r = (nI (ikS bk xx zz N))) (fun (u : Unit) t => PO G A (kMod y a (nI 0) Sr dr pa um im ikp tx ty sn sm at1 pl tk vl fa pf odr gv mk bo bq) t) A) ([.ref (a 0), .int (nI xx), .int (nI zz), .int (nI 2)] : List Value).toArray s 0 0 A) G A 6 (kMod y a (nI 0) Sr dr pa um im ikp tx ty sn sm at1 pl tk vl fa pf odr gv mk bo bq) [(5, .int (nI i)), (4, .int (nI (ikS bk xx zz i))), (0, .ref (a 0)), (1, .int (nI xx)), (2, .int (nI zz)), (3, .int (nI 2))] 74 [] := by
            intro nn
            induction nn with
            | zero => intro i hi hms; exact absurd hms (Nat.not_lt_zero _)
            | succ nn ih_74 =>
              intro i hi hms
              refine kw_iload C 0 dX7_cell_74 rfl ?_
              refine kw_aload_n C 2 dX7_cell_76 rfl ?_
              refine kw_get (v := .ref (a 1)) (T := TX7) C 0 1 rfl rfl (by decide) (fun w h => mT (fwX7 w h)) rfl (mT wd_616) rfl dX7_cell_77 ?_
              refine kw_iconst (v := nI 2) C dX7_cell_80 (by decide) ?_
              refine kw_iald (f := Sr) C 1 rfl (by omega) (by decide) dX7_cell_81 ?_
              refine kw_top (show (Sr 2) = (nI N) from by exact hS2) ?_
              refine kw_icmp_ge_N (tgt := 118) C (by omega) (by omega) dX7_cell_82 (by decide) (fun c_82 => ?_) (fun c_82 => ?_)
              ·
                refine kw_iload C 1 dX7_cell_118 rfl ?_
                refine kR_i C () dX7_cell_120 ?_ rfl
                rw [show i = N from by omega]
              ·
                refine kw_iload C 1 dX7_cell_85 rfl ?_
                refine kw_aload_n C 2 dX7_cell_87 rfl ?_
                refine kw_get (v := .ref (a 1)) (T := TX7) C 0 1 rfl rfl (by decide) (fun w h => mT (fwX7 w h)) rfl (mT wd_616) rfl dX7_cell_88 ?_
                refine kw_bipush (v := nI 51) C dX7_cell_91 (by decide) ?_
                refine kw_bipush (v := nI 6) C dX7_cell_93 (by decide) ?_
                refine kw_iload C 0 dX7_cell_95 rfl ?_
                refine kw_imul C dX7_cell_97 (kw_top (pk_mul _ _) ?_)
                refine kw_iadd C dX7_cell_98 (kw_top (nI_add _ _) ?_)
                refine kw_iload_n C 4 dX7_cell_99 rfl ?_
                refine kw_iadd C dX7_cell_100 (kw_top (nI_add _ _) ?_)
                refine kw_iald (f := Sr) C 1 rfl (by omega) (by decide) dX7_cell_101 ?_
                refine kw_top (show (Sr ((51 + (6 * i)) + zz)) = (nI (bk (6 * (i) + (zz)))) from by exact (hblk (i) (zz) (by first | assumption | omega) (by first | assumption | omega)).1) ?_
                have hl_101 := (hblk (i) (zz) (by first | assumption | omega) (by first | assumption | omega)).2
                refine kw_iload_n C 3 dX7_cell_102 rfl ?_
                refine kw_ishr C dX7_cell_103 (kw_top (n_shr (by omega) (by omega)) ?_)
                refine kw_iconst (v := nI 1) C dX7_cell_104 (by decide) ?_
                refine kw_iand C dX7_cell_105 (kw_top (n_and _ _) ?_)
                refine kw_iload C 0 dX7_cell_106 rfl ?_
                refine kw_ishl C dX7_cell_108 (kw_top (n_shl (by first | omega | exact sh1_lt _ _ (by omega)) (by first | omega | exact sh1_lt _ _ (by omega))) ?_)
                refine kw_ior C dX7_cell_109 (kw_top (n_or _ _) ?_)
                refine kw_istore C [(4, .int (nI ((ikS bk xx zz i) ||| ((((bk (6 * (i) + (zz))) / 2 ^ xx) &&& 1) * 2 ^ i)))), (5, .int (nI i)), (0, .ref (a 0)), (1, .int (nI xx)), (2, .int (nI zz)), (3, .int (nI 2))] dX7_cell_110 (by decide) rfl ?_
                refine kw_iinc (v := nI (i + 1)) C [(5, .int (nI (i + 1))), (4, .int (nI ((ikS bk xx zz i) ||| ((((bk (6 * (i) + (zz))) / 2 ^ xx) &&& 1) * 2 ^ i)))), (0, .ref (a 0)), (1, .int (nI xx)), (2, .int (nI zz)), (3, .int (nI 2))] 1 dX7_cell_112 rfl (nI_1 _) (by decide) rfl ?_
                refine kw_goto (tgt := 74) C dX7_cell_115 (by decide) ?_
                refine KW.loc (lv' := [(5, .int (nI (i + 1))), (4, .int (nI ((ikS bk xx zz i) ||| ((((bk (6 * (i) + (zz))) / 2 ^ xx) &&& 1) * 2 ^ i)))), (0, .ref (a 0)), (1, .int (nI xx)), (2, .int (nI zz)), (3, .int (nI 2))]) [0, 1, 2, 3, 4, 5] rfl ?_
                refine KW.asl (congrArg (fun zq => ([(5, .int (nI (i + 1))), (4, .int zq), (0, .ref (a 0)), (1, .int (nI xx)), (2, .int (nI zz)), (3, .int (nI 2))] : List (Nat × Value))) (show (nI ((ikS bk xx zz i) ||| ((((bk (6 * (i) + (zz))) / 2 ^ xx) &&& 1) * 2 ^ i))) = (nI (ikS bk xx zz (i + 1))) from by rfl)) ?_
                exact ih_74 (i + 1) (by first | assumption | omega | (simp; done)) (by omega)
          refine KW.loc (lv' := [(5, .int (nI 0)), (4, .int (nI 0)), (0, .ref (a 0)), (1, .int (nI xx)), (2, .int (nI zz)), (3, .int (nI 2))]) [0, 1, 2, 3, 4, 5] rfl ?_
          refine KW.asl (congrArg (fun zq => ([(5, .int (nI 0)), (4, .int zq), (0, .ref (a 0)), (1, .int (nI xx)), (2, .int (nI zz)), (3, .int (nI 2))] : List (Nat × Value))) (show (nI 0) = (nI (ikS bk xx zz 0)) from by rfl)) ?_
          exact L74_3 (N - 0 + 1) 0 (by first | assumption | omega | (simp; done)) (Nat.lt_succ_self _)
        ·
          omega
      ·
        omega
    ·
      exact absurd (by decide) c_20

set_option maxHeartbeats 4000000 in
set_option maxRecDepth 100000 in
theorem c_X7_cellsOf (l : Launch) (G : va_G) (y : Nat → ClassId) (t : Nat) (a : Nat → Nat) (th : Int32) (Sr : Nat → Int32) (dr : Nat → Int32) (pa : Nat → Int32) (um : Int32) (im : Nat → Int32) (ikp : Nat → Int32) (tx : Nat → Int32) (ty : Int32) (sn : Nat → Int32) (sm : Int32) (at1 : Int32) (pl : Int32) (tk : Int32) (vl : Int32) (fa : Int32) (pf : Nat → Int32) (odr : Nat → Int32) (gv : Nat → Int32) (mk : Nat → Int32) (bo : Nat → Int32) (bq : Nat → Int32) (i : Nat) (W : Nat) (H : Nat) (N : Nat) (pcl : Nat → Nat) (ik : Nat → Nat) (o : Nat → Nat) (bk : Nat → Nat) (kk : Nat → Nat) (hR : RowOk Sr W H N pcl ik o bk kk) (hi : i < N) (sz : Nat) : Met l yX7_cellsOf (Cond.code yX7_cellsOf cX7_cellsOf 4 (some .int) :: TG) ({ frames := 1, cells := 0, slots := 0, locals := 22 }) (va_Pc [.ref (a 0), .int (nI i)] (PR G y t (kMod y a th Sr dr pa um im ikp tx ty sn sm at1 pl tk vl fa pf odr gv mk bo bq) sz)) (va_Qi (fun (r : Int32) (u : Unit) => r = (csI bk i 6)) (fun (u : Unit) t => PO G (va_A (kMod y a th Sr dr pa um im ikp tx ty sn sm at1 pl tk vl fa pf odr gv mk bo bq) sz) (kMod y a th Sr dr pa um im ikp tx ty sn sm at1 pl tk vl fa pf odr gv mk bo bq) t) (va_A (kMod y a th Sr dr pa um im ikp tx ty sn sm at1 pl tk vl fa pf odr gv mk bo bq) sz)) 0 0 (va_A (kMod y a th Sr dr pa um im ikp tx ty sn sm at1 pl tk vl fa pf odr gv mk bo bq) sz) := by
  refine kMet (cc := cX7_cellsOf) (maxL := 4) (ret := some .int) (Qc := fun A => va_Qi (fun (r : Int32) (u : Unit) => r = (csI bk i 6)) (fun (u : Unit) t => PO G A (kMod y a th Sr dr pa um im ikp tx ty sn sm at1 pl tk vl fa pf odr gv mk bo bq) t) A) (by decide) rfl (Nat.le_of_ble_eq_true rfl) (fun p e s m below meth c A hsz C hin => ?_)
  obtain ⟨hS0, hS1, hS2, hW, hH, hN, hpic, hink, hord, hblk, hdx⟩ := id hR
  refine KW.loc (lv' := [(0, .ref (a 0)), (1, .int (nI i))]) [0, 1] rfl ?_
  refine kw_iconst (v := nI 0) C dX7_cellsOf_0 (by decide) ?_
  refine kw_istore_n C [(2, .int (nI 0)), (0, .ref (a 0)), (1, .int (nI i))] dX7_cellsOf_1 rfl (by decide) rfl ?_
  refine kw_iconst (v := nI 0) C dX7_cellsOf_2 (by decide) ?_
  refine kw_istore_n C [(3, .int (nI 0)), (2, .int (nI 0)), (0, .ref (a 0)), (1, .int (nI i))] dX7_cellsOf_3 rfl (by decide) rfl ?_
  have L4_1 : ∀ (nn : Nat) (yy : Nat) (hyy : yy ≤ 6) (hms : 6 - yy < nn), KW p l e ({ frames := 1, cells := 0, slots := 0, locals := 22 }) s m ([.ref (a 0), .int (nI i)] : List Value).toArray below meth c 0 0 (MQ below (va_Qi (fun (r : Int32) (u : Unit) => r = (csI bk i 6)) (fun (u : Unit) t => PO G A (kMod y a th Sr dr pa um im ikp tx ty sn sm at1 pl tk vl fa pf odr gv mk bo bq) t) A) ([.ref (a 0), .int (nI i)] : List Value).toArray s 0 0 A) G A 4 (kMod y a th Sr dr pa um im ikp tx ty sn sm at1 pl tk vl fa pf odr gv mk bo bq) [(3, .int (nI yy)), (2, .int (csI bk i yy)), (0, .ref (a 0)), (1, .int (nI i))] 4 [] := by
    intro nn
    induction nn with
    | zero => intro yy hyy hms; exact absurd hms (Nat.not_lt_zero _)
    | succ nn ih_4 =>
      intro yy hyy hms
      refine kw_iload_n C 0 dX7_cellsOf_4 rfl ?_
      refine kw_bipush (v := nI 6) C dX7_cellsOf_5 (by decide) ?_
      refine kw_icmp_ge_N (tgt := 36) C (by omega) (by omega) dX7_cellsOf_7 (by decide) (fun c_7 => ?_) (fun c_7 => ?_)
      ·
        refine kw_iload_n C 1 dX7_cellsOf_36 rfl ?_
        refine kR_i C () dX7_cellsOf_37 ?_ rfl
        rw [show yy = 6 from by omega]
      ·
        refine kw_iload_n C 1 dX7_cellsOf_10 rfl ?_
        refine kw_aload_n C 2 dX7_cellsOf_11 rfl ?_
        refine kw_get (v := .ref (a 1)) (T := TX7) C 0 1 rfl rfl (by decide) (fun w h => mT (fwX7 w h)) rfl (mT wd_616) rfl dX7_cellsOf_12 ?_
        refine kw_bipush (v := nI 51) C dX7_cellsOf_15 (by decide) ?_
        refine kw_bipush (v := nI 6) C dX7_cellsOf_17 (by decide) ?_
        refine kw_iload_n C 3 dX7_cellsOf_19 rfl ?_
        refine kw_imul C dX7_cellsOf_20 (kw_top (pk_mul _ _) ?_)
        refine kw_iadd C dX7_cellsOf_21 (kw_top (nI_add _ _) ?_)
        refine kw_iload_n C 0 dX7_cellsOf_22 rfl ?_
        refine kw_iadd C dX7_cellsOf_23 (kw_top (nI_add _ _) ?_)
        refine kw_iald (f := Sr) C 1 rfl (by omega) (by decide) dX7_cellsOf_24 ?_
        refine kw_top (show (Sr ((51 + (6 * i)) + yy)) = (nI (bk (6 * (i) + (yy)))) from by exact (hblk (i) (yy) (by first | assumption | omega) (by first | assumption | omega)).1) ?_
        have hl_24 := (hblk (i) (yy) (by first | assumption | omega) (by first | assumption | omega)).2
        refine kS_i (As := [.int (nI (bk (6 * (i) + (yy))))]) (rest := [.int (csI bk i yy)]) (ws' := fun (u : Unit) => kMod y a th Sr dr pa um im ikp tx ty sn sm at1 pl tk vl fa pf odr gv mk bo bq) C (c_X7_ones l G y t (nI (bk (6 * (i) + (yy))))) (va_cwS 1 C.2.2.2.2.1 (goodS cT wd_754 wd_752 wd_753 wd_48) rfl rfl rfl (by decide +kernel) ⟨by decide, by decide⟩) [] [0, 1, 2, 3, 4, 5, 6, 7, 8, 9, 10, 11, 12, 13] [0, 1, 2, 3, 4, 5, 6, 7, 8, 9, 10, 11, 12, 13] rfl (by decide) rfl (by decide) (by decide) (fun _ => rfl) (by decide) rfl (Nat.le_of_ble_eq_true rfl) ⟨by decide, by decide⟩ dX7_cellsOf_25 (fun r u hr_2 => ?_)
        subst hr_2
        refine kw_iadd C dX7_cellsOf_28 ?_
        refine kw_istore_n C [(2, .int ((csI bk i yy) + (onI (nI (bk (6 * (i) + (yy)))) 8))), (3, .int (nI yy)), (0, .ref (a 0)), (1, .int (nI i))] dX7_cellsOf_29 rfl (by decide) rfl ?_
        refine kw_iinc (v := nI (yy + 1)) C [(3, .int (nI (yy + 1))), (2, .int ((csI bk i yy) + (onI (nI (bk (6 * (i) + (yy)))) 8))), (0, .ref (a 0)), (1, .int (nI i))] 1 dX7_cellsOf_30 rfl (nI_1 _) (by decide) rfl ?_
        refine kw_goto (tgt := 4) C dX7_cellsOf_33 (by decide) ?_
        refine KW.loc (lv' := [(3, .int (nI (yy + 1))), (2, .int ((csI bk i yy) + (onI (nI (bk (6 * (i) + (yy)))) 8))), (0, .ref (a 0)), (1, .int (nI i))]) [0, 1, 2, 3] rfl ?_
        refine KW.asl (congrArg (fun zq => ([(3, .int (nI (yy + 1))), (2, .int zq), (0, .ref (a 0)), (1, .int (nI i))] : List (Nat × Value))) (show ((csI bk i yy) + (onI (nI (bk (6 * (i) + (yy)))) 8)) = (csI bk i (yy + 1)) from by rfl)) ?_
        exact ih_4 (yy + 1) (by first | assumption | omega | (simp; done)) (by omega)
  refine KW.loc (lv' := [(3, .int (nI 0)), (2, .int (nI 0)), (0, .ref (a 0)), (1, .int (nI i))]) [0, 1, 2, 3] rfl ?_
  refine KW.asl (congrArg (fun zq => ([(3, .int (nI 0)), (2, .int zq), (0, .ref (a 0)), (1, .int (nI i))] : List (Nat × Value))) (show (nI 0) = (csI bk i 0) from by rfl)) ?_
  exact L4_1 (6 - 0 + 1) 0 (by first | assumption | omega | (simp; done)) (Nat.lt_succ_self _)

set_option maxHeartbeats 4000000 in
set_option maxRecDepth 100000 in
theorem c_X7_cellsOfAll (l : Launch) (G : va_G) (y : Nat → ClassId) (t : Nat) (a : Nat → Nat) (th : Int32) (Sr : Nat → Int32) (dr : Nat → Int32) (pa : Nat → Int32) (um : Int32) (im : Nat → Int32) (ikp : Nat → Int32) (tx : Nat → Int32) (ty : Int32) (sn : Nat → Int32) (sm : Int32) (at1 : Int32) (pl : Int32) (tk : Int32) (vl : Int32) (fa : Int32) (pf : Nat → Int32) (odr : Nat → Int32) (gv : Nat → Int32) (mk : Nat → Int32) (bo : Nat → Int32) (bq : Nat → Int32) (W : Nat) (H : Nat) (N : Nat) (pcl : Nat → Nat) (ik : Nat → Nat) (o : Nat → Nat) (bk : Nat → Nat) (kk : Nat → Nat) (hR : RowOk Sr W H N pcl ik o bk kk) (sz : Nat) : Met l yX7_cellsOfAll (Cond.code yX7_cellsOfAll cX7_cellsOfAll 3 (some .int) :: TG) ({ frames := 2, cells := 0, slots := 0, locals := 45 }) (va_Pc [.ref (a 0)] (PR G y t (kMod y a th Sr dr pa um im ikp tx ty sn sm at1 pl tk vl fa pf odr gv mk bo bq) sz)) (va_Qi (fun (r : Int32) (u : Unit) => r = (csA bk N)) (fun (u : Unit) t => PO G (va_A (kMod y a th Sr dr pa um im ikp tx ty sn sm at1 pl tk vl fa pf odr gv mk bo bq) sz) (kMod y a th Sr dr pa um im ikp tx ty sn sm at1 pl tk vl fa pf odr gv mk bo bq) t) (va_A (kMod y a th Sr dr pa um im ikp tx ty sn sm at1 pl tk vl fa pf odr gv mk bo bq) sz)) 0 0 (va_A (kMod y a th Sr dr pa um im ikp tx ty sn sm at1 pl tk vl fa pf odr gv mk bo bq) sz) := by
  refine kMet (cc := cX7_cellsOfAll) (maxL := 3) (ret := some .int) (Qc := fun A => va_Qi (fun (r : Int32) (u : Unit) => r = (csA bk N)) (fun (u : Unit) t => PO G A (kMod y a th Sr dr pa um im ikp tx ty sn sm at1 pl tk vl fa pf odr gv mk bo bq) t) A) (by decide) rfl (Nat.le_of_ble_eq_true rfl) (fun p e s m below meth c A hsz C hin => ?_)
  obtain ⟨hS0, hS1, hS2, hW, hH, hN, hpic, hink, hord, hblk, hdx⟩ := id hR
  refine KW.loc (lv' := [(0, .ref (a 0))]) [0] rfl ?_
  refine kw_iconst (v := nI 0) C dX7_cellsOfAll_0 (by decide) ?_
  refine kw_istore_n C [(1, .int (nI 0)), (0, .ref (a 0))] dX7_cellsOfAll_1 rfl (by decide) rfl ?_
  refine kw_iconst (v := nI 0) C dX7_cellsOfAll_2 (by decide) ?_
  refine kw_istore_n C [(2, .int (nI 0)), (1, .int (nI 0)), (0, .ref (a 0))] dX7_cellsOfAll_3 rfl (by decide) rfl ?_
  have L4_1 : ∀ (nn : Nat) (i : Nat) (hi : i ≤ N) (hms : N - i < nn), KW p l e ({ frames := 2, cells := 0, slots := 0, locals := 45 }) s m ([.ref (a 0)] : List Value).toArray below meth c 0 0 (MQ below (va_Qi (fun (r : Int32) (u : Unit) => r = (csA bk N)) (fun (u : Unit) t => PO G A (kMod y a th Sr dr pa um im ikp tx ty sn sm at1 pl tk vl fa pf odr gv mk bo bq) t) A) ([.ref (a 0)] : List Value).toArray s 0 0 A) G A 3 (kMod y a th Sr dr pa um im ikp tx ty sn sm at1 pl tk vl fa pf odr gv mk bo bq) [(2, .int (nI i)), (1, .int (csA bk i)), (0, .ref (a 0))] 4 [] := by
    intro nn
    induction nn with
    | zero => intro i hi hms; exact absurd hms (Nat.not_lt_zero _)
    | succ nn ih_4 =>
      intro i hi hms
      refine kw_iload_n C 0 dX7_cellsOfAll_4 rfl ?_
      refine kw_aload_n C 2 dX7_cellsOfAll_5 rfl ?_
      refine kw_get (v := .ref (a 1)) (T := TX7) C 0 1 rfl rfl (by decide) (fun w h => mT (fwX7 w h)) rfl (mT wd_616) rfl dX7_cellsOfAll_6 ?_
      refine kw_iconst (v := nI 2) C dX7_cellsOfAll_9 (by decide) ?_
      refine kw_iald (f := Sr) C 1 rfl (by omega) (by decide) dX7_cellsOfAll_10 ?_
      refine kw_top (show (Sr 2) = (nI N) from by exact hS2) ?_
      refine kw_icmp_ge_N (tgt := 28) C (by omega) (by omega) dX7_cellsOfAll_11 (by decide) (fun c_11 => ?_) (fun c_11 => ?_)
      ·
        refine kw_iload_n C 1 dX7_cellsOfAll_28 rfl ?_
        refine kR_i C () dX7_cellsOfAll_29 ?_ rfl
        rw [show i = N from by omega]
      ·
        refine kw_iload_n C 1 dX7_cellsOfAll_14 rfl ?_
        refine kw_aload_n C 2 dX7_cellsOfAll_15 rfl ?_
        refine kw_iload_n C 0 dX7_cellsOfAll_16 rfl ?_
        refine kV_i (As := [.int (nI i)]) (rest := [.int (csA bk i)]) (ws' := fun (u : Unit) => kMod y a th Sr dr pa um im ikp tx ty sn sm at1 pl tk vl fa pf odr gv mk bo bq) C (c_X7_cellsOf l G y t a th Sr dr pa um im ikp tx ty sn sm at1 pl tk vl fa pf odr gv mk bo bq i W H N pcl ik o bk kk (by first | assumption | omega | decide) (by first | assumption | omega | decide)) (cwV 1 C.2.2.2.2.1 (goodV cT wd_811 wd_808 wd_810 wd_32 wd_48) rfl rfl rfl (by decide +kernel) ⟨by decide, by decide⟩) [0, 1, 2, 3, 4, 5, 6, 7, 8, 9, 10, 11, 12, 13] [] [0, 1, 2, 3, 4, 5, 6, 7, 8, 9, 10, 11, 12, 13] rfl (by decide) rfl (by decide) (by decide) (fun _ => rfl) (by decide) 0 rfl rfl rfl (Nat.le_of_ble_eq_true rfl) ⟨by decide, by decide⟩ dX7_cellsOfAll_17 (fun r u hr_2 => ?_)
        subst hr_2
        refine kw_iadd C dX7_cellsOfAll_20 ?_
        refine kw_istore_n C [(1, .int ((csA bk i) + (csI bk i 6))), (2, .int (nI i)), (0, .ref (a 0))] dX7_cellsOfAll_21 rfl (by decide) rfl ?_
        refine kw_iinc (v := nI (i + 1)) C [(2, .int (nI (i + 1))), (1, .int ((csA bk i) + (csI bk i 6))), (0, .ref (a 0))] 1 dX7_cellsOfAll_22 rfl (nI_1 _) (by decide) rfl ?_
        refine kw_goto (tgt := 4) C dX7_cellsOfAll_25 (by decide) ?_
        refine KW.loc (lv' := [(2, .int (nI (i + 1))), (1, .int ((csA bk i) + (csI bk i 6))), (0, .ref (a 0))]) [0, 1, 2] rfl ?_
        refine KW.asl (congrArg (fun zq => ([(2, .int (nI (i + 1))), (1, .int zq), (0, .ref (a 0))] : List (Nat × Value))) (show ((csA bk i) + (csI bk i 6)) = (csA bk (i + 1)) from by rfl)) ?_
        exact ih_4 (i + 1) (by first | assumption | omega | (simp; done)) (by omega)
  refine KW.loc (lv' := [(2, .int (nI 0)), (1, .int (nI 0)), (0, .ref (a 0))]) [0, 1, 2] rfl ?_
  refine KW.asl (congrArg (fun zq => ([(2, .int (nI 0)), (1, .int zq), (0, .ref (a 0))] : List (Nat × Value))) (show (nI 0) = (csA bk 0) from by rfl)) ?_
  exact L4_1 (N - 0 + 1) 0 (by first | assumption | omega | (simp; done)) (Nat.lt_succ_self _)

set_option maxHeartbeats 4000000 in
set_option maxRecDepth 100000 in
theorem c_X7_slipped (l : Launch) (G : va_G) (y : Nat → ClassId) (t : Nat) (a : Nat → Nat) (th : Int32) (Sr : Nat → Int32) (dr : Nat → Int32) (pa : Nat → Int32) (um : Int32) (im : Nat → Int32) (ikp : Nat → Int32) (tx : Nat → Int32) (ty : Int32) (sn : Nat → Int32) (sm : Int32) (at1 : Int32) (pl : Int32) (tk : Int32) (vl : Int32) (fa : Int32) (pf : Nat → Int32) (odr : Nat → Int32) (gv : Nat → Int32) (mk : Nat → Int32) (bo : Nat → Int32) (bq : Nat → Int32) (W : Nat) (H : Nat) (N : Nat) (pcl : Nat → Nat) (ik : Nat → Nat) (o : Nat → Nat) (bk : Nat → Nat) (kk : Nat → Nat) (hR : RowOk Sr W H N pcl ik o bk kk) (sz : Nat) : Met l yX7_slipped (Cond.code yX7_slipped cX7_slipped 3 (some .int) :: TG) ({ frames := 0, cells := 0, slots := 0, locals := 0 }) (va_Pc [.ref (a 0)] (PR G y t (kMod y a th Sr dr pa um im ikp tx ty sn sm at1 pl tk vl fa pf odr gv mk bo bq) sz)) (va_Qi (fun (r : Int32) (u : Unit) => r = (nI (slC kk N))) (fun (u : Unit) t => PO G (va_A (kMod y a th Sr dr pa um im ikp tx ty sn sm at1 pl tk vl fa pf odr gv mk bo bq) sz) (kMod y a th Sr dr pa um im ikp tx ty sn sm at1 pl tk vl fa pf odr gv mk bo bq) t) (va_A (kMod y a th Sr dr pa um im ikp tx ty sn sm at1 pl tk vl fa pf odr gv mk bo bq) sz)) 0 0 (va_A (kMod y a th Sr dr pa um im ikp tx ty sn sm at1 pl tk vl fa pf odr gv mk bo bq) sz) := by
  refine kMet (cc := cX7_slipped) (maxL := 3) (ret := some .int) (Qc := fun A => va_Qi (fun (r : Int32) (u : Unit) => r = (nI (slC kk N))) (fun (u : Unit) t => PO G A (kMod y a th Sr dr pa um im ikp tx ty sn sm at1 pl tk vl fa pf odr gv mk bo bq) t) A) (by decide) rfl (Nat.le_of_ble_eq_true rfl) (fun p e s m below meth c A hsz C hin => ?_)
  obtain ⟨hS0, hS1, hS2, hW, hH, hN, hpic, hink, hord, hblk, hdx⟩ := id hR
  refine KW.loc (lv' := [(0, .ref (a 0))]) [0] rfl ?_
  refine kw_iconst (v := nI 0) C dX7_slipped_0 (by decide) ?_
  refine kw_istore_n C [(1, .int (nI 0)), (0, .ref (a 0))] dX7_slipped_1 rfl (by decide) rfl ?_
  refine kw_iconst (v := nI 0) C dX7_slipped_2 (by decide) ?_
  refine kw_istore_n C [(2, .int (nI 0)), (1, .int (nI 0)), (0, .ref (a 0))] dX7_slipped_3 rfl (by decide) rfl ?_
  have L4_1 : ∀ (nn : Nat) (i : Nat) (hi : i ≤ N) (hms : N - i < nn), KW p l e ({ frames := 0, cells := 0, slots := 0, locals := 0 }) s m ([.ref (a 0)] : List Value).toArray below meth c 0 0 (MQ below (va_Qi (fun (r : Int32) (u : Unit) => r = (nI (slC kk N))) (fun (u : Unit) t => PO G A (kMod y a th Sr dr pa um im ikp tx ty sn sm at1 pl tk vl fa pf odr gv mk bo bq) t) A) ([.ref (a 0)] : List Value).toArray s 0 0 A) G A 3 (kMod y a th Sr dr pa um im ikp tx ty sn sm at1 pl tk vl fa pf odr gv mk bo bq) [(2, .int (nI i)), (1, .int (nI (slC kk i))), (0, .ref (a 0))] 4 [] := by
    intro nn
    induction nn with
    | zero => intro i hi hms; exact absurd hms (Nat.not_lt_zero _)
    | succ nn ih_4 =>
      intro i hi hms
      refine kw_iload_n C 0 dX7_slipped_4 rfl ?_
      refine kw_aload_n C 2 dX7_slipped_5 rfl ?_
      refine kw_get (v := .ref (a 1)) (T := TX7) C 0 1 rfl rfl (by decide) (fun w h => mT (fwX7 w h)) rfl (mT wd_616) rfl dX7_slipped_6 ?_
      refine kw_iconst (v := nI 2) C dX7_slipped_9 (by decide) ?_
      refine kw_iald (f := Sr) C 1 rfl (by omega) (by decide) dX7_slipped_10 ?_
      refine kw_top (show (Sr 2) = (nI N) from by exact hS2) ?_
      refine kw_icmp_ge_N (tgt := 52) C (by omega) (by omega) dX7_slipped_11 (by decide) (fun c_11 => ?_) (fun c_11 => ?_)
      ·
        refine kw_iload_n C 1 dX7_slipped_52 rfl ?_
        refine kR_i C () dX7_slipped_53 ?_ rfl
        rw [show i = N from by omega]
      ·
        refine kw_iload_n C 1 dX7_slipped_14 rfl ?_
        refine kw_aload_n C 2 dX7_slipped_15 rfl ?_
        refine kw_get (v := .ref (a 1)) (T := TX7) C 0 1 rfl rfl (by decide) (fun w h => mT (fwX7 w h)) rfl (mT wd_616) rfl dX7_slipped_16 ?_
        refine kw_bipush (v := nI 87) C dX7_slipped_19 (by decide) ?_
        refine kw_iload_n C 0 dX7_slipped_21 rfl ?_
        refine kw_iadd C dX7_slipped_22 (kw_top (nI_add _ _) ?_)
        refine kw_iald (f := Sr) C 1 rfl (by omega) (by decide) dX7_slipped_23 ?_
        refine kw_top (show (Sr (87 + i)) = (dI (kk (i) % 3)) from by exact (hdx (i) (by first | assumption | omega)).1) ?_
        have hl_23 := (hdx (i) (by first | assumption | omega)).2.2
        have J44_2 : ∀ (_ : Unit), KW p l e ({ frames := 0, cells := 0, slots := 0, locals := 0 }) s m ([.ref (a 0)] : List Value).toArray below meth c 0 0 (MQ below (va_Qi (fun (r : Int32) (u : Unit) => r = (nI (slC kk N))) (fun (u : Unit) t => PO G A (kMod y a th Sr dr pa um im ikp tx ty sn sm at1 pl tk vl fa pf odr gv mk bo bq) t) A) ([.ref (a 0)] : List Value).toArray s 0 0 A) G A 3 (kMod y a th Sr dr pa um im ikp tx ty sn sm at1 pl tk vl fa pf odr gv mk bo bq) [(2, .int (nI i)), (1, .int (nI (slC kk i))), (0, .ref (a 0))] 44 [.int (nI (if kk i = 4 then 0 else 1)), .int (nI (slC kk i))] := by
          intro _
          refine kw_iadd C dX7_slipped_44 (kw_top (nI_add _ _) ?_)
          refine kw_istore_n C [(1, .int (nI ((slC kk i) + (if kk i = 4 then 0 else 1)))), (2, .int (nI i)), (0, .ref (a 0))] dX7_slipped_45 rfl (by decide) rfl ?_
          refine kw_iinc (v := nI (i + 1)) C [(2, .int (nI (i + 1))), (1, .int (nI ((slC kk i) + (if kk i = 4 then 0 else 1)))), (0, .ref (a 0))] 1 dX7_slipped_46 rfl (nI_1 _) (by decide) rfl ?_
          refine kw_goto (tgt := 4) C dX7_slipped_49 (by decide) ?_
          refine KW.loc (lv' := [(2, .int (nI (i + 1))), (1, .int (nI ((slC kk i) + (if kk i = 4 then 0 else 1)))), (0, .ref (a 0))]) [0, 1, 2] rfl ?_
          refine KW.asl (congrArg (fun zq => ([(2, .int (nI (i + 1))), (1, .int zq), (0, .ref (a 0))] : List (Nat × Value))) (show (nI ((slC kk i) + (if kk i = 4 then 0 else 1))) = (nI (slC kk (i + 1))) from by rfl)) ?_
          exact ih_4 (i + 1) (by first | assumption | omega | (simp; done)) (by omega)
        refine kw_if_ne (tgt := 43) C dX7_slipped_24 (by decide) (fun c_24 => ?_) (fun c_24 => ?_)
        ·
          refine kw_iconst (v := nI 1) C dX7_slipped_43 (by decide) ?_
          refine KW.loc (lv' := [(2, .int (nI i)), (1, .int (nI (slC kk i))), (0, .ref (a 0))]) [0, 1, 2] rfl ?_
          refine KW.ass (congrArg (fun zq => ([.int zq, .int (nI (slC kk i))] : List Value)) (show (nI 1) = (nI (if kk i = 4 then 0 else 1)) from by first | (rw [if_neg (fun h => c_24 (by rw [h]; decide))]; done) | (rw [if_neg (fun h => c_36 (by rw [h]; decide))]; done) | (rw [if_pos (sl4 _ (hdx i (by omega)).2.2 c_24 c_36)]; done))) ?_
          exact J44_2 ()
        ·
          refine kw_aload_n C 2 dX7_slipped_27 rfl ?_
          refine kw_get (v := .ref (a 1)) (T := TX7) C 0 1 rfl rfl (by decide) (fun w h => mT (fwX7 w h)) rfl (mT wd_616) rfl dX7_slipped_28 ?_
          refine kw_bipush (v := nI 93) C dX7_slipped_31 (by decide) ?_
          refine kw_iload_n C 0 dX7_slipped_33 rfl ?_
          refine kw_iadd C dX7_slipped_34 (kw_top (nI_add _ _) ?_)
          refine kw_iald (f := Sr) C 1 rfl (by omega) (by decide) dX7_slipped_35 ?_
          refine kw_top (show (Sr (93 + i)) = (dI (kk (i) / 3)) from by exact (hdx (i) (by first | assumption | omega)).2.1) ?_
          have hl_35 := (hdx (i) (by first | assumption | omega)).2.2
          refine kw_if_ne (tgt := 43) C dX7_slipped_36 (by decide) (fun c_36 => ?_) (fun c_36 => ?_)
          ·
            refine kw_iconst (v := nI 1) C dX7_slipped_43 (by decide) ?_
            refine KW.loc (lv' := [(2, .int (nI i)), (1, .int (nI (slC kk i))), (0, .ref (a 0))]) [0, 1, 2] rfl ?_
            refine KW.ass (congrArg (fun zq => ([.int zq, .int (nI (slC kk i))] : List Value)) (show (nI 1) = (nI (if kk i = 4 then 0 else 1)) from by first | (rw [if_neg (fun h => c_24 (by rw [h]; decide))]; done) | (rw [if_neg (fun h => c_36 (by rw [h]; decide))]; done) | (rw [if_pos (sl4 _ (hdx i (by omega)).2.2 c_24 c_36)]; done))) ?_
            exact J44_2 ()
          ·
            refine kw_iconst (v := nI 0) C dX7_slipped_39 (by decide) ?_
            refine kw_goto (tgt := 44) C dX7_slipped_40 (by decide) ?_
            refine KW.loc (lv' := [(2, .int (nI i)), (1, .int (nI (slC kk i))), (0, .ref (a 0))]) [0, 1, 2] rfl ?_
            refine KW.ass (congrArg (fun zq => ([.int zq, .int (nI (slC kk i))] : List Value)) (show (nI 0) = (nI (if kk i = 4 then 0 else 1)) from by first | (rw [if_neg (fun h => c_24 (by rw [h]; decide))]; done) | (rw [if_neg (fun h => c_36 (by rw [h]; decide))]; done) | (rw [if_pos (sl4 _ (hdx i (by omega)).2.2 c_24 c_36)]; done))) ?_
            exact J44_2 ()
  refine KW.loc (lv' := [(2, .int (nI 0)), (1, .int (nI 0)), (0, .ref (a 0))]) [0, 1, 2] rfl ?_
  refine KW.asl (congrArg (fun zq => ([(2, .int (nI 0)), (1, .int zq), (0, .ref (a 0))] : List (Nat × Value))) (show (nI 0) = (nI (slC kk 0)) from by rfl)) ?_
  exact L4_1 (N - 0 + 1) 0 (by first | assumption | omega | (simp; done)) (Nat.lt_succ_self _)

set_option maxHeartbeats 4000000 in
set_option maxRecDepth 100000 in
theorem c_X7_ink_bad (l : Launch) (G : va_G) (y : Nat → ClassId) (t : Nat) (a : Nat → Nat) (th : Int32) (Sr : Nat → Int32) (dr : Nat → Int32) (pa : Nat → Int32) (um : Int32) (im : Nat → Int32) (ikp : Nat → Int32) (tx : Nat → Int32) (ty : Int32) (sn : Nat → Int32) (sm : Int32) (at1 : Int32) (pl : Int32) (tk : Int32) (vl : Int32) (fa : Int32) (pf : Nat → Int32) (odr : Nat → Int32) (gv : Nat → Int32) (mk : Nat → Int32) (bo : Nat → Int32) (bq : Nat → Int32) (i : Int32) (wh : Int32) (W : Nat) (H : Nat) (N : Nat) (pcl : Nat → Nat) (ik : Nat → Nat) (o : Nat → Nat) (bk : Nat → Nat) (kk : Nat → Nat) (hR : RowOk Sr W H N pcl ik o bk kk) (hb : ¬ (inR i N ∧ inR wh 6)) (sz : Nat) : Met l yX7_ink (Cond.code yX7_ink cX7_ink 3 (some .int) :: TG) ({ frames := 2, cells := 0, slots := 0, locals := 43 }) (va_Pc [.ref (a 0), .int i, .int wh] (PR G y t (kMod y a th Sr dr pa um im ikp tx ty sn sm at1 pl tk vl fa pf odr gv mk bo bq) sz)) (va_Qi (fun (r : Int32) (u : Unit) => r = (-1000000)) (fun (u : Unit) t => PO G (va_A (kMod y a th Sr dr pa um im ikp tx ty sn sm at1 pl tk vl fa pf odr gv mk bo bq) sz) (kMod y a (nI 0) Sr dr pa um im ikp tx ty sn sm at1 pl tk vl fa pf odr gv mk bo bq) t) (va_A (kMod y a th Sr dr pa um im ikp tx ty sn sm at1 pl tk vl fa pf odr gv mk bo bq) sz)) 0 0 (va_A (kMod y a th Sr dr pa um im ikp tx ty sn sm at1 pl tk vl fa pf odr gv mk bo bq) sz) := by
  refine kMet (cc := cX7_ink) (maxL := 3) (ret := some .int) (Qc := fun A => va_Qi (fun (r : Int32) (u : Unit) => r = (-1000000)) (fun (u : Unit) t => PO G A (kMod y a (nI 0) Sr dr pa um im ikp tx ty sn sm at1 pl tk vl fa pf odr gv mk bo bq) t) A) (by decide) rfl (Nat.le_of_ble_eq_true rfl) (fun p e s m below meth c A hsz C hin => ?_)
  obtain ⟨hS0, hS1, hS2, hW, hH, hN, hpic, hink, hord, hblk, hdx⟩ := id hR
  refine KW.loc (lv' := [(0, .ref (a 0)), (1, .int i), (2, .int wh)]) [0, 1, 2] rfl ?_
  refine kw_aload_n C 0 dX7_ink_0 rfl ?_
  refine kw_iconst (v := nI 0) C dX7_ink_1 (by decide) ?_
  refine kw_put (T := TX7) (ty := .int) C 0 0 (kMod y a (nI 0) Sr dr pa um im ikp tx ty sn sm at1 pl tk vl fa pf odr gv mk bo bq) rfl rfl (by decide) (fun w h => mT (fwX7 w h)) tyX7 tyX7_ok nmX7 rfl (mT wd_615) rfl (by decide +kernel) rfl rfl (Nat.le_of_ble_eq_true rfl) dX7_ink_2 rfl ?_
  refine kw_aload_n C 0 dX7_ink_5 rfl ?_
  refine kw_iload_n C 1 dX7_ink_6 rfl ?_
  refine kV_i (As := [.int i]) (rest := []) (ws' := fun (u : Unit) => kMod y a (nI 0) Sr dr pa um im ikp tx ty sn sm at1 pl tk vl fa pf odr gv mk bo bq) C (c_X7_isInk l G y t a (nI 0) Sr dr pa um im ikp tx ty sn sm at1 pl tk vl fa pf odr gv mk bo bq i W H N pcl ik o bk kk (by first | assumption | omega | decide)) (cwV 1 C.2.2.2.2.1 (goodV cT wd_766 wd_763 wd_765 wd_26 wd_48) rfl rfl rfl (by decide +kernel) ⟨by decide, by decide⟩) [0, 1, 2, 3, 4, 5, 6, 7, 8, 9, 10, 11, 12, 13] [] [0, 1, 2, 3, 4, 5, 6, 7, 8, 9, 10, 11, 12, 13] rfl (by decide) rfl (by decide) (by decide) (fun _ => rfl) (by decide) 0 rfl rfl rfl (Nat.le_of_ble_eq_true rfl) ⟨by decide, by decide⟩ dX7_ink_7 (fun r u hr_1 => ?_)
  subst hr_1
  refine kw_if_eq_D (tgt := 22) C dX7_ink_10 (by decide) (fun c_10 => ?_) (fun c_10 => ?_)
  ·
    refine kw_ldc (v := (-1000000)) C (mT wd_807) dX7_ink_22 ?_
    refine kR_i C () dX7_ink_24 ?_ rfl
    first | rfl | trivial | (simp; done) | omega
  ·
    refine kw_iload_n C 2 dX7_ink_13 rfl ?_
    refine kw_iconst (v := nI 0) C dX7_ink_14 (by decide) ?_
    refine kw_iconst (v := nI 5) C dX7_ink_15 (by decide) ?_
    refine kS_i (As := [.int wh, .int (nI 0), .int (nI 5)]) (rest := []) (ws' := fun (u : Unit) => kMod y a (nI 0) Sr dr pa um im ikp tx ty sn sm at1 pl tk vl fa pf odr gv mk bo bq) C (c_X7_in l G y t wh (nI 0) (nI 5)) (va_cwS 3 C.2.2.2.2.1 (goodS cT wd_688 wd_686 wd_687 wd_48) rfl rfl rfl (by decide +kernel) ⟨by decide, by decide⟩) [] [0, 1, 2, 3, 4, 5, 6, 7, 8, 9, 10, 11, 12, 13] [0, 1, 2, 3, 4, 5, 6, 7, 8, 9, 10, 11, 12, 13] rfl (by decide) rfl (by decide) (by decide) (fun _ => rfl) (by decide) rfl (Nat.le_of_ble_eq_true rfl) ⟨by decide, by decide⟩ dX7_ink_16 (fun r u hr_2 => ?_)
    subst hr_2
    refine kw_if_ne_D (tgt := 25) C dX7_ink_19 (by decide) (fun c_19 => ?_) (fun c_19 => ?_)
    ·
      exact absurd ⟨c_10, (in_R1 (by decide)).mp c_19⟩ hb
    ·
      refine kw_ldc (v := (-1000000)) C (mT wd_807) dX7_ink_22 ?_
      refine kR_i C () dX7_ink_24 ?_ rfl
      first | rfl | trivial | (simp; done) | omega

set_option maxHeartbeats 4000000 in
set_option maxRecDepth 100000 in
theorem c_X7_ink_0 (l : Launch) (G : va_G) (y : Nat → ClassId) (t : Nat) (a : Nat → Nat) (th : Int32) (Sr : Nat → Int32) (dr : Nat → Int32) (pa : Nat → Int32) (um : Int32) (im : Nat → Int32) (ikp : Nat → Int32) (tx : Nat → Int32) (ty : Int32) (sn : Nat → Int32) (sm : Int32) (at1 : Int32) (pl : Int32) (tk : Int32) (vl : Int32) (fa : Int32) (pf : Nat → Int32) (odr : Nat → Int32) (gv : Nat → Int32) (mk : Nat → Int32) (bo : Nat → Int32) (bq : Nat → Int32) (ii : Nat) (W : Nat) (H : Nat) (N : Nat) (pcl : Nat → Nat) (ik : Nat → Nat) (o : Nat → Nat) (bk : Nat → Nat) (kk : Nat → Nat) (hR : RowOk Sr W H N pcl ik o bk kk) (hii : ii < N) (sz : Nat) : Met l yX7_ink (Cond.code yX7_ink cX7_ink 3 (some .int) :: TG) ({ frames := 2, cells := 0, slots := 0, locals := 43 }) (va_Pc [.ref (a 0), .int (nI ii), .int (nI 0)] (PR G y t (kMod y a th Sr dr pa um im ikp tx ty sn sm at1 pl tk vl fa pf odr gv mk bo bq) sz)) (va_Qi (fun (r : Int32) (u : Unit) => r = (nI (ik ii % 8))) (fun (u : Unit) t => PO G (va_A (kMod y a th Sr dr pa um im ikp tx ty sn sm at1 pl tk vl fa pf odr gv mk bo bq) sz) (kMod y a (nI 0) Sr dr pa um im ikp tx ty sn sm at1 pl tk vl fa pf odr gv mk bo bq) t) (va_A (kMod y a th Sr dr pa um im ikp tx ty sn sm at1 pl tk vl fa pf odr gv mk bo bq) sz)) 0 0 (va_A (kMod y a th Sr dr pa um im ikp tx ty sn sm at1 pl tk vl fa pf odr gv mk bo bq) sz) := by
  refine kMet (cc := cX7_ink) (maxL := 3) (ret := some .int) (Qc := fun A => va_Qi (fun (r : Int32) (u : Unit) => r = (nI (ik ii % 8))) (fun (u : Unit) t => PO G A (kMod y a (nI 0) Sr dr pa um im ikp tx ty sn sm at1 pl tk vl fa pf odr gv mk bo bq) t) A) (by decide) rfl (Nat.le_of_ble_eq_true rfl) (fun p e s m below meth c A hsz C hin => ?_)
  obtain ⟨hS0, hS1, hS2, hW, hH, hN, hpic, hink, hord, hblk, hdx⟩ := id hR
  refine KW.loc (lv' := [(0, .ref (a 0)), (1, .int (nI ii)), (2, .int (nI 0))]) [0, 1, 2] rfl ?_
  refine kw_aload_n C 0 dX7_ink_0 rfl ?_
  refine kw_iconst (v := nI 0) C dX7_ink_1 (by decide) ?_
  refine kw_put (T := TX7) (ty := .int) C 0 0 (kMod y a (nI 0) Sr dr pa um im ikp tx ty sn sm at1 pl tk vl fa pf odr gv mk bo bq) rfl rfl (by decide) (fun w h => mT (fwX7 w h)) tyX7 tyX7_ok nmX7 rfl (mT wd_615) rfl (by decide +kernel) rfl rfl (Nat.le_of_ble_eq_true rfl) dX7_ink_2 rfl ?_
  refine kw_aload_n C 0 dX7_ink_5 rfl ?_
  refine kw_iload_n C 1 dX7_ink_6 rfl ?_
  refine kV_i (As := [.int (nI ii)]) (rest := []) (ws' := fun (u : Unit) => kMod y a (nI 0) Sr dr pa um im ikp tx ty sn sm at1 pl tk vl fa pf odr gv mk bo bq) C (c_X7_isInk l G y t a (nI 0) Sr dr pa um im ikp tx ty sn sm at1 pl tk vl fa pf odr gv mk bo bq (nI ii) W H N pcl ik o bk kk (by first | assumption | omega | decide)) (cwV 1 C.2.2.2.2.1 (goodV cT wd_766 wd_763 wd_765 wd_26 wd_48) rfl rfl rfl (by decide +kernel) ⟨by decide, by decide⟩) [0, 1, 2, 3, 4, 5, 6, 7, 8, 9, 10, 11, 12, 13] [] [0, 1, 2, 3, 4, 5, 6, 7, 8, 9, 10, 11, 12, 13] rfl (by decide) rfl (by decide) (by decide) (fun _ => rfl) (by decide) 0 rfl rfl rfl (Nat.le_of_ble_eq_true rfl) ⟨by decide, by decide⟩ dX7_ink_7 (fun r u hr_1 => ?_)
  subst hr_1
  refine kw_if_eq_D (tgt := 22) C dX7_ink_10 (by decide) (fun c_10 => ?_) (fun c_10 => ?_)
  ·
    exact absurd (inR_of hii (by omega)) c_10
  ·
    refine kw_iload_n C 2 dX7_ink_13 rfl ?_
    refine kw_iconst (v := nI 0) C dX7_ink_14 (by decide) ?_
    refine kw_iconst (v := nI 5) C dX7_ink_15 (by decide) ?_
    refine kS_i (As := [.int (nI 0), .int (nI 0), .int (nI 5)]) (rest := []) (ws' := fun (u : Unit) => kMod y a (nI 0) Sr dr pa um im ikp tx ty sn sm at1 pl tk vl fa pf odr gv mk bo bq) C (c_X7_in l G y t (nI 0) (nI 0) (nI 5)) (va_cwS 3 C.2.2.2.2.1 (goodS cT wd_688 wd_686 wd_687 wd_48) rfl rfl rfl (by decide +kernel) ⟨by decide, by decide⟩) [] [0, 1, 2, 3, 4, 5, 6, 7, 8, 9, 10, 11, 12, 13] [0, 1, 2, 3, 4, 5, 6, 7, 8, 9, 10, 11, 12, 13] rfl (by decide) rfl (by decide) (by decide) (fun _ => rfl) (by decide) rfl (Nat.le_of_ble_eq_true rfl) ⟨by decide, by decide⟩ dX7_ink_16 (fun r u hr_2 => ?_)
    subst hr_2
    refine kw_if_ne_D (tgt := 25) C dX7_ink_19 (by decide) (fun c_19 => ?_) (fun c_19 => ?_)
    ·
      refine kw_iload_n C 2 dX7_ink_25 rfl ?_
      refine kw_tabIn (off := 34) (tgt := 60) (v := 0) C (by decide) dX7_ink_26 (by decide) (by decide) (by decide) (by decide) ?_
      refine kw_aload_n C 0 dX7_ink_60 rfl ?_
      refine kw_get (v := .ref (a 1)) (T := TX7) C 0 1 rfl rfl (by decide) (fun w h => mT (fwX7 w h)) rfl (mT wd_616) rfl dX7_ink_61 ?_
      refine kw_bipush (v := nI 39) C dX7_ink_64 (by decide) ?_
      refine kw_iload_n C 1 dX7_ink_66 rfl ?_
      refine kw_iadd C dX7_ink_67 (kw_top (nI_add _ _) ?_)
      refine kw_iald (f := Sr) C 1 rfl (by omega) (by decide) dX7_ink_68 ?_
      refine kw_top (show (Sr (39 + ii)) = (nI (ik (ii))) from by exact (hink (ii) (by first | assumption | omega)).1) ?_
      have hl_68 := (hink (ii) (by first | assumption | omega)).2
      refine kw_bipush (v := nI 8) C dX7_ink_69 (by decide) ?_
      refine kw_irem C dX7_ink_71 (by decide) (kw_top (pk_rem (by omega) (by decide) (by decide)) ?_)
      refine kR_i C () dX7_ink_72 ?_ rfl
      first | rfl | trivial | (simp; done) | omega
    ·
      exact absurd (by decide) c_19

set_option maxHeartbeats 4000000 in
set_option maxRecDepth 100000 in
theorem c_X7_ink_1 (l : Launch) (G : va_G) (y : Nat → ClassId) (t : Nat) (a : Nat → Nat) (th : Int32) (Sr : Nat → Int32) (dr : Nat → Int32) (pa : Nat → Int32) (um : Int32) (im : Nat → Int32) (ikp : Nat → Int32) (tx : Nat → Int32) (ty : Int32) (sn : Nat → Int32) (sm : Int32) (at1 : Int32) (pl : Int32) (tk : Int32) (vl : Int32) (fa : Int32) (pf : Nat → Int32) (odr : Nat → Int32) (gv : Nat → Int32) (mk : Nat → Int32) (bo : Nat → Int32) (bq : Nat → Int32) (ii : Nat) (W : Nat) (H : Nat) (N : Nat) (pcl : Nat → Nat) (ik : Nat → Nat) (o : Nat → Nat) (bk : Nat → Nat) (kk : Nat → Nat) (hR : RowOk Sr W H N pcl ik o bk kk) (hii : ii < N) (sz : Nat) : Met l yX7_ink (Cond.code yX7_ink cX7_ink 3 (some .int) :: TG) ({ frames := 2, cells := 0, slots := 0, locals := 43 }) (va_Pc [.ref (a 0), .int (nI ii), .int (nI 1)] (PR G y t (kMod y a th Sr dr pa um im ikp tx ty sn sm at1 pl tk vl fa pf odr gv mk bo bq) sz)) (va_Qi (fun (r : Int32) (u : Unit) => r = (nI (ik ii / 8))) (fun (u : Unit) t => PO G (va_A (kMod y a th Sr dr pa um im ikp tx ty sn sm at1 pl tk vl fa pf odr gv mk bo bq) sz) (kMod y a (nI 0) Sr dr pa um im ikp tx ty sn sm at1 pl tk vl fa pf odr gv mk bo bq) t) (va_A (kMod y a th Sr dr pa um im ikp tx ty sn sm at1 pl tk vl fa pf odr gv mk bo bq) sz)) 0 0 (va_A (kMod y a th Sr dr pa um im ikp tx ty sn sm at1 pl tk vl fa pf odr gv mk bo bq) sz) := by
  refine kMet (cc := cX7_ink) (maxL := 3) (ret := some .int) (Qc := fun A => va_Qi (fun (r : Int32) (u : Unit) => r = (nI (ik ii / 8))) (fun (u : Unit) t => PO G A (kMod y a (nI 0) Sr dr pa um im ikp tx ty sn sm at1 pl tk vl fa pf odr gv mk bo bq) t) A) (by decide) rfl (Nat.le_of_ble_eq_true rfl) (fun p e s m below meth c A hsz C hin => ?_)
  obtain ⟨hS0, hS1, hS2, hW, hH, hN, hpic, hink, hord, hblk, hdx⟩ := id hR
  refine KW.loc (lv' := [(0, .ref (a 0)), (1, .int (nI ii)), (2, .int (nI 1))]) [0, 1, 2] rfl ?_
  refine kw_aload_n C 0 dX7_ink_0 rfl ?_
  refine kw_iconst (v := nI 0) C dX7_ink_1 (by decide) ?_
  refine kw_put (T := TX7) (ty := .int) C 0 0 (kMod y a (nI 0) Sr dr pa um im ikp tx ty sn sm at1 pl tk vl fa pf odr gv mk bo bq) rfl rfl (by decide) (fun w h => mT (fwX7 w h)) tyX7 tyX7_ok nmX7 rfl (mT wd_615) rfl (by decide +kernel) rfl rfl (Nat.le_of_ble_eq_true rfl) dX7_ink_2 rfl ?_
  refine kw_aload_n C 0 dX7_ink_5 rfl ?_
  refine kw_iload_n C 1 dX7_ink_6 rfl ?_
  refine kV_i (As := [.int (nI ii)]) (rest := []) (ws' := fun (u : Unit) => kMod y a (nI 0) Sr dr pa um im ikp tx ty sn sm at1 pl tk vl fa pf odr gv mk bo bq) C (c_X7_isInk l G y t a (nI 0) Sr dr pa um im ikp tx ty sn sm at1 pl tk vl fa pf odr gv mk bo bq (nI ii) W H N pcl ik o bk kk (by first | assumption | omega | decide)) (cwV 1 C.2.2.2.2.1 (goodV cT wd_766 wd_763 wd_765 wd_26 wd_48) rfl rfl rfl (by decide +kernel) ⟨by decide, by decide⟩) [0, 1, 2, 3, 4, 5, 6, 7, 8, 9, 10, 11, 12, 13] [] [0, 1, 2, 3, 4, 5, 6, 7, 8, 9, 10, 11, 12, 13] rfl (by decide) rfl (by decide) (by decide) (fun _ => rfl) (by decide) 0 rfl rfl rfl (Nat.le_of_ble_eq_true rfl) ⟨by decide, by decide⟩ dX7_ink_7 (fun r u hr_1 => ?_)
  subst hr_1
  refine kw_if_eq_D (tgt := 22) C dX7_ink_10 (by decide) (fun c_10 => ?_) (fun c_10 => ?_)
  ·
    exact absurd (inR_of hii (by omega)) c_10
  ·
    refine kw_iload_n C 2 dX7_ink_13 rfl ?_
    refine kw_iconst (v := nI 0) C dX7_ink_14 (by decide) ?_
    refine kw_iconst (v := nI 5) C dX7_ink_15 (by decide) ?_
    refine kS_i (As := [.int (nI 1), .int (nI 0), .int (nI 5)]) (rest := []) (ws' := fun (u : Unit) => kMod y a (nI 0) Sr dr pa um im ikp tx ty sn sm at1 pl tk vl fa pf odr gv mk bo bq) C (c_X7_in l G y t (nI 1) (nI 0) (nI 5)) (va_cwS 3 C.2.2.2.2.1 (goodS cT wd_688 wd_686 wd_687 wd_48) rfl rfl rfl (by decide +kernel) ⟨by decide, by decide⟩) [] [0, 1, 2, 3, 4, 5, 6, 7, 8, 9, 10, 11, 12, 13] [0, 1, 2, 3, 4, 5, 6, 7, 8, 9, 10, 11, 12, 13] rfl (by decide) rfl (by decide) (by decide) (fun _ => rfl) (by decide) rfl (Nat.le_of_ble_eq_true rfl) ⟨by decide, by decide⟩ dX7_ink_16 (fun r u hr_2 => ?_)
    subst hr_2
    refine kw_if_ne_D (tgt := 25) C dX7_ink_19 (by decide) (fun c_19 => ?_) (fun c_19 => ?_)
    ·
      refine kw_iload_n C 2 dX7_ink_25 rfl ?_
      refine kw_tabIn (off := 47) (tgt := 73) (v := 1) C (by decide) dX7_ink_26 (by decide) (by decide) (by decide) (by decide) ?_
      refine kw_aload_n C 0 dX7_ink_73 rfl ?_
      refine kw_get (v := .ref (a 1)) (T := TX7) C 0 1 rfl rfl (by decide) (fun w h => mT (fwX7 w h)) rfl (mT wd_616) rfl dX7_ink_74 ?_
      refine kw_bipush (v := nI 39) C dX7_ink_77 (by decide) ?_
      refine kw_iload_n C 1 dX7_ink_79 rfl ?_
      refine kw_iadd C dX7_ink_80 (kw_top (nI_add _ _) ?_)
      refine kw_iald (f := Sr) C 1 rfl (by omega) (by decide) dX7_ink_81 ?_
      refine kw_top (show (Sr (39 + ii)) = (nI (ik (ii))) from by exact (hink (ii) (by first | assumption | omega)).1) ?_
      have hl_81 := (hink (ii) (by first | assumption | omega)).2
      refine kw_bipush (v := nI 8) C dX7_ink_82 (by decide) ?_
      refine kw_idiv C dX7_ink_84 (by decide) (kw_top (pk_div (by omega) (by decide) (by decide)) ?_)
      refine kR_i C () dX7_ink_85 ?_ rfl
      first | rfl | trivial | (simp; done) | omega
    ·
      exact absurd (by decide) c_19

set_option maxHeartbeats 4000000 in
set_option maxRecDepth 100000 in
theorem c_X7_ink_2 (l : Launch) (G : va_G) (y : Nat → ClassId) (t : Nat) (a : Nat → Nat) (th : Int32) (Sr : Nat → Int32) (dr : Nat → Int32) (pa : Nat → Int32) (um : Int32) (im : Nat → Int32) (ikp : Nat → Int32) (tx : Nat → Int32) (ty : Int32) (sn : Nat → Int32) (sm : Int32) (at1 : Int32) (pl : Int32) (tk : Int32) (vl : Int32) (fa : Int32) (pf : Nat → Int32) (odr : Nat → Int32) (gv : Nat → Int32) (mk : Nat → Int32) (bo : Nat → Int32) (bq : Nat → Int32) (ii : Nat) (qa : Nat) (W : Nat) (H : Nat) (N : Nat) (pcl : Nat → Nat) (ik : Nat → Nat) (o : Nat → Nat) (bk : Nat → Nat) (kk : Nat → Nat) (hR : RowOk Sr W H N pcl ik o bk kk) (hii : ii < N) (hqa : qa < N) (hoa : o qa = ii) (hua : ∀ z, z < qa → o z ≠ ii) (sz : Nat) : Met l yX7_ink (Cond.code yX7_ink cX7_ink 3 (some .int) :: TG) ({ frames := 2, cells := 0, slots := 0, locals := 43 }) (va_Pc [.ref (a 0), .int (nI ii), .int (nI 2)] (PR G y t (kMod y a th Sr dr pa um im ikp tx ty sn sm at1 pl tk vl fa pf odr gv mk bo bq) sz)) (va_Qi (fun (r : Int32) (u : Unit) => r = (nI qa)) (fun (u : Unit) t => PO G (va_A (kMod y a th Sr dr pa um im ikp tx ty sn sm at1 pl tk vl fa pf odr gv mk bo bq) sz) (kMod y a (nI 0) Sr dr pa um im ikp tx ty sn sm at1 pl tk vl fa pf odr gv mk bo bq) t) (va_A (kMod y a th Sr dr pa um im ikp tx ty sn sm at1 pl tk vl fa pf odr gv mk bo bq) sz)) 0 0 (va_A (kMod y a th Sr dr pa um im ikp tx ty sn sm at1 pl tk vl fa pf odr gv mk bo bq) sz) := by
  refine kMet (cc := cX7_ink) (maxL := 3) (ret := some .int) (Qc := fun A => va_Qi (fun (r : Int32) (u : Unit) => r = (nI qa)) (fun (u : Unit) t => PO G A (kMod y a (nI 0) Sr dr pa um im ikp tx ty sn sm at1 pl tk vl fa pf odr gv mk bo bq) t) A) (by decide) rfl (Nat.le_of_ble_eq_true rfl) (fun p e s m below meth c A hsz C hin => ?_)
  obtain ⟨hS0, hS1, hS2, hW, hH, hN, hpic, hink, hord, hblk, hdx⟩ := id hR
  refine KW.loc (lv' := [(0, .ref (a 0)), (1, .int (nI ii)), (2, .int (nI 2))]) [0, 1, 2] rfl ?_
  refine kw_aload_n C 0 dX7_ink_0 rfl ?_
  refine kw_iconst (v := nI 0) C dX7_ink_1 (by decide) ?_
  refine kw_put (T := TX7) (ty := .int) C 0 0 (kMod y a (nI 0) Sr dr pa um im ikp tx ty sn sm at1 pl tk vl fa pf odr gv mk bo bq) rfl rfl (by decide) (fun w h => mT (fwX7 w h)) tyX7 tyX7_ok nmX7 rfl (mT wd_615) rfl (by decide +kernel) rfl rfl (Nat.le_of_ble_eq_true rfl) dX7_ink_2 rfl ?_
  refine kw_aload_n C 0 dX7_ink_5 rfl ?_
  refine kw_iload_n C 1 dX7_ink_6 rfl ?_
  refine kV_i (As := [.int (nI ii)]) (rest := []) (ws' := fun (u : Unit) => kMod y a (nI 0) Sr dr pa um im ikp tx ty sn sm at1 pl tk vl fa pf odr gv mk bo bq) C (c_X7_isInk l G y t a (nI 0) Sr dr pa um im ikp tx ty sn sm at1 pl tk vl fa pf odr gv mk bo bq (nI ii) W H N pcl ik o bk kk (by first | assumption | omega | decide)) (cwV 1 C.2.2.2.2.1 (goodV cT wd_766 wd_763 wd_765 wd_26 wd_48) rfl rfl rfl (by decide +kernel) ⟨by decide, by decide⟩) [0, 1, 2, 3, 4, 5, 6, 7, 8, 9, 10, 11, 12, 13] [] [0, 1, 2, 3, 4, 5, 6, 7, 8, 9, 10, 11, 12, 13] rfl (by decide) rfl (by decide) (by decide) (fun _ => rfl) (by decide) 0 rfl rfl rfl (Nat.le_of_ble_eq_true rfl) ⟨by decide, by decide⟩ dX7_ink_7 (fun r u hr_1 => ?_)
  subst hr_1
  refine kw_if_eq_D (tgt := 22) C dX7_ink_10 (by decide) (fun c_10 => ?_) (fun c_10 => ?_)
  ·
    exact absurd (inR_of hii (by omega)) c_10
  ·
    refine kw_iload_n C 2 dX7_ink_13 rfl ?_
    refine kw_iconst (v := nI 0) C dX7_ink_14 (by decide) ?_
    refine kw_iconst (v := nI 5) C dX7_ink_15 (by decide) ?_
    refine kS_i (As := [.int (nI 2), .int (nI 0), .int (nI 5)]) (rest := []) (ws' := fun (u : Unit) => kMod y a (nI 0) Sr dr pa um im ikp tx ty sn sm at1 pl tk vl fa pf odr gv mk bo bq) C (c_X7_in l G y t (nI 2) (nI 0) (nI 5)) (va_cwS 3 C.2.2.2.2.1 (goodS cT wd_688 wd_686 wd_687 wd_48) rfl rfl rfl (by decide +kernel) ⟨by decide, by decide⟩) [] [0, 1, 2, 3, 4, 5, 6, 7, 8, 9, 10, 11, 12, 13] [0, 1, 2, 3, 4, 5, 6, 7, 8, 9, 10, 11, 12, 13] rfl (by decide) rfl (by decide) (by decide) (fun _ => rfl) (by decide) rfl (Nat.le_of_ble_eq_true rfl) ⟨by decide, by decide⟩ dX7_ink_16 (fun r u hr_2 => ?_)
    subst hr_2
    refine kw_if_ne_D (tgt := 25) C dX7_ink_19 (by decide) (fun c_19 => ?_) (fun c_19 => ?_)
    ·
      refine kw_iload_n C 2 dX7_ink_25 rfl ?_
      refine kw_tabIn (off := 60) (tgt := 86) (v := 2) C (by decide) dX7_ink_26 (by decide) (by decide) (by decide) (by decide) ?_
      refine kw_aload_n C 0 dX7_ink_86 rfl ?_
      refine kw_iload_n C 1 dX7_ink_87 rfl ?_
      refine kV_i (As := [.int (nI ii)]) (rest := []) (ws' := fun (u : Unit) => kMod y a (nI 0) Sr dr pa um im ikp tx ty sn sm at1 pl tk vl fa pf odr gv mk bo bq) C (c_X7_placeOf l G y t a (nI 0) Sr dr pa um im ikp tx ty sn sm at1 pl tk vl fa pf odr gv mk bo bq ii qa W H N pcl ik o bk kk (by first | assumption | omega | decide) (by first | assumption | omega | decide) (by first | assumption | omega | decide) (by first | assumption | omega | decide) (by first | assumption | omega | decide)) (cwV 1 C.2.2.2.2.1 (goodV cT wd_782 wd_779 wd_781 wd_28 wd_48) rfl rfl rfl (by decide +kernel) ⟨by decide, by decide⟩) [0, 1, 2, 3, 4, 5, 6, 7, 8, 9, 10, 11, 12, 13] [] [0, 1, 2, 3, 4, 5, 6, 7, 8, 9, 10, 11, 12, 13] rfl (by decide) rfl (by decide) (by decide) (fun _ => rfl) (by decide) 0 rfl rfl rfl (Nat.le_of_ble_eq_true rfl) ⟨by decide, by decide⟩ dX7_ink_88 (fun r u hr_3 => ?_)
      subst hr_3
      refine kR_i C () dX7_ink_91 ?_ rfl
      first | rfl | trivial | (simp; done) | omega
    ·
      exact absurd (by decide) c_19

set_option maxHeartbeats 4000000 in
set_option maxRecDepth 100000 in
theorem c_X7_ink_3 (l : Launch) (G : va_G) (y : Nat → ClassId) (t : Nat) (a : Nat → Nat) (th : Int32) (Sr : Nat → Int32) (dr : Nat → Int32) (pa : Nat → Int32) (um : Int32) (im : Nat → Int32) (ikp : Nat → Int32) (tx : Nat → Int32) (ty : Int32) (sn : Nat → Int32) (sm : Int32) (at1 : Int32) (pl : Int32) (tk : Int32) (vl : Int32) (fa : Int32) (pf : Nat → Int32) (odr : Nat → Int32) (gv : Nat → Int32) (mk : Nat → Int32) (bo : Nat → Int32) (bq : Nat → Int32) (ii : Nat) (W : Nat) (H : Nat) (N : Nat) (pcl : Nat → Nat) (ik : Nat → Nat) (o : Nat → Nat) (bk : Nat → Nat) (kk : Nat → Nat) (hR : RowOk Sr W H N pcl ik o bk kk) (hii : ii < N) (sz : Nat) : Met l yX7_ink (Cond.code yX7_ink cX7_ink 3 (some .int) :: TG) ({ frames := 2, cells := 0, slots := 0, locals := 45 }) (va_Pc [.ref (a 0), .int (nI ii), .int (nI 3)] (PR G y t (kMod y a th Sr dr pa um im ikp tx ty sn sm at1 pl tk vl fa pf odr gv mk bo bq) sz)) (va_Qi (fun (r : Int32) (u : Unit) => r = (csI bk ii 6)) (fun (u : Unit) t => PO G (va_A (kMod y a th Sr dr pa um im ikp tx ty sn sm at1 pl tk vl fa pf odr gv mk bo bq) sz) (kMod y a (nI 0) Sr dr pa um im ikp tx ty sn sm at1 pl tk vl fa pf odr gv mk bo bq) t) (va_A (kMod y a th Sr dr pa um im ikp tx ty sn sm at1 pl tk vl fa pf odr gv mk bo bq) sz)) 0 0 (va_A (kMod y a th Sr dr pa um im ikp tx ty sn sm at1 pl tk vl fa pf odr gv mk bo bq) sz) := by
  refine kMet (cc := cX7_ink) (maxL := 3) (ret := some .int) (Qc := fun A => va_Qi (fun (r : Int32) (u : Unit) => r = (csI bk ii 6)) (fun (u : Unit) t => PO G A (kMod y a (nI 0) Sr dr pa um im ikp tx ty sn sm at1 pl tk vl fa pf odr gv mk bo bq) t) A) (by decide) rfl (Nat.le_of_ble_eq_true rfl) (fun p e s m below meth c A hsz C hin => ?_)
  obtain ⟨hS0, hS1, hS2, hW, hH, hN, hpic, hink, hord, hblk, hdx⟩ := id hR
  refine KW.loc (lv' := [(0, .ref (a 0)), (1, .int (nI ii)), (2, .int (nI 3))]) [0, 1, 2] rfl ?_
  refine kw_aload_n C 0 dX7_ink_0 rfl ?_
  refine kw_iconst (v := nI 0) C dX7_ink_1 (by decide) ?_
  refine kw_put (T := TX7) (ty := .int) C 0 0 (kMod y a (nI 0) Sr dr pa um im ikp tx ty sn sm at1 pl tk vl fa pf odr gv mk bo bq) rfl rfl (by decide) (fun w h => mT (fwX7 w h)) tyX7 tyX7_ok nmX7 rfl (mT wd_615) rfl (by decide +kernel) rfl rfl (Nat.le_of_ble_eq_true rfl) dX7_ink_2 rfl ?_
  refine kw_aload_n C 0 dX7_ink_5 rfl ?_
  refine kw_iload_n C 1 dX7_ink_6 rfl ?_
  refine kV_i (As := [.int (nI ii)]) (rest := []) (ws' := fun (u : Unit) => kMod y a (nI 0) Sr dr pa um im ikp tx ty sn sm at1 pl tk vl fa pf odr gv mk bo bq) C (c_X7_isInk l G y t a (nI 0) Sr dr pa um im ikp tx ty sn sm at1 pl tk vl fa pf odr gv mk bo bq (nI ii) W H N pcl ik o bk kk (by first | assumption | omega | decide)) (cwV 1 C.2.2.2.2.1 (goodV cT wd_766 wd_763 wd_765 wd_26 wd_48) rfl rfl rfl (by decide +kernel) ⟨by decide, by decide⟩) [0, 1, 2, 3, 4, 5, 6, 7, 8, 9, 10, 11, 12, 13] [] [0, 1, 2, 3, 4, 5, 6, 7, 8, 9, 10, 11, 12, 13] rfl (by decide) rfl (by decide) (by decide) (fun _ => rfl) (by decide) 0 rfl rfl rfl (Nat.le_of_ble_eq_true rfl) ⟨by decide, by decide⟩ dX7_ink_7 (fun r u hr_1 => ?_)
  subst hr_1
  refine kw_if_eq_D (tgt := 22) C dX7_ink_10 (by decide) (fun c_10 => ?_) (fun c_10 => ?_)
  ·
    exact absurd (inR_of hii (by omega)) c_10
  ·
    refine kw_iload_n C 2 dX7_ink_13 rfl ?_
    refine kw_iconst (v := nI 0) C dX7_ink_14 (by decide) ?_
    refine kw_iconst (v := nI 5) C dX7_ink_15 (by decide) ?_
    refine kS_i (As := [.int (nI 3), .int (nI 0), .int (nI 5)]) (rest := []) (ws' := fun (u : Unit) => kMod y a (nI 0) Sr dr pa um im ikp tx ty sn sm at1 pl tk vl fa pf odr gv mk bo bq) C (c_X7_in l G y t (nI 3) (nI 0) (nI 5)) (va_cwS 3 C.2.2.2.2.1 (goodS cT wd_688 wd_686 wd_687 wd_48) rfl rfl rfl (by decide +kernel) ⟨by decide, by decide⟩) [] [0, 1, 2, 3, 4, 5, 6, 7, 8, 9, 10, 11, 12, 13] [0, 1, 2, 3, 4, 5, 6, 7, 8, 9, 10, 11, 12, 13] rfl (by decide) rfl (by decide) (by decide) (fun _ => rfl) (by decide) rfl (Nat.le_of_ble_eq_true rfl) ⟨by decide, by decide⟩ dX7_ink_16 (fun r u hr_2 => ?_)
    subst hr_2
    refine kw_if_ne_D (tgt := 25) C dX7_ink_19 (by decide) (fun c_19 => ?_) (fun c_19 => ?_)
    ·
      refine kw_iload_n C 2 dX7_ink_25 rfl ?_
      refine kw_tabIn (off := 66) (tgt := 92) (v := 3) C (by decide) dX7_ink_26 (by decide) (by decide) (by decide) (by decide) ?_
      refine kw_aload_n C 0 dX7_ink_92 rfl ?_
      refine kw_iload_n C 1 dX7_ink_93 rfl ?_
      refine kV_i (As := [.int (nI ii)]) (rest := []) (ws' := fun (u : Unit) => kMod y a (nI 0) Sr dr pa um im ikp tx ty sn sm at1 pl tk vl fa pf odr gv mk bo bq) C (c_X7_cellsOf l G y t a (nI 0) Sr dr pa um im ikp tx ty sn sm at1 pl tk vl fa pf odr gv mk bo bq ii W H N pcl ik o bk kk (by first | assumption | omega | decide) (by first | assumption | omega | decide)) (cwV 1 C.2.2.2.2.1 (goodV cT wd_811 wd_808 wd_810 wd_32 wd_48) rfl rfl rfl (by decide +kernel) ⟨by decide, by decide⟩) [0, 1, 2, 3, 4, 5, 6, 7, 8, 9, 10, 11, 12, 13] [] [0, 1, 2, 3, 4, 5, 6, 7, 8, 9, 10, 11, 12, 13] rfl (by decide) rfl (by decide) (by decide) (fun _ => rfl) (by decide) 0 rfl rfl rfl (Nat.le_of_ble_eq_true rfl) ⟨by decide, by decide⟩ dX7_ink_94 (fun r u hr_3 => ?_)
      subst hr_3
      refine kR_i C () dX7_ink_97 ?_ rfl
      first | rfl | trivial | (simp; done) | omega
    ·
      exact absurd (by decide) c_19

set_option maxHeartbeats 4000000 in
set_option maxRecDepth 100000 in
theorem c_X7_ink_4 (l : Launch) (G : va_G) (y : Nat → ClassId) (t : Nat) (a : Nat → Nat) (th : Int32) (Sr : Nat → Int32) (dr : Nat → Int32) (pa : Nat → Int32) (um : Int32) (im : Nat → Int32) (ikp : Nat → Int32) (tx : Nat → Int32) (ty : Int32) (sn : Nat → Int32) (sm : Int32) (at1 : Int32) (pl : Int32) (tk : Int32) (vl : Int32) (fa : Int32) (pf : Nat → Int32) (odr : Nat → Int32) (gv : Nat → Int32) (mk : Nat → Int32) (bo : Nat → Int32) (bq : Nat → Int32) (ii : Nat) (W : Nat) (H : Nat) (N : Nat) (pcl : Nat → Nat) (ik : Nat → Nat) (o : Nat → Nat) (bk : Nat → Nat) (kk : Nat → Nat) (hR : RowOk Sr W H N pcl ik o bk kk) (hii : ii < N) (sz : Nat) : Met l yX7_ink (Cond.code yX7_ink cX7_ink 3 (some .int) :: TG) ({ frames := 2, cells := 0, slots := 0, locals := 43 }) (va_Pc [.ref (a 0), .int (nI ii), .int (nI 4)] (PR G y t (kMod y a th Sr dr pa um im ikp tx ty sn sm at1 pl tk vl fa pf odr gv mk bo bq) sz)) (va_Qi (fun (r : Int32) (u : Unit) => r = (dI (kk ii % 3))) (fun (u : Unit) t => PO G (va_A (kMod y a th Sr dr pa um im ikp tx ty sn sm at1 pl tk vl fa pf odr gv mk bo bq) sz) (kMod y a (nI 0) Sr dr pa um im ikp tx ty sn sm at1 pl tk vl fa pf odr gv mk bo bq) t) (va_A (kMod y a th Sr dr pa um im ikp tx ty sn sm at1 pl tk vl fa pf odr gv mk bo bq) sz)) 0 0 (va_A (kMod y a th Sr dr pa um im ikp tx ty sn sm at1 pl tk vl fa pf odr gv mk bo bq) sz) := by
  refine kMet (cc := cX7_ink) (maxL := 3) (ret := some .int) (Qc := fun A => va_Qi (fun (r : Int32) (u : Unit) => r = (dI (kk ii % 3))) (fun (u : Unit) t => PO G A (kMod y a (nI 0) Sr dr pa um im ikp tx ty sn sm at1 pl tk vl fa pf odr gv mk bo bq) t) A) (by decide) rfl (Nat.le_of_ble_eq_true rfl) (fun p e s m below meth c A hsz C hin => ?_)
  obtain ⟨hS0, hS1, hS2, hW, hH, hN, hpic, hink, hord, hblk, hdx⟩ := id hR
  refine KW.loc (lv' := [(0, .ref (a 0)), (1, .int (nI ii)), (2, .int (nI 4))]) [0, 1, 2] rfl ?_
  refine kw_aload_n C 0 dX7_ink_0 rfl ?_
  refine kw_iconst (v := nI 0) C dX7_ink_1 (by decide) ?_
  refine kw_put (T := TX7) (ty := .int) C 0 0 (kMod y a (nI 0) Sr dr pa um im ikp tx ty sn sm at1 pl tk vl fa pf odr gv mk bo bq) rfl rfl (by decide) (fun w h => mT (fwX7 w h)) tyX7 tyX7_ok nmX7 rfl (mT wd_615) rfl (by decide +kernel) rfl rfl (Nat.le_of_ble_eq_true rfl) dX7_ink_2 rfl ?_
  refine kw_aload_n C 0 dX7_ink_5 rfl ?_
  refine kw_iload_n C 1 dX7_ink_6 rfl ?_
  refine kV_i (As := [.int (nI ii)]) (rest := []) (ws' := fun (u : Unit) => kMod y a (nI 0) Sr dr pa um im ikp tx ty sn sm at1 pl tk vl fa pf odr gv mk bo bq) C (c_X7_isInk l G y t a (nI 0) Sr dr pa um im ikp tx ty sn sm at1 pl tk vl fa pf odr gv mk bo bq (nI ii) W H N pcl ik o bk kk (by first | assumption | omega | decide)) (cwV 1 C.2.2.2.2.1 (goodV cT wd_766 wd_763 wd_765 wd_26 wd_48) rfl rfl rfl (by decide +kernel) ⟨by decide, by decide⟩) [0, 1, 2, 3, 4, 5, 6, 7, 8, 9, 10, 11, 12, 13] [] [0, 1, 2, 3, 4, 5, 6, 7, 8, 9, 10, 11, 12, 13] rfl (by decide) rfl (by decide) (by decide) (fun _ => rfl) (by decide) 0 rfl rfl rfl (Nat.le_of_ble_eq_true rfl) ⟨by decide, by decide⟩ dX7_ink_7 (fun r u hr_1 => ?_)
  subst hr_1
  refine kw_if_eq_D (tgt := 22) C dX7_ink_10 (by decide) (fun c_10 => ?_) (fun c_10 => ?_)
  ·
    exact absurd (inR_of hii (by omega)) c_10
  ·
    refine kw_iload_n C 2 dX7_ink_13 rfl ?_
    refine kw_iconst (v := nI 0) C dX7_ink_14 (by decide) ?_
    refine kw_iconst (v := nI 5) C dX7_ink_15 (by decide) ?_
    refine kS_i (As := [.int (nI 4), .int (nI 0), .int (nI 5)]) (rest := []) (ws' := fun (u : Unit) => kMod y a (nI 0) Sr dr pa um im ikp tx ty sn sm at1 pl tk vl fa pf odr gv mk bo bq) C (c_X7_in l G y t (nI 4) (nI 0) (nI 5)) (va_cwS 3 C.2.2.2.2.1 (goodS cT wd_688 wd_686 wd_687 wd_48) rfl rfl rfl (by decide +kernel) ⟨by decide, by decide⟩) [] [0, 1, 2, 3, 4, 5, 6, 7, 8, 9, 10, 11, 12, 13] [0, 1, 2, 3, 4, 5, 6, 7, 8, 9, 10, 11, 12, 13] rfl (by decide) rfl (by decide) (by decide) (fun _ => rfl) (by decide) rfl (Nat.le_of_ble_eq_true rfl) ⟨by decide, by decide⟩ dX7_ink_16 (fun r u hr_2 => ?_)
    subst hr_2
    refine kw_if_ne_D (tgt := 25) C dX7_ink_19 (by decide) (fun c_19 => ?_) (fun c_19 => ?_)
    ·
      refine kw_iload_n C 2 dX7_ink_25 rfl ?_
      refine kw_tabIn (off := 72) (tgt := 98) (v := 4) C (by decide) dX7_ink_26 (by decide) (by decide) (by decide) (by decide) ?_
      refine kw_aload_n C 0 dX7_ink_98 rfl ?_
      refine kw_get (v := .ref (a 1)) (T := TX7) C 0 1 rfl rfl (by decide) (fun w h => mT (fwX7 w h)) rfl (mT wd_616) rfl dX7_ink_99 ?_
      refine kw_bipush (v := nI 87) C dX7_ink_102 (by decide) ?_
      refine kw_iload_n C 1 dX7_ink_104 rfl ?_
      refine kw_iadd C dX7_ink_105 (kw_top (nI_add _ _) ?_)
      refine kw_iald (f := Sr) C 1 rfl (by omega) (by decide) dX7_ink_106 ?_
      refine kw_top (show (Sr (87 + ii)) = (dI (kk (ii) % 3)) from by exact (hdx (ii) (by first | assumption | omega)).1) ?_
      have hl_106 := (hdx (ii) (by first | assumption | omega)).2.2
      refine kR_i C () dX7_ink_107 ?_ rfl
      first | rfl | trivial | (simp; done) | omega
    ·
      exact absurd (by decide) c_19

set_option maxHeartbeats 4000000 in
set_option maxRecDepth 100000 in
theorem c_X7_ink_5 (l : Launch) (G : va_G) (y : Nat → ClassId) (t : Nat) (a : Nat → Nat) (th : Int32) (Sr : Nat → Int32) (dr : Nat → Int32) (pa : Nat → Int32) (um : Int32) (im : Nat → Int32) (ikp : Nat → Int32) (tx : Nat → Int32) (ty : Int32) (sn : Nat → Int32) (sm : Int32) (at1 : Int32) (pl : Int32) (tk : Int32) (vl : Int32) (fa : Int32) (pf : Nat → Int32) (odr : Nat → Int32) (gv : Nat → Int32) (mk : Nat → Int32) (bo : Nat → Int32) (bq : Nat → Int32) (ii : Nat) (W : Nat) (H : Nat) (N : Nat) (pcl : Nat → Nat) (ik : Nat → Nat) (o : Nat → Nat) (bk : Nat → Nat) (kk : Nat → Nat) (hR : RowOk Sr W H N pcl ik o bk kk) (hii : ii < N) (sz : Nat) : Met l yX7_ink (Cond.code yX7_ink cX7_ink 3 (some .int) :: TG) ({ frames := 2, cells := 0, slots := 0, locals := 43 }) (va_Pc [.ref (a 0), .int (nI ii), .int (nI 5)] (PR G y t (kMod y a th Sr dr pa um im ikp tx ty sn sm at1 pl tk vl fa pf odr gv mk bo bq) sz)) (va_Qi (fun (r : Int32) (u : Unit) => r = (dI (kk ii / 3))) (fun (u : Unit) t => PO G (va_A (kMod y a th Sr dr pa um im ikp tx ty sn sm at1 pl tk vl fa pf odr gv mk bo bq) sz) (kMod y a (nI 0) Sr dr pa um im ikp tx ty sn sm at1 pl tk vl fa pf odr gv mk bo bq) t) (va_A (kMod y a th Sr dr pa um im ikp tx ty sn sm at1 pl tk vl fa pf odr gv mk bo bq) sz)) 0 0 (va_A (kMod y a th Sr dr pa um im ikp tx ty sn sm at1 pl tk vl fa pf odr gv mk bo bq) sz) := by
  refine kMet (cc := cX7_ink) (maxL := 3) (ret := some .int) (Qc := fun A => va_Qi (fun (r : Int32) (u : Unit) => r = (dI (kk ii / 3))) (fun (u : Unit) t => PO G A (kMod y a (nI 0) Sr dr pa um im ikp tx ty sn sm at1 pl tk vl fa pf odr gv mk bo bq) t) A) (by decide) rfl (Nat.le_of_ble_eq_true rfl) (fun p e s m below meth c A hsz C hin => ?_)
  obtain ⟨hS0, hS1, hS2, hW, hH, hN, hpic, hink, hord, hblk, hdx⟩ := id hR
  refine KW.loc (lv' := [(0, .ref (a 0)), (1, .int (nI ii)), (2, .int (nI 5))]) [0, 1, 2] rfl ?_
  refine kw_aload_n C 0 dX7_ink_0 rfl ?_
  refine kw_iconst (v := nI 0) C dX7_ink_1 (by decide) ?_
  refine kw_put (T := TX7) (ty := .int) C 0 0 (kMod y a (nI 0) Sr dr pa um im ikp tx ty sn sm at1 pl tk vl fa pf odr gv mk bo bq) rfl rfl (by decide) (fun w h => mT (fwX7 w h)) tyX7 tyX7_ok nmX7 rfl (mT wd_615) rfl (by decide +kernel) rfl rfl (Nat.le_of_ble_eq_true rfl) dX7_ink_2 rfl ?_
  refine kw_aload_n C 0 dX7_ink_5 rfl ?_
  refine kw_iload_n C 1 dX7_ink_6 rfl ?_
  refine kV_i (As := [.int (nI ii)]) (rest := []) (ws' := fun (u : Unit) => kMod y a (nI 0) Sr dr pa um im ikp tx ty sn sm at1 pl tk vl fa pf odr gv mk bo bq) C (c_X7_isInk l G y t a (nI 0) Sr dr pa um im ikp tx ty sn sm at1 pl tk vl fa pf odr gv mk bo bq (nI ii) W H N pcl ik o bk kk (by first | assumption | omega | decide)) (cwV 1 C.2.2.2.2.1 (goodV cT wd_766 wd_763 wd_765 wd_26 wd_48) rfl rfl rfl (by decide +kernel) ⟨by decide, by decide⟩) [0, 1, 2, 3, 4, 5, 6, 7, 8, 9, 10, 11, 12, 13] [] [0, 1, 2, 3, 4, 5, 6, 7, 8, 9, 10, 11, 12, 13] rfl (by decide) rfl (by decide) (by decide) (fun _ => rfl) (by decide) 0 rfl rfl rfl (Nat.le_of_ble_eq_true rfl) ⟨by decide, by decide⟩ dX7_ink_7 (fun r u hr_1 => ?_)
  subst hr_1
  refine kw_if_eq_D (tgt := 22) C dX7_ink_10 (by decide) (fun c_10 => ?_) (fun c_10 => ?_)
  ·
    exact absurd (inR_of hii (by omega)) c_10
  ·
    refine kw_iload_n C 2 dX7_ink_13 rfl ?_
    refine kw_iconst (v := nI 0) C dX7_ink_14 (by decide) ?_
    refine kw_iconst (v := nI 5) C dX7_ink_15 (by decide) ?_
    refine kS_i (As := [.int (nI 5), .int (nI 0), .int (nI 5)]) (rest := []) (ws' := fun (u : Unit) => kMod y a (nI 0) Sr dr pa um im ikp tx ty sn sm at1 pl tk vl fa pf odr gv mk bo bq) C (c_X7_in l G y t (nI 5) (nI 0) (nI 5)) (va_cwS 3 C.2.2.2.2.1 (goodS cT wd_688 wd_686 wd_687 wd_48) rfl rfl rfl (by decide +kernel) ⟨by decide, by decide⟩) [] [0, 1, 2, 3, 4, 5, 6, 7, 8, 9, 10, 11, 12, 13] [0, 1, 2, 3, 4, 5, 6, 7, 8, 9, 10, 11, 12, 13] rfl (by decide) rfl (by decide) (by decide) (fun _ => rfl) (by decide) rfl (Nat.le_of_ble_eq_true rfl) ⟨by decide, by decide⟩ dX7_ink_16 (fun r u hr_2 => ?_)
    subst hr_2
    refine kw_if_ne_D (tgt := 25) C dX7_ink_19 (by decide) (fun c_19 => ?_) (fun c_19 => ?_)
    ·
      refine kw_iload_n C 2 dX7_ink_25 rfl ?_
      refine kw_tabOut (tgt := 108) C dX7_ink_26 (sw_out5 (by decide) (by decide) (by decide) (by decide) (by decide)) (by decide) ?_
      refine kw_aload_n C 0 dX7_ink_108 rfl ?_
      refine kw_get (v := .ref (a 1)) (T := TX7) C 0 1 rfl rfl (by decide) (fun w h => mT (fwX7 w h)) rfl (mT wd_616) rfl dX7_ink_109 ?_
      refine kw_bipush (v := nI 93) C dX7_ink_112 (by decide) ?_
      refine kw_iload_n C 1 dX7_ink_114 rfl ?_
      refine kw_iadd C dX7_ink_115 (kw_top (nI_add _ _) ?_)
      refine kw_iald (f := Sr) C 1 rfl (by omega) (by decide) dX7_ink_116 ?_
      refine kw_top (show (Sr (93 + ii)) = (dI (kk (ii) / 3)) from by exact (hdx (ii) (by first | assumption | omega)).2.1) ?_
      have hl_116 := (hdx (ii) (by first | assumption | omega)).2.2
      refine kR_i C () dX7_ink_117 ?_ rfl
      first | rfl | trivial | (simp; done) | omega
    ·
      exact absurd (by decide) c_19

set_option maxHeartbeats 4000000 in
set_option maxRecDepth 100000 in
theorem c_X7_count_bad (l : Launch) (G : va_G) (y : Nat → ClassId) (t : Nat) (a : Nat → Nat) (th : Int32) (Sr : Nat → Int32) (dr : Nat → Int32) (pa : Nat → Int32) (um : Int32) (im : Nat → Int32) (ikp : Nat → Int32) (tx : Nat → Int32) (ty : Int32) (sn : Nat → Int32) (sm : Int32) (at1 : Int32) (pl : Int32) (tk : Int32) (vl : Int32) (fa : Int32) (pf : Nat → Int32) (odr : Nat → Int32) (gv : Nat → Int32) (mk : Nat → Int32) (bo : Nat → Int32) (bq : Nat → Int32) (wh : Int32) (w0 : ¬ wh = 0) (w1 : ¬ wh = 1) (w2 : ¬ wh = 2) (w3 : ¬ wh = 3) (w4 : ¬ wh = 4) (w5 : ¬ wh = 5) (w6 : ¬ wh = 6) (w7 : ¬ wh = 7) (w8 : ¬ wh = 8) (sz : Nat) : Met l yX7_count (Cond.code yX7_count cX7_count 2 (some .int) :: TG) ({ frames := 0, cells := 0, slots := 0, locals := 0 }) (va_Pc [.ref (a 0), .int wh] (PR G y t (kMod y a th Sr dr pa um im ikp tx ty sn sm at1 pl tk vl fa pf odr gv mk bo bq) sz)) (va_Qi (fun (r : Int32) (u : Unit) => r = (-1)) (fun (u : Unit) t => PO G (va_A (kMod y a th Sr dr pa um im ikp tx ty sn sm at1 pl tk vl fa pf odr gv mk bo bq) sz) (kMod y a (nI 0) Sr dr pa um im ikp tx ty sn sm at1 pl tk vl fa pf odr gv mk bo bq) t) (va_A (kMod y a th Sr dr pa um im ikp tx ty sn sm at1 pl tk vl fa pf odr gv mk bo bq) sz)) 0 0 (va_A (kMod y a th Sr dr pa um im ikp tx ty sn sm at1 pl tk vl fa pf odr gv mk bo bq) sz) := by
  refine kMet (cc := cX7_count) (maxL := 2) (ret := some .int) (Qc := fun A => va_Qi (fun (r : Int32) (u : Unit) => r = (-1)) (fun (u : Unit) t => PO G A (kMod y a (nI 0) Sr dr pa um im ikp tx ty sn sm at1 pl tk vl fa pf odr gv mk bo bq) t) A) (by decide) rfl (Nat.le_of_ble_eq_true rfl) (fun p e s m below meth c A hsz C hin => ?_)
  refine KW.loc (lv' := [(0, .ref (a 0)), (1, .int wh)]) [0, 1] rfl ?_
  refine kw_aload_n C 0 dX7_count_0 rfl ?_
  refine kw_iconst (v := nI 0) C dX7_count_1 (by decide) ?_
  refine kw_put (T := TX7) (ty := .int) C 0 0 (kMod y a (nI 0) Sr dr pa um im ikp tx ty sn sm at1 pl tk vl fa pf odr gv mk bo bq) rfl rfl (by decide) (fun w h => mT (fwX7 w h)) tyX7 tyX7_ok nmX7 rfl (mT wd_615) rfl (by decide +kernel) rfl rfl (Nat.le_of_ble_eq_true rfl) dX7_count_2 rfl ?_
  refine kw_iload_n C 1 dX7_count_5 rfl ?_
  refine kw_tabOut (tgt := 93) C dX7_count_6 (sw_out9 w0 w1 w2 w3 w4 w5 w6 w7 w8) (by decide) ?_
  refine kw_iconst (v := (-1)) C dX7_count_93 (by decide) ?_
  refine kR_i C () dX7_count_94 ?_ rfl
  first | rfl | trivial | (simp; done) | omega

set_option maxHeartbeats 4000000 in
set_option maxRecDepth 100000 in
theorem c_X7_count_0 (l : Launch) (G : va_G) (y : Nat → ClassId) (t : Nat) (a : Nat → Nat) (th : Int32) (Sr : Nat → Int32) (dr : Nat → Int32) (pa : Nat → Int32) (um : Int32) (im : Nat → Int32) (ikp : Nat → Int32) (tx : Nat → Int32) (ty : Int32) (sn : Nat → Int32) (sm : Int32) (at1 : Int32) (pl : Int32) (tk : Int32) (vl : Int32) (fa : Int32) (pf : Nat → Int32) (odr : Nat → Int32) (gv : Nat → Int32) (mk : Nat → Int32) (bo : Nat → Int32) (bq : Nat → Int32) (W : Nat) (H : Nat) (N : Nat) (pcl : Nat → Nat) (ik : Nat → Nat) (o : Nat → Nat) (bk : Nat → Nat) (kk : Nat → Nat) (hR : RowOk Sr W H N pcl ik o bk kk) (sz : Nat) : Met l yX7_count (Cond.code yX7_count cX7_count 2 (some .int) :: TG) ({ frames := 0, cells := 0, slots := 0, locals := 0 }) (va_Pc [.ref (a 0), .int (nI 0)] (PR G y t (kMod y a th Sr dr pa um im ikp tx ty sn sm at1 pl tk vl fa pf odr gv mk bo bq) sz)) (va_Qi (fun (r : Int32) (u : Unit) => r = (nI W)) (fun (u : Unit) t => PO G (va_A (kMod y a th Sr dr pa um im ikp tx ty sn sm at1 pl tk vl fa pf odr gv mk bo bq) sz) (kMod y a (nI 0) Sr dr pa um im ikp tx ty sn sm at1 pl tk vl fa pf odr gv mk bo bq) t) (va_A (kMod y a th Sr dr pa um im ikp tx ty sn sm at1 pl tk vl fa pf odr gv mk bo bq) sz)) 0 0 (va_A (kMod y a th Sr dr pa um im ikp tx ty sn sm at1 pl tk vl fa pf odr gv mk bo bq) sz) := by
  refine kMet (cc := cX7_count) (maxL := 2) (ret := some .int) (Qc := fun A => va_Qi (fun (r : Int32) (u : Unit) => r = (nI W)) (fun (u : Unit) t => PO G A (kMod y a (nI 0) Sr dr pa um im ikp tx ty sn sm at1 pl tk vl fa pf odr gv mk bo bq) t) A) (by decide) rfl (Nat.le_of_ble_eq_true rfl) (fun p e s m below meth c A hsz C hin => ?_)
  obtain ⟨hS0, hS1, hS2, hW, hH, hN, hpic, hink, hord, hblk, hdx⟩ := id hR
  refine KW.loc (lv' := [(0, .ref (a 0)), (1, .int (nI 0))]) [0, 1] rfl ?_
  refine kw_aload_n C 0 dX7_count_0 rfl ?_
  refine kw_iconst (v := nI 0) C dX7_count_1 (by decide) ?_
  refine kw_put (T := TX7) (ty := .int) C 0 0 (kMod y a (nI 0) Sr dr pa um im ikp tx ty sn sm at1 pl tk vl fa pf odr gv mk bo bq) rfl rfl (by decide) (fun w h => mT (fwX7 w h)) tyX7 tyX7_ok nmX7 rfl (mT wd_615) rfl (by decide +kernel) rfl rfl (Nat.le_of_ble_eq_true rfl) dX7_count_2 rfl ?_
  refine kw_iload_n C 1 dX7_count_5 rfl ?_
  refine kw_tabIn (off := 50) (tgt := 56) (v := 0) C (by decide) dX7_count_6 (by decide) (by decide) (by decide) (by decide) ?_
  refine kw_aload_n C 0 dX7_count_56 rfl ?_
  refine kw_get (v := .ref (a 1)) (T := TX7) C 0 1 rfl rfl (by decide) (fun w h => mT (fwX7 w h)) rfl (mT wd_616) rfl dX7_count_57 ?_
  refine kw_iload_n C 1 dX7_count_60 rfl ?_
  refine kw_iald (f := Sr) C 1 rfl (by omega) (by decide) dX7_count_61 ?_
  refine kw_top (show (Sr 0) = (nI W) from by exact hS0) ?_
  refine kR_i C () dX7_count_62 ?_ rfl
  first | rfl | trivial | (simp; done) | omega

set_option maxHeartbeats 4000000 in
set_option maxRecDepth 100000 in
theorem c_X7_count_1 (l : Launch) (G : va_G) (y : Nat → ClassId) (t : Nat) (a : Nat → Nat) (th : Int32) (Sr : Nat → Int32) (dr : Nat → Int32) (pa : Nat → Int32) (um : Int32) (im : Nat → Int32) (ikp : Nat → Int32) (tx : Nat → Int32) (ty : Int32) (sn : Nat → Int32) (sm : Int32) (at1 : Int32) (pl : Int32) (tk : Int32) (vl : Int32) (fa : Int32) (pf : Nat → Int32) (odr : Nat → Int32) (gv : Nat → Int32) (mk : Nat → Int32) (bo : Nat → Int32) (bq : Nat → Int32) (W : Nat) (H : Nat) (N : Nat) (pcl : Nat → Nat) (ik : Nat → Nat) (o : Nat → Nat) (bk : Nat → Nat) (kk : Nat → Nat) (hR : RowOk Sr W H N pcl ik o bk kk) (sz : Nat) : Met l yX7_count (Cond.code yX7_count cX7_count 2 (some .int) :: TG) ({ frames := 0, cells := 0, slots := 0, locals := 0 }) (va_Pc [.ref (a 0), .int (nI 1)] (PR G y t (kMod y a th Sr dr pa um im ikp tx ty sn sm at1 pl tk vl fa pf odr gv mk bo bq) sz)) (va_Qi (fun (r : Int32) (u : Unit) => r = (nI H)) (fun (u : Unit) t => PO G (va_A (kMod y a th Sr dr pa um im ikp tx ty sn sm at1 pl tk vl fa pf odr gv mk bo bq) sz) (kMod y a (nI 0) Sr dr pa um im ikp tx ty sn sm at1 pl tk vl fa pf odr gv mk bo bq) t) (va_A (kMod y a th Sr dr pa um im ikp tx ty sn sm at1 pl tk vl fa pf odr gv mk bo bq) sz)) 0 0 (va_A (kMod y a th Sr dr pa um im ikp tx ty sn sm at1 pl tk vl fa pf odr gv mk bo bq) sz) := by
  refine kMet (cc := cX7_count) (maxL := 2) (ret := some .int) (Qc := fun A => va_Qi (fun (r : Int32) (u : Unit) => r = (nI H)) (fun (u : Unit) t => PO G A (kMod y a (nI 0) Sr dr pa um im ikp tx ty sn sm at1 pl tk vl fa pf odr gv mk bo bq) t) A) (by decide) rfl (Nat.le_of_ble_eq_true rfl) (fun p e s m below meth c A hsz C hin => ?_)
  obtain ⟨hS0, hS1, hS2, hW, hH, hN, hpic, hink, hord, hblk, hdx⟩ := id hR
  refine KW.loc (lv' := [(0, .ref (a 0)), (1, .int (nI 1))]) [0, 1] rfl ?_
  refine kw_aload_n C 0 dX7_count_0 rfl ?_
  refine kw_iconst (v := nI 0) C dX7_count_1 (by decide) ?_
  refine kw_put (T := TX7) (ty := .int) C 0 0 (kMod y a (nI 0) Sr dr pa um im ikp tx ty sn sm at1 pl tk vl fa pf odr gv mk bo bq) rfl rfl (by decide) (fun w h => mT (fwX7 w h)) tyX7 tyX7_ok nmX7 rfl (mT wd_615) rfl (by decide +kernel) rfl rfl (Nat.le_of_ble_eq_true rfl) dX7_count_2 rfl ?_
  refine kw_iload_n C 1 dX7_count_5 rfl ?_
  refine kw_tabIn (off := 50) (tgt := 56) (v := 1) C (by decide) dX7_count_6 (by decide) (by decide) (by decide) (by decide) ?_
  refine kw_aload_n C 0 dX7_count_56 rfl ?_
  refine kw_get (v := .ref (a 1)) (T := TX7) C 0 1 rfl rfl (by decide) (fun w h => mT (fwX7 w h)) rfl (mT wd_616) rfl dX7_count_57 ?_
  refine kw_iload_n C 1 dX7_count_60 rfl ?_
  refine kw_iald (f := Sr) C 1 rfl (by omega) (by decide) dX7_count_61 ?_
  refine kw_top (show (Sr 1) = (nI H) from by exact hS1) ?_
  refine kR_i C () dX7_count_62 ?_ rfl
  first | rfl | trivial | (simp; done) | omega

set_option maxHeartbeats 4000000 in
set_option maxRecDepth 100000 in
theorem c_X7_count_2 (l : Launch) (G : va_G) (y : Nat → ClassId) (t : Nat) (a : Nat → Nat) (th : Int32) (Sr : Nat → Int32) (dr : Nat → Int32) (pa : Nat → Int32) (um : Int32) (im : Nat → Int32) (ikp : Nat → Int32) (tx : Nat → Int32) (ty : Int32) (sn : Nat → Int32) (sm : Int32) (at1 : Int32) (pl : Int32) (tk : Int32) (vl : Int32) (fa : Int32) (pf : Nat → Int32) (odr : Nat → Int32) (gv : Nat → Int32) (mk : Nat → Int32) (bo : Nat → Int32) (bq : Nat → Int32) (W : Nat) (H : Nat) (N : Nat) (pcl : Nat → Nat) (ik : Nat → Nat) (o : Nat → Nat) (bk : Nat → Nat) (kk : Nat → Nat) (hR : RowOk Sr W H N pcl ik o bk kk) (sz : Nat) : Met l yX7_count (Cond.code yX7_count cX7_count 2 (some .int) :: TG) ({ frames := 0, cells := 0, slots := 0, locals := 0 }) (va_Pc [.ref (a 0), .int (nI 2)] (PR G y t (kMod y a th Sr dr pa um im ikp tx ty sn sm at1 pl tk vl fa pf odr gv mk bo bq) sz)) (va_Qi (fun (r : Int32) (u : Unit) => r = (nI N)) (fun (u : Unit) t => PO G (va_A (kMod y a th Sr dr pa um im ikp tx ty sn sm at1 pl tk vl fa pf odr gv mk bo bq) sz) (kMod y a (nI 0) Sr dr pa um im ikp tx ty sn sm at1 pl tk vl fa pf odr gv mk bo bq) t) (va_A (kMod y a th Sr dr pa um im ikp tx ty sn sm at1 pl tk vl fa pf odr gv mk bo bq) sz)) 0 0 (va_A (kMod y a th Sr dr pa um im ikp tx ty sn sm at1 pl tk vl fa pf odr gv mk bo bq) sz) := by
  refine kMet (cc := cX7_count) (maxL := 2) (ret := some .int) (Qc := fun A => va_Qi (fun (r : Int32) (u : Unit) => r = (nI N)) (fun (u : Unit) t => PO G A (kMod y a (nI 0) Sr dr pa um im ikp tx ty sn sm at1 pl tk vl fa pf odr gv mk bo bq) t) A) (by decide) rfl (Nat.le_of_ble_eq_true rfl) (fun p e s m below meth c A hsz C hin => ?_)
  obtain ⟨hS0, hS1, hS2, hW, hH, hN, hpic, hink, hord, hblk, hdx⟩ := id hR
  refine KW.loc (lv' := [(0, .ref (a 0)), (1, .int (nI 2))]) [0, 1] rfl ?_
  refine kw_aload_n C 0 dX7_count_0 rfl ?_
  refine kw_iconst (v := nI 0) C dX7_count_1 (by decide) ?_
  refine kw_put (T := TX7) (ty := .int) C 0 0 (kMod y a (nI 0) Sr dr pa um im ikp tx ty sn sm at1 pl tk vl fa pf odr gv mk bo bq) rfl rfl (by decide) (fun w h => mT (fwX7 w h)) tyX7 tyX7_ok nmX7 rfl (mT wd_615) rfl (by decide +kernel) rfl rfl (Nat.le_of_ble_eq_true rfl) dX7_count_2 rfl ?_
  refine kw_iload_n C 1 dX7_count_5 rfl ?_
  refine kw_tabIn (off := 50) (tgt := 56) (v := 2) C (by decide) dX7_count_6 (by decide) (by decide) (by decide) (by decide) ?_
  refine kw_aload_n C 0 dX7_count_56 rfl ?_
  refine kw_get (v := .ref (a 1)) (T := TX7) C 0 1 rfl rfl (by decide) (fun w h => mT (fwX7 w h)) rfl (mT wd_616) rfl dX7_count_57 ?_
  refine kw_iload_n C 1 dX7_count_60 rfl ?_
  refine kw_iald (f := Sr) C 1 rfl (by omega) (by decide) dX7_count_61 ?_
  refine kw_top (show (Sr 2) = (nI N) from by exact hS2) ?_
  refine kR_i C () dX7_count_62 ?_ rfl
  first | rfl | trivial | (simp; done) | omega

set_option maxHeartbeats 4000000 in
set_option maxRecDepth 100000 in
theorem c_X7_count_3 (l : Launch) (G : va_G) (y : Nat → ClassId) (t : Nat) (a : Nat → Nat) (th : Int32) (Sr : Nat → Int32) (dr : Nat → Int32) (pa : Nat → Int32) (um : Int32) (im : Nat → Int32) (ikp : Nat → Int32) (tx : Nat → Int32) (ty : Int32) (sn : Nat → Int32) (sm : Int32) (at1 : Int32) (pl : Int32) (tk : Int32) (vl : Int32) (fa : Int32) (pf : Nat → Int32) (odr : Nat → Int32) (gv : Nat → Int32) (mk : Nat → Int32) (bo : Nat → Int32) (bq : Nat → Int32) (W : Nat) (H : Nat) (N : Nat) (pcl : Nat → Nat) (ik : Nat → Nat) (o : Nat → Nat) (bk : Nat → Nat) (kk : Nat → Nat) (hR : RowOk Sr W H N pcl ik o bk kk) (sz : Nat) : Met l yX7_count (Cond.code yX7_count cX7_count 2 (some .int) :: TG) ({ frames := 1, cells := 0, slots := 0, locals := 23 }) (va_Pc [.ref (a 0), .int (nI 3)] (PR G y t (kMod y a th Sr dr pa um im ikp tx ty sn sm at1 pl tk vl fa pf odr gv mk bo bq) sz)) (va_Qi (fun (r : Int32) (u : Unit) => r = (nI (wtY pcl W H))) (fun (u : Unit) t => PO G (va_A (kMod y a th Sr dr pa um im ikp tx ty sn sm at1 pl tk vl fa pf odr gv mk bo bq) sz) (kMod y a (nI 0) Sr dr pa um im ikp tx ty sn sm at1 pl tk vl fa pf odr gv mk bo bq) t) (va_A (kMod y a th Sr dr pa um im ikp tx ty sn sm at1 pl tk vl fa pf odr gv mk bo bq) sz)) 0 0 (va_A (kMod y a th Sr dr pa um im ikp tx ty sn sm at1 pl tk vl fa pf odr gv mk bo bq) sz) := by
  refine kMet (cc := cX7_count) (maxL := 2) (ret := some .int) (Qc := fun A => va_Qi (fun (r : Int32) (u : Unit) => r = (nI (wtY pcl W H))) (fun (u : Unit) t => PO G A (kMod y a (nI 0) Sr dr pa um im ikp tx ty sn sm at1 pl tk vl fa pf odr gv mk bo bq) t) A) (by decide) rfl (Nat.le_of_ble_eq_true rfl) (fun p e s m below meth c A hsz C hin => ?_)
  obtain ⟨hS0, hS1, hS2, hW, hH, hN, hpic, hink, hord, hblk, hdx⟩ := id hR
  refine KW.loc (lv' := [(0, .ref (a 0)), (1, .int (nI 3))]) [0, 1] rfl ?_
  refine kw_aload_n C 0 dX7_count_0 rfl ?_
  refine kw_iconst (v := nI 0) C dX7_count_1 (by decide) ?_
  refine kw_put (T := TX7) (ty := .int) C 0 0 (kMod y a (nI 0) Sr dr pa um im ikp tx ty sn sm at1 pl tk vl fa pf odr gv mk bo bq) rfl rfl (by decide) (fun w h => mT (fwX7 w h)) tyX7 tyX7_ok nmX7 rfl (mT wd_615) rfl (by decide +kernel) rfl rfl (Nat.le_of_ble_eq_true rfl) dX7_count_2 rfl ?_
  refine kw_iload_n C 1 dX7_count_5 rfl ?_
  refine kw_tabIn (off := 57) (tgt := 63) (v := 3) C (by decide) dX7_count_6 (by decide) (by decide) (by decide) (by decide) ?_
  refine kw_aload_n C 0 dX7_count_63 rfl ?_
  refine kV_i (As := []) (rest := []) (ws' := fun (u : Unit) => kMod y a (nI 0) Sr dr pa um im ikp tx ty sn sm at1 pl tk vl fa pf odr gv mk bo bq) C (c_X7_wanted l G y t a (nI 0) Sr dr pa um im ikp tx ty sn sm at1 pl tk vl fa pf odr gv mk bo bq W H N pcl ik o bk kk (by first | assumption | omega | decide)) (cwV 0 C.2.2.2.2.1 (goodV cT wd_751 wd_748 wd_750 wd_24 wd_48) rfl rfl rfl (by decide +kernel) ⟨by decide, by decide⟩) [0, 1, 2, 3, 4, 5, 6, 7, 8, 9, 10, 11, 12, 13] [] [0, 1, 2, 3, 4, 5, 6, 7, 8, 9, 10, 11, 12, 13] rfl (by decide) rfl (by decide) (by decide) (fun _ => rfl) (by decide) 0 rfl rfl rfl (Nat.le_of_ble_eq_true rfl) ⟨by decide, by decide⟩ dX7_count_64 (fun r u hr_1 => ?_)
  subst hr_1
  refine kR_i C () dX7_count_67 ?_ rfl
  first | rfl | trivial | (simp; done) | omega

set_option maxHeartbeats 4000000 in
set_option maxRecDepth 100000 in
theorem c_X7_count_4 (l : Launch) (G : va_G) (y : Nat → ClassId) (t : Nat) (a : Nat → Nat) (th : Int32) (Sr : Nat → Int32) (dr : Nat → Int32) (pa : Nat → Int32) (um : Int32) (im : Nat → Int32) (ikp : Nat → Int32) (tx : Nat → Int32) (ty : Int32) (sn : Nat → Int32) (sm : Int32) (at1 : Int32) (pl : Int32) (tk : Int32) (vl : Int32) (fa : Int32) (pf : Nat → Int32) (odr : Nat → Int32) (gv : Nat → Int32) (mk : Nat → Int32) (bo : Nat → Int32) (bq : Nat → Int32) (W : Nat) (H : Nat) (N : Nat) (pcl : Nat → Nat) (ik : Nat → Nat) (o : Nat → Nat) (bk : Nat → Nat) (kk : Nat → Nat) (hR : RowOk Sr W H N pcl ik o bk kk) (sz : Nat) : Met l yX7_count (Cond.code yX7_count cX7_count 2 (some .int) :: TG) ({ frames := 3, cells := 0, slots := 0, locals := 67 }) (va_Pc [.ref (a 0), .int (nI 4)] (PR G y t (kMod y a th Sr dr pa um im ikp tx ty sn sm at1 pl tk vl fa pf odr gv mk bo bq) sz)) (va_Qi (fun (r : Int32) (u : Unit) => r = (csA bk N)) (fun (u : Unit) t => PO G (va_A (kMod y a th Sr dr pa um im ikp tx ty sn sm at1 pl tk vl fa pf odr gv mk bo bq) sz) (kMod y a (nI 0) Sr dr pa um im ikp tx ty sn sm at1 pl tk vl fa pf odr gv mk bo bq) t) (va_A (kMod y a th Sr dr pa um im ikp tx ty sn sm at1 pl tk vl fa pf odr gv mk bo bq) sz)) 0 0 (va_A (kMod y a th Sr dr pa um im ikp tx ty sn sm at1 pl tk vl fa pf odr gv mk bo bq) sz) := by
  refine kMet (cc := cX7_count) (maxL := 2) (ret := some .int) (Qc := fun A => va_Qi (fun (r : Int32) (u : Unit) => r = (csA bk N)) (fun (u : Unit) t => PO G A (kMod y a (nI 0) Sr dr pa um im ikp tx ty sn sm at1 pl tk vl fa pf odr gv mk bo bq) t) A) (by decide) rfl (Nat.le_of_ble_eq_true rfl) (fun p e s m below meth c A hsz C hin => ?_)
  obtain ⟨hS0, hS1, hS2, hW, hH, hN, hpic, hink, hord, hblk, hdx⟩ := id hR
  refine KW.loc (lv' := [(0, .ref (a 0)), (1, .int (nI 4))]) [0, 1] rfl ?_
  refine kw_aload_n C 0 dX7_count_0 rfl ?_
  refine kw_iconst (v := nI 0) C dX7_count_1 (by decide) ?_
  refine kw_put (T := TX7) (ty := .int) C 0 0 (kMod y a (nI 0) Sr dr pa um im ikp tx ty sn sm at1 pl tk vl fa pf odr gv mk bo bq) rfl rfl (by decide) (fun w h => mT (fwX7 w h)) tyX7 tyX7_ok nmX7 rfl (mT wd_615) rfl (by decide +kernel) rfl rfl (Nat.le_of_ble_eq_true rfl) dX7_count_2 rfl ?_
  refine kw_iload_n C 1 dX7_count_5 rfl ?_
  refine kw_tabIn (off := 62) (tgt := 68) (v := 4) C (by decide) dX7_count_6 (by decide) (by decide) (by decide) (by decide) ?_
  refine kw_aload_n C 0 dX7_count_68 rfl ?_
  refine kV_i (As := []) (rest := []) (ws' := fun (u : Unit) => kMod y a (nI 0) Sr dr pa um im ikp tx ty sn sm at1 pl tk vl fa pf odr gv mk bo bq) C (c_X7_cellsOfAll l G y t a (nI 0) Sr dr pa um im ikp tx ty sn sm at1 pl tk vl fa pf odr gv mk bo bq W H N pcl ik o bk kk (by first | assumption | omega | decide)) (cwV 0 C.2.2.2.2.1 (goodV cT wd_884 wd_881 wd_883 wd_38 wd_48) rfl rfl rfl (by decide +kernel) ⟨by decide, by decide⟩) [0, 1, 2, 3, 4, 5, 6, 7, 8, 9, 10, 11, 12, 13] [] [0, 1, 2, 3, 4, 5, 6, 7, 8, 9, 10, 11, 12, 13] rfl (by decide) rfl (by decide) (by decide) (fun _ => rfl) (by decide) 0 rfl rfl rfl (Nat.le_of_ble_eq_true rfl) ⟨by decide, by decide⟩ dX7_count_69 (fun r u hr_1 => ?_)
  subst hr_1
  refine kR_i C () dX7_count_72 ?_ rfl
  first | rfl | trivial | (simp; done) | omega

set_option maxHeartbeats 4000000 in
set_option maxRecDepth 100000 in
theorem c_X7_count_5 (l : Launch) (G : va_G) (y : Nat → ClassId) (t : Nat) (a : Nat → Nat) (th : Int32) (Sr : Nat → Int32) (dr : Nat → Int32) (pa : Nat → Int32) (um : Int32) (im : Nat → Int32) (ikp : Nat → Int32) (tx : Nat → Int32) (ty : Int32) (sn : Nat → Int32) (sm : Int32) (at1 : Int32) (pl : Int32) (tk : Int32) (vl : Int32) (fa : Int32) (pf : Nat → Int32) (odr : Nat → Int32) (gv : Nat → Int32) (mk : Nat → Int32) (bo : Nat → Int32) (bq : Nat → Int32) (W : Nat) (H : Nat) (N : Nat) (pcl : Nat → Nat) (ik : Nat → Nat) (o : Nat → Nat) (bk : Nat → Nat) (kk : Nat → Nat) (hR : RowOk Sr W H N pcl ik o bk kk) (sz : Nat) : Met l yX7_count (Cond.code yX7_count cX7_count 2 (some .int) :: TG) ({ frames := 1, cells := 0, slots := 0, locals := 22 }) (va_Pc [.ref (a 0), .int (nI 5)] (PR G y t (kMod y a th Sr dr pa um im ikp tx ty sn sm at1 pl tk vl fa pf odr gv mk bo bq) sz)) (va_Qi (fun (r : Int32) (u : Unit) => r = (nI (slC kk N))) (fun (u : Unit) t => PO G (va_A (kMod y a th Sr dr pa um im ikp tx ty sn sm at1 pl tk vl fa pf odr gv mk bo bq) sz) (kMod y a (nI 0) Sr dr pa um im ikp tx ty sn sm at1 pl tk vl fa pf odr gv mk bo bq) t) (va_A (kMod y a th Sr dr pa um im ikp tx ty sn sm at1 pl tk vl fa pf odr gv mk bo bq) sz)) 0 0 (va_A (kMod y a th Sr dr pa um im ikp tx ty sn sm at1 pl tk vl fa pf odr gv mk bo bq) sz) := by
  refine kMet (cc := cX7_count) (maxL := 2) (ret := some .int) (Qc := fun A => va_Qi (fun (r : Int32) (u : Unit) => r = (nI (slC kk N))) (fun (u : Unit) t => PO G A (kMod y a (nI 0) Sr dr pa um im ikp tx ty sn sm at1 pl tk vl fa pf odr gv mk bo bq) t) A) (by decide) rfl (Nat.le_of_ble_eq_true rfl) (fun p e s m below meth c A hsz C hin => ?_)
  obtain ⟨hS0, hS1, hS2, hW, hH, hN, hpic, hink, hord, hblk, hdx⟩ := id hR
  refine KW.loc (lv' := [(0, .ref (a 0)), (1, .int (nI 5))]) [0, 1] rfl ?_
  refine kw_aload_n C 0 dX7_count_0 rfl ?_
  refine kw_iconst (v := nI 0) C dX7_count_1 (by decide) ?_
  refine kw_put (T := TX7) (ty := .int) C 0 0 (kMod y a (nI 0) Sr dr pa um im ikp tx ty sn sm at1 pl tk vl fa pf odr gv mk bo bq) rfl rfl (by decide) (fun w h => mT (fwX7 w h)) tyX7 tyX7_ok nmX7 rfl (mT wd_615) rfl (by decide +kernel) rfl rfl (Nat.le_of_ble_eq_true rfl) dX7_count_2 rfl ?_
  refine kw_iload_n C 1 dX7_count_5 rfl ?_
  refine kw_tabIn (off := 67) (tgt := 73) (v := 5) C (by decide) dX7_count_6 (by decide) (by decide) (by decide) (by decide) ?_
  refine kw_aload_n C 0 dX7_count_73 rfl ?_
  refine kV_i (As := []) (rest := []) (ws' := fun (u : Unit) => kMod y a (nI 0) Sr dr pa um im ikp tx ty sn sm at1 pl tk vl fa pf odr gv mk bo bq) C (c_X7_slipped l G y t a (nI 0) Sr dr pa um im ikp tx ty sn sm at1 pl tk vl fa pf odr gv mk bo bq W H N pcl ik o bk kk (by first | assumption | omega | decide)) (cwV 0 C.2.2.2.2.1 (goodV cT wd_888 wd_885 wd_887 wd_39 wd_48) rfl rfl rfl (by decide +kernel) ⟨by decide, by decide⟩) [0, 1, 2, 3, 4, 5, 6, 7, 8, 9, 10, 11, 12, 13] [] [0, 1, 2, 3, 4, 5, 6, 7, 8, 9, 10, 11, 12, 13] rfl (by decide) rfl (by decide) (by decide) (fun _ => rfl) (by decide) 0 rfl rfl rfl (Nat.le_of_ble_eq_true rfl) ⟨by decide, by decide⟩ dX7_count_74 (fun r u hr_1 => ?_)
  subst hr_1
  refine kR_i C () dX7_count_77 ?_ rfl
  first | rfl | trivial | (simp; done) | omega

set_option maxHeartbeats 4000000 in
set_option maxRecDepth 100000 in
theorem c_X7_count_6 (l : Launch) (G : va_G) (y : Nat → ClassId) (t : Nat) (a : Nat → Nat) (th : Int32) (Sr : Nat → Int32) (dr : Nat → Int32) (pa : Nat → Int32) (um : Int32) (im : Nat → Int32) (ikp : Nat → Int32) (tx : Nat → Int32) (ty : Int32) (sn : Nat → Int32) (sm : Int32) (at1 : Int32) (pl : Int32) (tk : Int32) (vl : Int32) (fa : Int32) (pf : Nat → Int32) (odr : Nat → Int32) (gv : Nat → Int32) (mk : Nat → Int32) (bo : Nat → Int32) (bq : Nat → Int32) (sz : Nat) : Met l yX7_count (Cond.code yX7_count cX7_count 2 (some .int) :: TG) ({ frames := 0, cells := 0, slots := 0, locals := 0 }) (va_Pc [.ref (a 0), .int (nI 6)] (PR G y t (kMod y a th Sr dr pa um im ikp tx ty sn sm at1 pl tk vl fa pf odr gv mk bo bq) sz)) (va_Qi (fun (r : Int32) (u : Unit) => r = sm) (fun (u : Unit) t => PO G (va_A (kMod y a th Sr dr pa um im ikp tx ty sn sm at1 pl tk vl fa pf odr gv mk bo bq) sz) (kMod y a (nI 0) Sr dr pa um im ikp tx ty sn sm at1 pl tk vl fa pf odr gv mk bo bq) t) (va_A (kMod y a th Sr dr pa um im ikp tx ty sn sm at1 pl tk vl fa pf odr gv mk bo bq) sz)) 0 0 (va_A (kMod y a th Sr dr pa um im ikp tx ty sn sm at1 pl tk vl fa pf odr gv mk bo bq) sz) := by
  refine kMet (cc := cX7_count) (maxL := 2) (ret := some .int) (Qc := fun A => va_Qi (fun (r : Int32) (u : Unit) => r = sm) (fun (u : Unit) t => PO G A (kMod y a (nI 0) Sr dr pa um im ikp tx ty sn sm at1 pl tk vl fa pf odr gv mk bo bq) t) A) (by decide) rfl (Nat.le_of_ble_eq_true rfl) (fun p e s m below meth c A hsz C hin => ?_)
  refine KW.loc (lv' := [(0, .ref (a 0)), (1, .int (nI 6))]) [0, 1] rfl ?_
  refine kw_aload_n C 0 dX7_count_0 rfl ?_
  refine kw_iconst (v := nI 0) C dX7_count_1 (by decide) ?_
  refine kw_put (T := TX7) (ty := .int) C 0 0 (kMod y a (nI 0) Sr dr pa um im ikp tx ty sn sm at1 pl tk vl fa pf odr gv mk bo bq) rfl rfl (by decide) (fun w h => mT (fwX7 w h)) tyX7 tyX7_ok nmX7 rfl (mT wd_615) rfl (by decide +kernel) rfl rfl (Nat.le_of_ble_eq_true rfl) dX7_count_2 rfl ?_
  refine kw_iload_n C 1 dX7_count_5 rfl ?_
  refine kw_tabIn (off := 72) (tgt := 78) (v := 6) C (by decide) dX7_count_6 (by decide) (by decide) (by decide) (by decide) ?_
  refine kw_aload_n C 0 dX7_count_78 rfl ?_
  refine kw_get (v := .int sm) (T := TX7) C 0 10 rfl rfl (by decide) (fun w h => mT (fwX7 w h)) rfl (mT wd_625) rfl dX7_count_79 ?_
  refine kR_i C () dX7_count_82 ?_ rfl
  first | rfl | trivial | (simp; done) | omega

set_option maxHeartbeats 4000000 in
set_option maxRecDepth 100000 in
theorem c_X7_count_7 (l : Launch) (G : va_G) (y : Nat → ClassId) (t : Nat) (a : Nat → Nat) (th : Int32) (Sr : Nat → Int32) (dr : Nat → Int32) (pa : Nat → Int32) (um : Int32) (im : Nat → Int32) (ikp : Nat → Int32) (tx : Nat → Int32) (ty : Int32) (sn : Nat → Int32) (sm : Int32) (at1 : Int32) (pl : Int32) (tk : Int32) (vl : Int32) (fa : Int32) (pf : Nat → Int32) (odr : Nat → Int32) (gv : Nat → Int32) (mk : Nat → Int32) (bo : Nat → Int32) (bq : Nat → Int32) (sz : Nat) : Met l yX7_count (Cond.code yX7_count cX7_count 2 (some .int) :: TG) ({ frames := 0, cells := 0, slots := 0, locals := 0 }) (va_Pc [.ref (a 0), .int (nI 7)] (PR G y t (kMod y a th Sr dr pa um im ikp tx ty sn sm at1 pl tk vl fa pf odr gv mk bo bq) sz)) (va_Qi (fun (r : Int32) (u : Unit) => r = ty) (fun (u : Unit) t => PO G (va_A (kMod y a th Sr dr pa um im ikp tx ty sn sm at1 pl tk vl fa pf odr gv mk bo bq) sz) (kMod y a (nI 0) Sr dr pa um im ikp tx ty sn sm at1 pl tk vl fa pf odr gv mk bo bq) t) (va_A (kMod y a th Sr dr pa um im ikp tx ty sn sm at1 pl tk vl fa pf odr gv mk bo bq) sz)) 0 0 (va_A (kMod y a th Sr dr pa um im ikp tx ty sn sm at1 pl tk vl fa pf odr gv mk bo bq) sz) := by
  refine kMet (cc := cX7_count) (maxL := 2) (ret := some .int) (Qc := fun A => va_Qi (fun (r : Int32) (u : Unit) => r = ty) (fun (u : Unit) t => PO G A (kMod y a (nI 0) Sr dr pa um im ikp tx ty sn sm at1 pl tk vl fa pf odr gv mk bo bq) t) A) (by decide) rfl (Nat.le_of_ble_eq_true rfl) (fun p e s m below meth c A hsz C hin => ?_)
  refine KW.loc (lv' := [(0, .ref (a 0)), (1, .int (nI 7))]) [0, 1] rfl ?_
  refine kw_aload_n C 0 dX7_count_0 rfl ?_
  refine kw_iconst (v := nI 0) C dX7_count_1 (by decide) ?_
  refine kw_put (T := TX7) (ty := .int) C 0 0 (kMod y a (nI 0) Sr dr pa um im ikp tx ty sn sm at1 pl tk vl fa pf odr gv mk bo bq) rfl rfl (by decide) (fun w h => mT (fwX7 w h)) tyX7 tyX7_ok nmX7 rfl (mT wd_615) rfl (by decide +kernel) rfl rfl (Nat.le_of_ble_eq_true rfl) dX7_count_2 rfl ?_
  refine kw_iload_n C 1 dX7_count_5 rfl ?_
  refine kw_tabIn (off := 77) (tgt := 83) (v := 7) C (by decide) dX7_count_6 (by decide) (by decide) (by decide) (by decide) ?_
  refine kw_aload_n C 0 dX7_count_83 rfl ?_
  refine kw_get (v := .int ty) (T := TX7) C 0 8 rfl rfl (by decide) (fun w h => mT (fwX7 w h)) rfl (mT wd_623) rfl dX7_count_84 ?_
  refine kR_i C () dX7_count_87 ?_ rfl
  first | rfl | trivial | (simp; done) | omega

set_option maxHeartbeats 4000000 in
set_option maxRecDepth 100000 in
theorem c_X7_count_8 (l : Launch) (G : va_G) (y : Nat → ClassId) (t : Nat) (a : Nat → Nat) (th : Int32) (Sr : Nat → Int32) (dr : Nat → Int32) (pa : Nat → Int32) (um : Int32) (im : Nat → Int32) (ikp : Nat → Int32) (tx : Nat → Int32) (ty : Int32) (sn : Nat → Int32) (sm : Int32) (at1 : Int32) (pl : Int32) (tk : Int32) (vl : Int32) (fa : Int32) (pf : Nat → Int32) (odr : Nat → Int32) (gv : Nat → Int32) (mk : Nat → Int32) (bo : Nat → Int32) (bq : Nat → Int32) (sz : Nat) : Met l yX7_count (Cond.code yX7_count cX7_count 2 (some .int) :: TG) ({ frames := 0, cells := 0, slots := 0, locals := 0 }) (va_Pc [.ref (a 0), .int (nI 8)] (PR G y t (kMod y a th Sr dr pa um im ikp tx ty sn sm at1 pl tk vl fa pf odr gv mk bo bq) sz)) (va_Qi (fun (r : Int32) (u : Unit) => r = um) (fun (u : Unit) t => PO G (va_A (kMod y a th Sr dr pa um im ikp tx ty sn sm at1 pl tk vl fa pf odr gv mk bo bq) sz) (kMod y a (nI 0) Sr dr pa um im ikp tx ty sn sm at1 pl tk vl fa pf odr gv mk bo bq) t) (va_A (kMod y a th Sr dr pa um im ikp tx ty sn sm at1 pl tk vl fa pf odr gv mk bo bq) sz)) 0 0 (va_A (kMod y a th Sr dr pa um im ikp tx ty sn sm at1 pl tk vl fa pf odr gv mk bo bq) sz) := by
  refine kMet (cc := cX7_count) (maxL := 2) (ret := some .int) (Qc := fun A => va_Qi (fun (r : Int32) (u : Unit) => r = um) (fun (u : Unit) t => PO G A (kMod y a (nI 0) Sr dr pa um im ikp tx ty sn sm at1 pl tk vl fa pf odr gv mk bo bq) t) A) (by decide) rfl (Nat.le_of_ble_eq_true rfl) (fun p e s m below meth c A hsz C hin => ?_)
  refine KW.loc (lv' := [(0, .ref (a 0)), (1, .int (nI 8))]) [0, 1] rfl ?_
  refine kw_aload_n C 0 dX7_count_0 rfl ?_
  refine kw_iconst (v := nI 0) C dX7_count_1 (by decide) ?_
  refine kw_put (T := TX7) (ty := .int) C 0 0 (kMod y a (nI 0) Sr dr pa um im ikp tx ty sn sm at1 pl tk vl fa pf odr gv mk bo bq) rfl rfl (by decide) (fun w h => mT (fwX7 w h)) tyX7 tyX7_ok nmX7 rfl (mT wd_615) rfl (by decide +kernel) rfl rfl (Nat.le_of_ble_eq_true rfl) dX7_count_2 rfl ?_
  refine kw_iload_n C 1 dX7_count_5 rfl ?_
  refine kw_tabIn (off := 82) (tgt := 88) (v := 8) C (by decide) dX7_count_6 (by decide) (by decide) (by decide) (by decide) ?_
  refine kw_aload_n C 0 dX7_count_88 rfl ?_
  refine kw_get (v := .int um) (T := TX7) C 0 4 rfl rfl (by decide) (fun w h => mT (fwX7 w h)) rfl (mT wd_619) rfl dX7_count_89 ?_
  refine kR_i C () dX7_count_92 ?_ rfl
  first | rfl | trivial | (simp; done) | omega

set_option maxHeartbeats 4000000 in
set_option maxRecDepth 100000 in
theorem c_X7_sees_bad (l : Launch) (G : va_G) (y : Nat → ClassId) (t : Nat) (a : Nat → Nat) (th : Int32) (Sr : Nat → Int32) (dr : Nat → Int32) (pa : Nat → Int32) (um : Int32) (im : Nat → Int32) (ikp : Nat → Int32) (tx : Nat → Int32) (ty : Int32) (sn : Nat → Int32) (sm : Int32) (at1 : Int32) (pl : Int32) (tk : Int32) (vl : Int32) (fa : Int32) (pf : Nat → Int32) (odr : Nat → Int32) (gv : Nat → Int32) (mk : Nat → Int32) (bo : Nat → Int32) (bq : Nat → Int32) (x : Int32) (z : Int32) (v : Int32) (hb : ¬ ((inR x 6 ∧ inR z 6) ∧ inR v 8)) (sz : Nat) : Met l yX7_sees (Cond.code yX7_sees cX7_sees 4 (some .int) :: TG) ({ frames := 1, cells := 0, slots := 0, locals := 22 }) (va_Pc [.ref (a 0), .int x, .int z, .int v] (PR G y t (kMod y a th Sr dr pa um im ikp tx ty sn sm at1 pl tk vl fa pf odr gv mk bo bq) sz)) (va_Qi (fun (r : Int32) (u : Unit) => r = (-1)) (fun (u : Unit) t => PO G (va_A (kMod y a th Sr dr pa um im ikp tx ty sn sm at1 pl tk vl fa pf odr gv mk bo bq) sz) (kMod y a (nI 0) Sr dr pa um im ikp tx ty sn sm at1 pl tk vl fa pf odr gv mk bo bq) t) (va_A (kMod y a th Sr dr pa um im ikp tx ty sn sm at1 pl tk vl fa pf odr gv mk bo bq) sz)) 0 0 (va_A (kMod y a th Sr dr pa um im ikp tx ty sn sm at1 pl tk vl fa pf odr gv mk bo bq) sz) := by
  refine kMet (cc := cX7_sees) (maxL := 4) (ret := some .int) (Qc := fun A => va_Qi (fun (r : Int32) (u : Unit) => r = (-1)) (fun (u : Unit) t => PO G A (kMod y a (nI 0) Sr dr pa um im ikp tx ty sn sm at1 pl tk vl fa pf odr gv mk bo bq) t) A) (by decide) rfl (Nat.le_of_ble_eq_true rfl) (fun p e s m below meth c A hsz C hin => ?_)
  refine KW.loc (lv' := [(0, .ref (a 0)), (1, .int x), (2, .int z), (3, .int v)]) [0, 1, 2, 3] rfl ?_
  refine kw_aload_n C 0 dX7_sees_0 rfl ?_
  refine kw_iconst (v := nI 0) C dX7_sees_1 (by decide) ?_
  refine kw_put (T := TX7) (ty := .int) C 0 0 (kMod y a (nI 0) Sr dr pa um im ikp tx ty sn sm at1 pl tk vl fa pf odr gv mk bo bq) rfl rfl (by decide) (fun w h => mT (fwX7 w h)) tyX7 tyX7_ok nmX7 rfl (mT wd_615) rfl (by decide +kernel) rfl rfl (Nat.le_of_ble_eq_true rfl) dX7_sees_2 rfl ?_
  refine kw_iload_n C 1 dX7_sees_5 rfl ?_
  refine kw_iconst (v := nI 0) C dX7_sees_6 (by decide) ?_
  refine kw_iconst (v := nI 5) C dX7_sees_7 (by decide) ?_
  refine kS_i (As := [.int x, .int (nI 0), .int (nI 5)]) (rest := []) (ws' := fun (u : Unit) => kMod y a (nI 0) Sr dr pa um im ikp tx ty sn sm at1 pl tk vl fa pf odr gv mk bo bq) C (c_X7_in l G y t x (nI 0) (nI 5)) (va_cwS 3 C.2.2.2.2.1 (goodS cT wd_688 wd_686 wd_687 wd_48) rfl rfl rfl (by decide +kernel) ⟨by decide, by decide⟩) [] [0, 1, 2, 3, 4, 5, 6, 7, 8, 9, 10, 11, 12, 13] [0, 1, 2, 3, 4, 5, 6, 7, 8, 9, 10, 11, 12, 13] rfl (by decide) rfl (by decide) (by decide) (fun _ => rfl) (by decide) rfl (Nat.le_of_ble_eq_true rfl) ⟨by decide, by decide⟩ dX7_sees_8 (fun r u hr_1 => ?_)
  subst hr_1
  refine kw_if_eq_D (tgt := 33) C dX7_sees_11 (by decide) (fun c_11 => ?_) (fun c_11 => ?_)
  ·
    refine kw_iconst (v := (-1)) C dX7_sees_33 (by decide) ?_
    refine kR_i C () dX7_sees_34 ?_ rfl
    first | rfl | trivial | (simp; done) | omega
  ·
    refine kw_iload_n C 2 dX7_sees_14 rfl ?_
    refine kw_iconst (v := nI 0) C dX7_sees_15 (by decide) ?_
    refine kw_iconst (v := nI 5) C dX7_sees_16 (by decide) ?_
    refine kS_i (As := [.int z, .int (nI 0), .int (nI 5)]) (rest := []) (ws' := fun (u : Unit) => kMod y a (nI 0) Sr dr pa um im ikp tx ty sn sm at1 pl tk vl fa pf odr gv mk bo bq) C (c_X7_in l G y t z (nI 0) (nI 5)) (va_cwS 3 C.2.2.2.2.1 (goodS cT wd_688 wd_686 wd_687 wd_48) rfl rfl rfl (by decide +kernel) ⟨by decide, by decide⟩) [] [0, 1, 2, 3, 4, 5, 6, 7, 8, 9, 10, 11, 12, 13] [0, 1, 2, 3, 4, 5, 6, 7, 8, 9, 10, 11, 12, 13] rfl (by decide) rfl (by decide) (by decide) (fun _ => rfl) (by decide) rfl (Nat.le_of_ble_eq_true rfl) ⟨by decide, by decide⟩ dX7_sees_17 (fun r u hr_2 => ?_)
    subst hr_2
    refine kw_if_eq_D (tgt := 33) C dX7_sees_20 (by decide) (fun c_20 => ?_) (fun c_20 => ?_)
    ·
      refine kw_iconst (v := (-1)) C dX7_sees_33 (by decide) ?_
      refine kR_i C () dX7_sees_34 ?_ rfl
      first | rfl | trivial | (simp; done) | omega
    ·
      refine kw_iload_n C 3 dX7_sees_23 rfl ?_
      refine kw_iconst (v := nI 0) C dX7_sees_24 (by decide) ?_
      refine kw_bipush (v := nI 7) C dX7_sees_25 (by decide) ?_
      refine kS_i (As := [.int v, .int (nI 0), .int (nI 7)]) (rest := []) (ws' := fun (u : Unit) => kMod y a (nI 0) Sr dr pa um im ikp tx ty sn sm at1 pl tk vl fa pf odr gv mk bo bq) C (c_X7_in l G y t v (nI 0) (nI 7)) (va_cwS 3 C.2.2.2.2.1 (goodS cT wd_688 wd_686 wd_687 wd_48) rfl rfl rfl (by decide +kernel) ⟨by decide, by decide⟩) [] [0, 1, 2, 3, 4, 5, 6, 7, 8, 9, 10, 11, 12, 13] [0, 1, 2, 3, 4, 5, 6, 7, 8, 9, 10, 11, 12, 13] rfl (by decide) rfl (by decide) (by decide) (fun _ => rfl) (by decide) rfl (Nat.le_of_ble_eq_true rfl) ⟨by decide, by decide⟩ dX7_sees_27 (fun r u hr_3 => ?_)
      subst hr_3
      refine kw_if_ne_D (tgt := 35) C dX7_sees_30 (by decide) (fun c_30 => ?_) (fun c_30 => ?_)
      ·
        exact absurd ⟨⟨(in_R1 (by decide)).mp c_11, (in_R1 (by decide)).mp c_20⟩, (in_R1 (by decide)).mp c_30⟩ hb
      ·
        refine kw_iconst (v := (-1)) C dX7_sees_33 (by decide) ?_
        refine kR_i C () dX7_sees_34 ?_ rfl
        first | rfl | trivial | (simp; done) | omega

set_option maxHeartbeats 4000000 in
set_option maxRecDepth 100000 in
theorem c_X7_sees_ok (l : Launch) (G : va_G) (y : Nat → ClassId) (t : Nat) (a : Nat → Nat) (th : Int32) (Sr : Nat → Int32) (dr : Nat → Int32) (pa : Nat → Int32) (um : Int32) (im : Nat → Int32) (ikp : Nat → Int32) (tx : Nat → Int32) (ty : Int32) (sn : Nat → Int32) (at1 : Int32) (pl : Int32) (tk : Int32) (vl : Int32) (fa : Int32) (pf : Nat → Int32) (odr : Nat → Int32) (gv : Nat → Int32) (mk : Nat → Int32) (bo : Nat → Int32) (bq : Nat → Int32) (M : Nat) (x0 : Nat) (z0 : Nat) (v0 : Nat) (hM : M ≤ 6) (hx0 : x0 < 6) (hz0 : z0 < 6) (hv0 : v0 < 8) (sz : Nat) : Met l yX7_sees (Cond.code yX7_sees cX7_sees 4 (some .int) :: TG) ({ frames := 1, cells := 0, slots := 0, locals := 22 }) (va_Pc [.ref (a 0), .int (nI x0), .int (nI z0), .int (nI v0)] (PR G y t (kMod y a th Sr dr pa um im ikp tx ty sn (nI M) at1 pl tk vl fa pf odr gv mk bo bq) sz)) (va_Qi (fun (r : Int32) (u : Nat × (Nat → Int32)) => r = (if M < 6 then nI (M + 1) else (-3)) ∧ (M < 6 → u.1 = M + 1 ∧ u.2 = upd (upd (upd sn (3 * M) (nI x0)) (3 * M + 1) (nI z0)) (3 * M + 2) (nI v0)) ∧ (¬ M < 6 → u.1 = M ∧ u.2 = sn)) (fun (u : Nat × (Nat → Int32)) t => PO G (va_A (kMod y a th Sr dr pa um im ikp tx ty sn (nI M) at1 pl tk vl fa pf odr gv mk bo bq) sz) (kMod y a (nI 0) Sr dr pa um im ikp tx ty u.2 (nI u.1) at1 pl tk vl fa pf odr gv mk bo bq) t) (va_A (kMod y a th Sr dr pa um im ikp tx ty sn (nI M) at1 pl tk vl fa pf odr gv mk bo bq) sz)) 0 0 (va_A (kMod y a th Sr dr pa um im ikp tx ty sn (nI M) at1 pl tk vl fa pf odr gv mk bo bq) sz) := by
  refine kMet (cc := cX7_sees) (maxL := 4) (ret := some .int) (Qc := fun A => va_Qi (fun (r : Int32) (u : Nat × (Nat → Int32)) => r = (if M < 6 then nI (M + 1) else (-3)) ∧ (M < 6 → u.1 = M + 1 ∧ u.2 = upd (upd (upd sn (3 * M) (nI x0)) (3 * M + 1) (nI z0)) (3 * M + 2) (nI v0)) ∧ (¬ M < 6 → u.1 = M ∧ u.2 = sn)) (fun (u : Nat × (Nat → Int32)) t => PO G A (kMod y a (nI 0) Sr dr pa um im ikp tx ty u.2 (nI u.1) at1 pl tk vl fa pf odr gv mk bo bq) t) A) (by decide) rfl (Nat.le_of_ble_eq_true rfl) (fun p e s m below meth c A hsz C hin => ?_)
  refine KW.loc (lv' := [(0, .ref (a 0)), (1, .int (nI x0)), (2, .int (nI z0)), (3, .int (nI v0))]) [0, 1, 2, 3] rfl ?_
  refine kw_aload_n C 0 dX7_sees_0 rfl ?_
  refine kw_iconst (v := nI 0) C dX7_sees_1 (by decide) ?_
  refine kw_put (T := TX7) (ty := .int) C 0 0 (kMod y a (nI 0) Sr dr pa um im ikp tx ty sn (nI M) at1 pl tk vl fa pf odr gv mk bo bq) rfl rfl (by decide) (fun w h => mT (fwX7 w h)) tyX7 tyX7_ok nmX7 rfl (mT wd_615) rfl (by decide +kernel) rfl rfl (Nat.le_of_ble_eq_true rfl) dX7_sees_2 rfl ?_
  refine kw_iload_n C 1 dX7_sees_5 rfl ?_
  refine kw_iconst (v := nI 0) C dX7_sees_6 (by decide) ?_
  refine kw_iconst (v := nI 5) C dX7_sees_7 (by decide) ?_
  refine kS_i (As := [.int (nI x0), .int (nI 0), .int (nI 5)]) (rest := []) (ws' := fun (u : Unit) => kMod y a (nI 0) Sr dr pa um im ikp tx ty sn (nI M) at1 pl tk vl fa pf odr gv mk bo bq) C (c_X7_in l G y t (nI x0) (nI 0) (nI 5)) (va_cwS 3 C.2.2.2.2.1 (goodS cT wd_688 wd_686 wd_687 wd_48) rfl rfl rfl (by decide +kernel) ⟨by decide, by decide⟩) [] [0, 1, 2, 3, 4, 5, 6, 7, 8, 9, 10, 11, 12, 13] [0, 1, 2, 3, 4, 5, 6, 7, 8, 9, 10, 11, 12, 13] rfl (by decide) rfl (by decide) (by decide) (fun _ => rfl) (by decide) rfl (Nat.le_of_ble_eq_true rfl) ⟨by decide, by decide⟩ dX7_sees_8 (fun r u hr_1 => ?_)
  subst hr_1
  refine kw_if_eq_D (tgt := 33) C dX7_sees_11 (by decide) (fun c_11 => ?_) (fun c_11 => ?_)
  ·
    exact absurd ((in_R1 (by decide)).mpr (inR_of hx0 (by decide))) c_11
  ·
    refine kw_iload_n C 2 dX7_sees_14 rfl ?_
    refine kw_iconst (v := nI 0) C dX7_sees_15 (by decide) ?_
    refine kw_iconst (v := nI 5) C dX7_sees_16 (by decide) ?_
    refine kS_i (As := [.int (nI z0), .int (nI 0), .int (nI 5)]) (rest := []) (ws' := fun (u : Unit) => kMod y a (nI 0) Sr dr pa um im ikp tx ty sn (nI M) at1 pl tk vl fa pf odr gv mk bo bq) C (c_X7_in l G y t (nI z0) (nI 0) (nI 5)) (va_cwS 3 C.2.2.2.2.1 (goodS cT wd_688 wd_686 wd_687 wd_48) rfl rfl rfl (by decide +kernel) ⟨by decide, by decide⟩) [] [0, 1, 2, 3, 4, 5, 6, 7, 8, 9, 10, 11, 12, 13] [0, 1, 2, 3, 4, 5, 6, 7, 8, 9, 10, 11, 12, 13] rfl (by decide) rfl (by decide) (by decide) (fun _ => rfl) (by decide) rfl (Nat.le_of_ble_eq_true rfl) ⟨by decide, by decide⟩ dX7_sees_17 (fun r u hr_2 => ?_)
    subst hr_2
    refine kw_if_eq_D (tgt := 33) C dX7_sees_20 (by decide) (fun c_20 => ?_) (fun c_20 => ?_)
    ·
      exact absurd ((in_R1 (by decide)).mpr (inR_of hz0 (by decide))) c_20
    ·
      refine kw_iload_n C 3 dX7_sees_23 rfl ?_
      refine kw_iconst (v := nI 0) C dX7_sees_24 (by decide) ?_
      refine kw_bipush (v := nI 7) C dX7_sees_25 (by decide) ?_
      refine kS_i (As := [.int (nI v0), .int (nI 0), .int (nI 7)]) (rest := []) (ws' := fun (u : Unit) => kMod y a (nI 0) Sr dr pa um im ikp tx ty sn (nI M) at1 pl tk vl fa pf odr gv mk bo bq) C (c_X7_in l G y t (nI v0) (nI 0) (nI 7)) (va_cwS 3 C.2.2.2.2.1 (goodS cT wd_688 wd_686 wd_687 wd_48) rfl rfl rfl (by decide +kernel) ⟨by decide, by decide⟩) [] [0, 1, 2, 3, 4, 5, 6, 7, 8, 9, 10, 11, 12, 13] [0, 1, 2, 3, 4, 5, 6, 7, 8, 9, 10, 11, 12, 13] rfl (by decide) rfl (by decide) (by decide) (fun _ => rfl) (by decide) rfl (Nat.le_of_ble_eq_true rfl) ⟨by decide, by decide⟩ dX7_sees_27 (fun r u hr_3 => ?_)
      subst hr_3
      refine kw_if_ne_D (tgt := 35) C dX7_sees_30 (by decide) (fun c_30 => ?_) (fun c_30 => ?_)
      ·
        refine kw_aload_n C 0 dX7_sees_35 rfl ?_
        refine kw_get (v := .int (nI M)) (T := TX7) C 0 10 rfl rfl (by decide) (fun w h => mT (fwX7 w h)) rfl (mT wd_625) rfl dX7_sees_36 ?_
        refine kw_bipush (v := nI 6) C dX7_sees_39 (by decide) ?_
        refine kw_icmp_ne_N (tgt := 47) C (by omega) (by omega) dX7_sees_41 (by decide) (fun c_41 => ?_) (fun c_41 => ?_)
        ·
          refine kw_aload_n C 0 dX7_sees_47 rfl ?_
          refine kw_get (v := .ref (a 7)) (T := TX7) C 0 9 rfl rfl (by decide) (fun w h => mT (fwX7 w h)) rfl (mT wd_624) rfl dX7_sees_48 ?_
          refine kw_iconst (v := nI 3) C dX7_sees_51 (by decide) ?_
          refine kw_aload_n C 0 dX7_sees_52 rfl ?_
          refine kw_get (v := .int (nI M)) (T := TX7) C 0 10 rfl rfl (by decide) (fun w h => mT (fwX7 w h)) rfl (mT wd_625) rfl dX7_sees_53 ?_
          refine kw_imul C dX7_sees_56 (kw_top (pk_mul _ _) ?_)
          refine kw_iload_n C 1 dX7_sees_57 rfl ?_
          refine kw_iast C 7 (kMod y a (nI 0) Sr dr pa um im ikp tx ty (upd sn (3 * M) (nI x0)) (nI M) at1 pl tk vl fa pf odr gv mk bo bq) rfl (by omega) (by decide) dX7_sees_58 rfl ?_
          refine kw_aload_n C 0 dX7_sees_59 rfl ?_
          refine kw_get (v := .ref (a 7)) (T := TX7) C 0 9 rfl rfl (by decide) (fun w h => mT (fwX7 w h)) rfl (mT wd_624) rfl dX7_sees_60 ?_
          refine kw_iconst (v := nI 3) C dX7_sees_63 (by decide) ?_
          refine kw_aload_n C 0 dX7_sees_64 rfl ?_
          refine kw_get (v := .int (nI M)) (T := TX7) C 0 10 rfl rfl (by decide) (fun w h => mT (fwX7 w h)) rfl (mT wd_625) rfl dX7_sees_65 ?_
          refine kw_imul C dX7_sees_68 (kw_top (pk_mul _ _) ?_)
          refine kw_iconst (v := nI 1) C dX7_sees_69 (by decide) ?_
          refine kw_iadd C dX7_sees_70 (kw_top (nI_add _ _) ?_)
          refine kw_iload_n C 2 dX7_sees_71 rfl ?_
          refine kw_iast C 7 (kMod y a (nI 0) Sr dr pa um im ikp tx ty (upd (upd sn (3 * M) (nI x0)) ((3 * M) + 1) (nI z0)) (nI M) at1 pl tk vl fa pf odr gv mk bo bq) rfl (by omega) (by decide) dX7_sees_72 rfl ?_
          refine kw_aload_n C 0 dX7_sees_73 rfl ?_
          refine kw_get (v := .ref (a 7)) (T := TX7) C 0 9 rfl rfl (by decide) (fun w h => mT (fwX7 w h)) rfl (mT wd_624) rfl dX7_sees_74 ?_
          refine kw_iconst (v := nI 3) C dX7_sees_77 (by decide) ?_
          refine kw_aload_n C 0 dX7_sees_78 rfl ?_
          refine kw_get (v := .int (nI M)) (T := TX7) C 0 10 rfl rfl (by decide) (fun w h => mT (fwX7 w h)) rfl (mT wd_625) rfl dX7_sees_79 ?_
          refine kw_imul C dX7_sees_82 (kw_top (pk_mul _ _) ?_)
          refine kw_iconst (v := nI 2) C dX7_sees_83 (by decide) ?_
          refine kw_iadd C dX7_sees_84 (kw_top (nI_add _ _) ?_)
          refine kw_iload_n C 3 dX7_sees_85 rfl ?_
          refine kw_iast C 7 (kMod y a (nI 0) Sr dr pa um im ikp tx ty (upd (upd (upd sn (3 * M) (nI x0)) ((3 * M) + 1) (nI z0)) ((3 * M) + 2) (nI v0)) (nI M) at1 pl tk vl fa pf odr gv mk bo bq) rfl (by omega) (by decide) dX7_sees_86 rfl ?_
          refine kw_aload_n C 0 dX7_sees_87 rfl ?_
          refine kw_dup C dX7_sees_88 rfl ?_
          refine kw_get (v := .int (nI M)) (T := TX7) C 0 10 rfl rfl (by decide) (fun w h => mT (fwX7 w h)) rfl (mT wd_625) rfl dX7_sees_89 ?_
          refine kw_iconst (v := nI 1) C dX7_sees_92 (by decide) ?_
          refine kw_iadd C dX7_sees_93 (kw_top (nI_add _ _) ?_)
          refine kw_put (T := TX7) (ty := .int) C 0 10 (kMod y a (nI 0) Sr dr pa um im ikp tx ty (upd (upd (upd sn (3 * M) (nI x0)) ((3 * M) + 1) (nI z0)) ((3 * M) + 2) (nI v0)) (nI (M + 1)) at1 pl tk vl fa pf odr gv mk bo bq) rfl rfl (by decide) (fun w h => mT (fwX7 w h)) tyX7 tyX7_ok nmX7 rfl (mT wd_625) rfl (by decide +kernel) rfl rfl (Nat.le_of_ble_eq_true rfl) dX7_sees_94 rfl ?_
          refine kw_aload_n C 0 dX7_sees_97 rfl ?_
          refine kw_get (v := .int (nI (M + 1))) (T := TX7) C 0 10 rfl rfl (by decide) (fun w h => mT (fwX7 w h)) rfl (mT wd_625) rfl dX7_sees_98 ?_
          refine kR_i C (M + 1, upd (upd (upd sn (3 * M) (nI x0)) ((3 * M) + 1) (nI z0)) ((3 * M) + 2) (nI v0)) dX7_sees_101 ?_ rfl
          refine ⟨?_, fun _ => ⟨rfl, rfl⟩, fun h => absurd (show M < 6 by omega) h⟩; rw [if_pos (by omega)]
        ·
          refine kw_bipush (v := (-3)) C dX7_sees_44 (by decide) ?_
          refine kR_i C (M, sn) dX7_sees_46 ?_ rfl
          refine ⟨?_, fun h => absurd h (by omega), fun _ => ⟨rfl, rfl⟩⟩; rw [if_neg (by omega)]
      ·
        exact absurd ((in_R1 (by decide)).mpr (inR_of hv0 (by decide))) c_30

set_option maxHeartbeats 4000000 in
set_option maxRecDepth 100000 in
theorem c_X7_forget_ok (l : Launch) (G : va_G) (y : Nat → ClassId) (t : Nat) (a : Nat → Nat) (th : Int32) (Sr : Nat → Int32) (dr : Nat → Int32) (pa : Nat → Int32) (um : Int32) (im : Nat → Int32) (ikp : Nat → Int32) (tx : Nat → Int32) (ty : Int32) (sn : Nat → Int32) (at1 : Int32) (pl : Int32) (tk : Int32) (vl : Int32) (fa : Int32) (pf : Nat → Int32) (odr : Nat → Int32) (gv : Nat → Int32) (mk : Nat → Int32) (bo : Nat → Int32) (bq : Nat → Int32) (M : Nat) (sz : Nat) : Met l yX7_forget (Cond.code yX7_forget cX7_forget 2 (some .int) :: TG) ({ frames := 0, cells := 0, slots := 0, locals := 0 }) (va_Pc [.ref (a 0)] (PR G y t (kMod y a th Sr dr pa um im ikp tx ty sn (nI M) at1 pl tk vl fa pf odr gv mk bo bq) sz)) (va_Qi (fun (r : Int32) (u : Unit) => r = (nI M)) (fun (u : Unit) t => PO G (va_A (kMod y a th Sr dr pa um im ikp tx ty sn (nI M) at1 pl tk vl fa pf odr gv mk bo bq) sz) (kMod y a (nI 0) Sr dr pa um im ikp tx ty sn (nI 0) at1 pl tk vl fa pf odr gv mk bo bq) t) (va_A (kMod y a th Sr dr pa um im ikp tx ty sn (nI M) at1 pl tk vl fa pf odr gv mk bo bq) sz)) 0 0 (va_A (kMod y a th Sr dr pa um im ikp tx ty sn (nI M) at1 pl tk vl fa pf odr gv mk bo bq) sz) := by
  refine kMet (cc := cX7_forget) (maxL := 2) (ret := some .int) (Qc := fun A => va_Qi (fun (r : Int32) (u : Unit) => r = (nI M)) (fun (u : Unit) t => PO G A (kMod y a (nI 0) Sr dr pa um im ikp tx ty sn (nI 0) at1 pl tk vl fa pf odr gv mk bo bq) t) A) (by decide) rfl (Nat.le_of_ble_eq_true rfl) (fun p e s m below meth c A hsz C hin => ?_)
  refine KW.loc (lv' := [(0, .ref (a 0))]) [0] rfl ?_
  refine kw_aload_n C 0 dX7_forget_0 rfl ?_
  refine kw_iconst (v := nI 0) C dX7_forget_1 (by decide) ?_
  refine kw_put (T := TX7) (ty := .int) C 0 0 (kMod y a (nI 0) Sr dr pa um im ikp tx ty sn (nI M) at1 pl tk vl fa pf odr gv mk bo bq) rfl rfl (by decide) (fun w h => mT (fwX7 w h)) tyX7 tyX7_ok nmX7 rfl (mT wd_615) rfl (by decide +kernel) rfl rfl (Nat.le_of_ble_eq_true rfl) dX7_forget_2 rfl ?_
  refine kw_aload_n C 0 dX7_forget_5 rfl ?_
  refine kw_get (v := .int (nI M)) (T := TX7) C 0 10 rfl rfl (by decide) (fun w h => mT (fwX7 w h)) rfl (mT wd_625) rfl dX7_forget_6 ?_
  refine kw_istore_n C [(1, .int (nI M)), (0, .ref (a 0))] dX7_forget_9 rfl (by decide) rfl ?_
  refine kw_aload_n C 1 dX7_forget_10 rfl ?_
  refine kw_iconst (v := nI 0) C dX7_forget_11 (by decide) ?_
  refine kw_put (T := TX7) (ty := .int) C 0 10 (kMod y a (nI 0) Sr dr pa um im ikp tx ty sn (nI 0) at1 pl tk vl fa pf odr gv mk bo bq) rfl rfl (by decide) (fun w h => mT (fwX7 w h)) tyX7 tyX7_ok nmX7 rfl (mT wd_625) rfl (by decide +kernel) rfl rfl (Nat.le_of_ble_eq_true rfl) dX7_forget_12 rfl ?_
  refine kw_iload_n C 0 dX7_forget_15 rfl ?_
  refine kR_i C () dX7_forget_16 ?_ rfl
  first | rfl | trivial | (simp; done) | omega
