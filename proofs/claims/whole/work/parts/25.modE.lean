set_option maxHeartbeats 4000000 in
set_option maxRecDepth 100000 in
theorem c_X7_letterAt (l : Launch) (G : va_G) (y : Nat → ClassId) (t : Nat) (a : Nat → Nat) (th : Int32) (Sr : Nat → Int32) (dr : Nat → Int32) (pa : Nat → Int32) (um : Int32) (im : Nat → Int32) (ikp : Nat → Int32) (tx : Nat → Int32) (sn : Nat → Int32) (sm : Int32) (at1 : Int32) (pl : Int32) (tk : Int32) (vl : Int32) (fa : Int32) (pf : Nat → Int32) (odr : Nat → Int32) (gv : Nat → Int32) (mk : Nat → Int32) (bo : Nat → Int32) (bq : Nat → Int32) (n : Nat) (lt : Nat → Nat) (i : Nat) (hn : n ≤ 100) (htx : ∀ i, i < n → tx i = nI (lt i) ∧ lt i < 256) (hi : i ≤ 100) (sz : Nat) : Met l yX7_letterAt (Cond.code yX7_letterAt cX7_letterAt 2 (some .int) :: TG) ({ frames := 0, cells := 0, slots := 0, locals := 0 }) (va_Pc [.ref (a 0), .int (nI i)] (PR G y t (kMod y a th Sr dr pa um im ikp tx (nI n) sn sm at1 pl tk vl fa pf odr gv mk bo bq) sz)) (va_Qi (fun (r : Int32) (u : Unit) => r = (ltI lt n i)) (fun (u : Unit) t => PO G (va_A (kMod y a th Sr dr pa um im ikp tx (nI n) sn sm at1 pl tk vl fa pf odr gv mk bo bq) sz) (kMod y a th Sr dr pa um im ikp tx (nI n) sn sm at1 pl tk vl fa pf odr gv mk bo bq) t) (va_A (kMod y a th Sr dr pa um im ikp tx (nI n) sn sm at1 pl tk vl fa pf odr gv mk bo bq) sz)) 0 0 (va_A (kMod y a th Sr dr pa um im ikp tx (nI n) sn sm at1 pl tk vl fa pf odr gv mk bo bq) sz) := by
  refine kMet (cc := cX7_letterAt) (maxL := 2) (ret := some .int) (Qc := fun A => va_Qi (fun (r : Int32) (u : Unit) => r = (ltI lt n i)) (fun (u : Unit) t => PO G A (kMod y a th Sr dr pa um im ikp tx (nI n) sn sm at1 pl tk vl fa pf odr gv mk bo bq) t) A) (by decide) rfl (Nat.le_of_ble_eq_true rfl) (fun p e s m below meth c A hsz C hin => ?_)
  refine KW.loc (lv' := [(0, .ref (a 0)), (1, .int (nI i))]) [0, 1] rfl ?_
  refine kw_iload_n C 1 dX7_letterAt_0 rfl ?_
  refine kw_aload_n C 0 dX7_letterAt_1 rfl ?_
  refine kw_get (v := .int (nI n)) (T := TX7) C 0 8 rfl rfl (by decide) (fun w h => mT (fwX7 w h)) rfl (mT wd_623) rfl dX7_letterAt_2 ?_
  refine kw_icmp_ge_N (tgt := 17) C (by omega) (by omega) dX7_letterAt_5 (by decide) (fun c_5 => ?_) (fun c_5 => ?_)
  ·
    refine kw_iconst (v := (-1)) C dX7_letterAt_17 (by decide) ?_
    refine kR_i C () dX7_letterAt_18 ?_ rfl
    unfold ltI; first | (rw [if_pos (by omega)]; done) | (rw [if_neg (by omega)]; done)
  ·
    refine kw_aload_n C 0 dX7_letterAt_8 rfl ?_
    refine kw_get (v := .ref (a 6)) (T := TX7) C 0 7 rfl rfl (by decide) (fun w h => mT (fwX7 w h)) rfl (mT wd_622) rfl dX7_letterAt_9 ?_
    refine kw_iload_n C 1 dX7_letterAt_12 rfl ?_
    refine kw_iald (f := tx) C 6 rfl (by omega) (by decide) dX7_letterAt_13 ?_
    refine kw_top (show (tx i) = (nI (lt i)) from by exact (htx i c_5).1) ?_
    refine kw_goto (tgt := 18) C dX7_letterAt_14 (by decide) ?_
    refine kR_i C () dX7_letterAt_18 ?_ rfl
    unfold ltI; first | (rw [if_pos (by omega)]; done) | (rw [if_neg (by omega)]; done)

set_option maxHeartbeats 4000000 in
set_option maxRecDepth 100000 in
theorem c_X7_isWell (l : Launch) (G : va_G) (y : Nat → ClassId) (t : Nat) (a : Nat → Nat) (th : Int32) (Sr : Nat → Int32) (dr : Nat → Int32) (pa : Nat → Int32) (um : Int32) (im : Nat → Int32) (ikp : Nat → Int32) (tx : Nat → Int32) (ty : Int32) (sn : Nat → Int32) (sm : Int32) (at1 : Int32) (pl : Int32) (tk : Int32) (vl : Int32) (fa : Int32) (pf : Nat → Int32) (odr : Nat → Int32) (gv : Nat → Int32) (mk : Nat → Int32) (bo : Nat → Int32) (bq : Nat → Int32) (sz : Nat) : Met l yX7_isWell (Cond.code yX7_isWell cX7_isWell 1 (some .boolean) :: TG) ({ frames := 0, cells := 0, slots := 0, locals := 0 }) (va_Pc [.ref (a 0)] (PR G y t (kMod y a th Sr dr pa um im ikp tx ty sn sm at1 pl tk vl fa pf odr gv mk bo bq) sz)) (va_Qi (fun (r : Int32) (u : Unit) => r = (bI (decide (fa = -9)))) (fun (u : Unit) t => PO G (va_A (kMod y a th Sr dr pa um im ikp tx ty sn sm at1 pl tk vl fa pf odr gv mk bo bq) sz) (kMod y a th Sr dr pa um im ikp tx ty sn sm at1 pl tk vl fa pf odr gv mk bo bq) t) (va_A (kMod y a th Sr dr pa um im ikp tx ty sn sm at1 pl tk vl fa pf odr gv mk bo bq) sz)) 0 0 (va_A (kMod y a th Sr dr pa um im ikp tx ty sn sm at1 pl tk vl fa pf odr gv mk bo bq) sz) := by
  refine kMet (cc := cX7_isWell) (maxL := 1) (ret := some .boolean) (Qc := fun A => va_Qi (fun (r : Int32) (u : Unit) => r = (bI (decide (fa = -9)))) (fun (u : Unit) t => PO G A (kMod y a th Sr dr pa um im ikp tx ty sn sm at1 pl tk vl fa pf odr gv mk bo bq) t) A) (by decide) rfl (Nat.le_of_ble_eq_true rfl) (fun p e s m below meth c A hsz C hin => ?_)
  refine KW.loc (lv' := [(0, .ref (a 0))]) [0] rfl ?_
  refine kw_aload_n C 0 dX7_isWell_0 rfl ?_
  refine kw_get (v := .int fa) (T := TX7) C 0 15 rfl rfl (by decide) (fun w h => mT (fwX7 w h)) rfl (mT wd_630) rfl dX7_isWell_1 ?_
  refine kw_bipush (v := (-9)) C dX7_isWell_4 (by decide) ?_
  refine kw_icmp_ne (tgt := 13) C dX7_isWell_6 (by decide) (fun c_6 => ?_) (fun c_6 => ?_)
  ·
    refine kw_iconst (v := nI 0) C dX7_isWell_13 (by decide) ?_
    refine kR_z C () dX7_isWell_14 (by first | decide | exact bI_z _ | rfl) ?_ rfl
    first | exact (bI_t c_6).symm | exact (bI_f c_6).symm
  ·
    refine kw_iconst (v := nI 1) C dX7_isWell_9 (by decide) ?_
    refine kw_goto (tgt := 14) C dX7_isWell_10 (by decide) ?_
    refine kR_z C () dX7_isWell_14 (by first | decide | exact bI_z _ | rfl) ?_ rfl
    first | exact (bI_t c_6).symm | exact (bI_f c_6).symm

set_option maxHeartbeats 4000000 in
set_option maxRecDepth 100000 in
theorem c_X7_advances (l : Launch) (G : va_G) (y : Nat → ClassId) (t : Nat) (a : Nat → Nat) (th : Int32) (Sr : Nat → Int32) (dr : Nat → Int32) (pa : Nat → Int32) (um : Int32) (im : Nat → Int32) (ikp : Nat → Int32) (tx : Nat → Int32) (sn : Nat → Int32) (sm : Int32) (pl : Int32) (tk : Int32) (vl : Int32) (fa : Int32) (pf : Nat → Int32) (odr : Nat → Int32) (gv : Nat → Int32) (mk : Nat → Int32) (bo : Nat → Int32) (bq : Nat → Int32) (n : Nat) (lt : Nat → Nat) (i : Nat) (hn : n ≤ 100) (htx : ∀ i, i < n → tx i = nI (lt i) ∧ lt i < 256) (hi : i ≤ n) (sz : Nat) : Met l yX7_advances (Cond.code yX7_advances cX7_advances 1 (none) :: TG) ({ frames := 1, cells := 0, slots := 0, locals := 22 }) (va_Pc [.ref (a 0)] (PR G y t (kMod y a th Sr dr pa um im ikp tx (nI n) sn sm (nI i) pl tk vl fa pf odr gv mk bo bq) sz)) (va_Qv (fun (u : Unit) => True) (fun (u : Unit) t => PO G (va_A (kMod y a th Sr dr pa um im ikp tx (nI n) sn sm (nI i) pl tk vl fa pf odr gv mk bo bq) sz) (kMod y a th Sr dr pa um im ikp tx (nI n) sn sm (nI (atT n (nx lt n i))) (nI (nx lt n i)) (nI (tokN lt n (nx lt n i))) (valI lt n (nx lt n i)) fa pf odr gv mk bo bq) t) (va_A (kMod y a th Sr dr pa um im ikp tx (nI n) sn sm (nI i) pl tk vl fa pf odr gv mk bo bq) sz)) 0 0 (va_A (kMod y a th Sr dr pa um im ikp tx (nI n) sn sm (nI i) pl tk vl fa pf odr gv mk bo bq) sz) := by
  refine kMet (cc := cX7_advances) (maxL := 1) (ret := none) (Qc := fun A => va_Qv (fun (u : Unit) => True) (fun (u : Unit) t => PO G A (kMod y a th Sr dr pa um im ikp tx (nI n) sn sm (nI (atT n (nx lt n i))) (nI (nx lt n i)) (nI (tokN lt n (nx lt n i))) (valI lt n (nx lt n i)) fa pf odr gv mk bo bq) t) A) (by decide) rfl (Nat.le_of_ble_eq_true rfl) (fun p e s m below meth c A hsz C hin => ?_)
  have hlt : ∀ i, i < n → lt i < 256 := fun i h => (htx i h).2
  refine KW.loc (lv' := [(0, .ref (a 0))]) [0] rfl ?_
  have L0_1 : ∀ (nn : Nat) (j : Nat) (hj1 : i ≤ j) (hj2 : j ≤ n) (hjx : nx lt n j = nx lt n i) (hms : n - j < nn), KW p l e ({ frames := 1, cells := 0, slots := 0, locals := 22 }) s m ([.ref (a 0)] : List Value).toArray below meth c 0 0 (MQ below (va_Qv (fun (u : Unit) => True) (fun (u : Unit) t => PO G A (kMod y a th Sr dr pa um im ikp tx (nI n) sn sm (nI (atT n (nx lt n i))) (nI (nx lt n i)) (nI (tokN lt n (nx lt n i))) (valI lt n (nx lt n i)) fa pf odr gv mk bo bq) t) A) ([.ref (a 0)] : List Value).toArray s 0 0 A) G A 1 (kMod y a th Sr dr pa um im ikp tx (nI n) sn sm (nI j) pl tk vl fa pf odr gv mk bo bq) [(0, .ref (a 0))] 0 [] := by
    intro nn
    induction nn with
    | zero => intro j hj1 hj2 hjx hms; exact absurd hms (Nat.not_lt_zero _)
    | succ nn ih_0 =>
      intro j hj1 hj2 hjx hms
      refine kw_aload_n C 0 dX7_advances_0 rfl ?_
      refine kw_aload_n C 0 dX7_advances_1 rfl ?_
      refine kw_get (v := .int (nI j)) (T := TX7) C 0 11 rfl rfl (by decide) (fun w h => mT (fwX7 w h)) rfl (mT wd_626) rfl dX7_advances_2 ?_
      refine kV_i (As := [.int (nI j)]) (rest := []) (ws' := fun (u : Unit) => kMod y a th Sr dr pa um im ikp tx (nI n) sn sm (nI j) pl tk vl fa pf odr gv mk bo bq) C (c_X7_letterAt l G y t a th Sr dr pa um im ikp tx sn sm (nI j) pl tk vl fa pf odr gv mk bo bq n lt j (by first | assumption | omega | decide) (by first | assumption | omega | decide) (by first | assumption | omega | decide)) (cwV 1 C.2.2.2.2.1 (goodV cT wd_708 wd_705 wd_707 wd_15 wd_48) rfl rfl rfl (by decide +kernel) ⟨by decide, by decide⟩) [0, 1, 2, 3, 4, 5, 6, 7, 8, 9, 10, 11, 12, 13] [] [0, 1, 2, 3, 4, 5, 6, 7, 8, 9, 10, 11, 12, 13] rfl (by decide) rfl (by decide) (by decide) (fun _ => rfl) (by decide) 0 rfl rfl rfl (Nat.le_of_ble_eq_true rfl) ⟨by decide, by decide⟩ dX7_advances_5 (fun r u hr_2 => ?_)
      subst hr_2
      refine kw_bipush (v := nI 32) C dX7_advances_8 (by decide) ?_
      refine kw_icmp_ne (tgt := 26) C dX7_advances_10 (by decide) (fun c_10 => ?_) (fun c_10 => ?_)
      ·
        have hje : nx lt n i = j := by rw [← hjx]; exact nx_s (fun h q => c_10 ((ltI_32 hlt).mpr ⟨h, q⟩))
        refine kw_aload_n C 0 dX7_advances_26 rfl ?_
        refine kw_aload_n C 0 dX7_advances_27 rfl ?_
        refine kw_get (v := .int (nI j)) (T := TX7) C 0 11 rfl rfl (by decide) (fun w h => mT (fwX7 w h)) rfl (mT wd_626) rfl dX7_advances_28 ?_
        refine kw_put (T := TX7) (ty := .int) C 0 12 (kMod y a th Sr dr pa um im ikp tx (nI n) sn sm (nI j) (nI j) tk vl fa pf odr gv mk bo bq) rfl rfl (by decide) (fun w h => mT (fwX7 w h)) tyX7 tyX7_ok nmX7 rfl (mT wd_627) rfl (by decide +kernel) rfl rfl (Nat.le_of_ble_eq_true rfl) dX7_advances_31 rfl ?_
        refine kw_aload_n C 0 dX7_advances_34 rfl ?_
        refine kw_aload_n C 0 dX7_advances_35 rfl ?_
        refine kw_aload_n C 0 dX7_advances_36 rfl ?_
        refine kw_get (v := .int (nI j)) (T := TX7) C 0 11 rfl rfl (by decide) (fun w h => mT (fwX7 w h)) rfl (mT wd_626) rfl dX7_advances_37 ?_
        refine kV_i (As := [.int (nI j)]) (rest := [.ref (a 0)]) (ws' := fun (u : Unit) => kMod y a th Sr dr pa um im ikp tx (nI n) sn sm (nI j) (nI j) tk vl fa pf odr gv mk bo bq) C (c_X7_letterAt l G y t a th Sr dr pa um im ikp tx sn sm (nI j) (nI j) tk vl fa pf odr gv mk bo bq n lt j (by first | assumption | omega | decide) (by first | assumption | omega | decide) (by first | assumption | omega | decide)) (cwV 1 C.2.2.2.2.1 (goodV cT wd_708 wd_705 wd_707 wd_15 wd_48) rfl rfl rfl (by decide +kernel) ⟨by decide, by decide⟩) [0, 1, 2, 3, 4, 5, 6, 7, 8, 9, 10, 11, 12, 13] [] [0, 1, 2, 3, 4, 5, 6, 7, 8, 9, 10, 11, 12, 13] rfl (by decide) rfl (by decide) (by decide) (fun _ => rfl) (by decide) 0 rfl rfl rfl (Nat.le_of_ble_eq_true rfl) ⟨by decide, by decide⟩ dX7_advances_40 (fun r u hr_3 => ?_)
        subst hr_3
        refine kw_put (T := TX7) (ty := .int) C 0 14 (kMod y a th Sr dr pa um im ikp tx (nI n) sn sm (nI j) (nI j) tk (ltI lt n j) fa pf odr gv mk bo bq) rfl rfl (by decide) (fun w h => mT (fwX7 w h)) tyX7 tyX7_ok nmX7 rfl (mT wd_629) rfl (by decide +kernel) rfl rfl (Nat.le_of_ble_eq_true rfl) dX7_advances_43 rfl ?_
        refine kw_aload_n C 0 dX7_advances_46 rfl ?_
        refine kw_dup C dX7_advances_47 rfl ?_
        refine kw_get (v := .int (nI j)) (T := TX7) C 0 11 rfl rfl (by decide) (fun w h => mT (fwX7 w h)) rfl (mT wd_626) rfl dX7_advances_48 ?_
        refine kw_aload_n C 0 dX7_advances_51 rfl ?_
        refine kw_get (v := .int (ltI lt n j)) (T := TX7) C 0 14 rfl rfl (by decide) (fun w h => mT (fwX7 w h)) rfl (mT wd_629) rfl dX7_advances_52 ?_
        have J63_4 : ∀ (_ : Unit), KW p l e ({ frames := 1, cells := 0, slots := 0, locals := 22 }) s m ([.ref (a 0)] : List Value).toArray below meth c 0 0 (MQ below (va_Qv (fun (u : Unit) => True) (fun (u : Unit) t => PO G A (kMod y a th Sr dr pa um im ikp tx (nI n) sn sm (nI (atT n (nx lt n i))) (nI (nx lt n i)) (nI (tokN lt n (nx lt n i))) (valI lt n (nx lt n i)) fa pf odr gv mk bo bq) t) A) ([.ref (a 0)] : List Value).toArray s 0 0 A) G A 1 (kMod y a th Sr dr pa um im ikp tx (nI n) sn sm (nI j) (nI j) tk (ltI lt n j) fa pf odr gv mk bo bq) [(0, .ref (a 0))] 63 [.int (nI (if j < n then 1 else 0)), .int (nI j), .ref (a 0)] := by
          intro _
          refine kw_iadd C dX7_advances_63 (kw_top (nI_add _ _) ?_)
          refine kw_put (T := TX7) (ty := .int) C 0 11 (kMod y a th Sr dr pa um im ikp tx (nI n) sn sm (nI (j + (if j < n then 1 else 0))) (nI j) tk (ltI lt n j) fa pf odr gv mk bo bq) rfl rfl (by decide) (fun w h => mT (fwX7 w h)) tyX7 tyX7_ok nmX7 rfl (mT wd_626) rfl (by decide +kernel) rfl rfl (Nat.le_of_ble_eq_true rfl) dX7_advances_64 rfl ?_
          refine kw_aload_n C 0 dX7_advances_67 rfl ?_
          refine kw_aload_n C 0 dX7_advances_68 rfl ?_
          refine kw_get (v := .int (ltI lt n j)) (T := TX7) C 0 14 rfl rfl (by decide) (fun w h => mT (fwX7 w h)) rfl (mT wd_629) rfl dX7_advances_69 ?_
          have J142_5 : ∀ (_ : Unit), KW p l e ({ frames := 1, cells := 0, slots := 0, locals := 22 }) s m ([.ref (a 0)] : List Value).toArray below meth c 0 0 (MQ below (va_Qv (fun (u : Unit) => True) (fun (u : Unit) t => PO G A (kMod y a th Sr dr pa um im ikp tx (nI n) sn sm (nI (atT n (nx lt n i))) (nI (nx lt n i)) (nI (tokN lt n (nx lt n i))) (valI lt n (nx lt n i)) fa pf odr gv mk bo bq) t) A) ([.ref (a 0)] : List Value).toArray s 0 0 A) G A 1 (kMod y a th Sr dr pa um im ikp tx (nI n) sn sm (nI (j + (if j < n then 1 else 0))) (nI j) tk (ltI lt n j) fa pf odr gv mk bo bq) [(0, .ref (a 0))] 142 [.int (nI (tokN lt n j)), .ref (a 0)] := by
            intro _
            refine kw_put (T := TX7) (ty := .int) C 0 13 (kMod y a th Sr dr pa um im ikp tx (nI n) sn sm (nI (j + (if j < n then 1 else 0))) (nI j) (nI (tokN lt n j)) (ltI lt n j) fa pf odr gv mk bo bq) rfl rfl (by decide) (fun w h => mT (fwX7 w h)) tyX7 tyX7_ok nmX7 rfl (mT wd_628) rfl (by decide +kernel) rfl rfl (Nat.le_of_ble_eq_true rfl) dX7_advances_142 rfl ?_
            refine kw_aload_n C 0 dX7_advances_145 rfl ?_
            refine kw_dup C dX7_advances_146 rfl ?_
            refine kw_get (v := .int (ltI lt n j)) (T := TX7) C 0 14 rfl rfl (by decide) (fun w h => mT (fwX7 w h)) rfl (mT wd_629) rfl dX7_advances_147 ?_
            refine kw_aload_n C 0 dX7_advances_150 rfl ?_
            refine kw_get (v := .int (nI (tokN lt n j))) (T := TX7) C 0 13 rfl rfl (by decide) (fun w h => mT (fwX7 w h)) rfl (mT wd_628) rfl dX7_advances_151 ?_
            refine kw_iconst (v := nI 2) C dX7_advances_154 (by decide) ?_
            have J164_6 : ∀ (_ : Unit), KW p l e ({ frames := 1, cells := 0, slots := 0, locals := 22 }) s m ([.ref (a 0)] : List Value).toArray below meth c 0 0 (MQ below (va_Qv (fun (u : Unit) => True) (fun (u : Unit) t => PO G A (kMod y a th Sr dr pa um im ikp tx (nI n) sn sm (nI (atT n (nx lt n i))) (nI (nx lt n i)) (nI (tokN lt n (nx lt n i))) (valI lt n (nx lt n i)) fa pf odr gv mk bo bq) t) A) ([.ref (a 0)] : List Value).toArray s 0 0 A) G A 1 (kMod y a th Sr dr pa um im ikp tx (nI n) sn sm (nI (j + (if j < n then 1 else 0))) (nI j) (nI (tokN lt n j)) (ltI lt n j) fa pf odr gv mk bo bq) [(0, .ref (a 0))] 164 [.int (nI (if tokN lt n j = 2 then 48 else 0)), .int (ltI lt n j), .ref (a 0)] := by
              intro _
              refine kw_isub C dX7_advances_164 ?_
              refine kw_put (T := TX7) (ty := .int) C 0 14 (kMod y a th Sr dr pa um im ikp tx (nI n) sn sm (nI (j + (if j < n then 1 else 0))) (nI j) (nI (tokN lt n j)) ((ltI lt n j) - (nI (if tokN lt n j = 2 then 48 else 0))) fa pf odr gv mk bo bq) rfl rfl (by decide) (fun w h => mT (fwX7 w h)) tyX7 tyX7_ok nmX7 rfl (mT wd_629) rfl (by decide +kernel) rfl rfl (Nat.le_of_ble_eq_true rfl) dX7_advances_165 rfl ?_
              rw [show (nx lt n i) = j from by exact hje]
              refine kR_v C () dX7_advances_168 ?_ rfl
              trivial
            refine kw_icmp_ne_N (tgt := 163) C (by have := tokN_le lt n j; omega) (by have := tokN_le lt n j; omega) dX7_advances_155 (by decide) (fun c_155 => ?_) (fun c_155 => ?_)
            ·
              refine kw_iconst (v := nI 0) C dX7_advances_163 (by decide) ?_
              refine KW.loc (lv' := [(0, .ref (a 0))]) [0] rfl ?_
              refine KW.ass (congrArg (fun zq => ([.int zq, .int (ltI lt n j), .ref (a 0)] : List Value)) (show (nI 0) = (nI (if tokN lt n j = 2 then 48 else 0)) from by first | (rw [if_pos c_155]; done) | (rw [if_neg c_155]; done))) ?_
              exact J164_6 ()
            ·
              refine kw_bipush (v := nI 48) C dX7_advances_158 (by decide) ?_
              refine kw_goto (tgt := 164) C dX7_advances_160 (by decide) ?_
              refine KW.loc (lv' := [(0, .ref (a 0))]) [0] rfl ?_
              refine KW.ass (congrArg (fun zq => ([.int zq, .int (ltI lt n j), .ref (a 0)] : List Value)) (show (nI 48) = (nI (if tokN lt n j = 2 then 48 else 0)) from by first | (rw [if_pos c_155]; done) | (rw [if_neg c_155]; done))) ?_
              exact J164_6 ()
          refine kw_if_ge (tgt := 79) C dX7_advances_72 (by decide) (fun c_72 => ?_) (fun c_72 => ?_)
          ·
            have hj : j < n := (ltI_pos hlt).mp c_72
            have hl2 := hlt j hj
            refine kw_aload_n C 0 dX7_advances_79 rfl ?_
            refine kw_get (v := .int (ltI lt n j)) (T := TX7) C 0 14 rfl rfl (by decide) (fun w h => mT (fwX7 w h)) rfl (mT wd_629) rfl dX7_advances_80 ?_
            refine kw_top (show (ltI lt n j) = (nI (lt j)) from by exact ltI_lt hj) ?_
            refine kw_bipush (v := nI 99) C dX7_advances_83 (by decide) ?_
            refine kw_icmp_eq_N (tgt := 106) C (by omega) (by omega) dX7_advances_85 (by decide) (fun c_85 => ?_) (fun c_85 => ?_)
            ·
              refine kw_iconst (v := nI 1) C dX7_advances_106 (by decide) ?_
              refine kw_goto (tgt := 142) C dX7_advances_107 (by decide) ?_
              refine KW.loc (lv' := [(0, .ref (a 0))]) [0] rfl ?_
              refine KW.ass (congrArg (fun zq => ([.int zq, .ref (a 0)] : List Value)) (show (nI 1) = (nI (tokN lt n j)) from by unfold tokN; first | (rw [if_pos (by omega)]; done) | (rw [if_neg (by omega), if_pos (by omega)]; done) | (rw [if_neg (by omega), if_neg (by omega), if_pos (by omega)]; done) | (rw [if_neg (by omega), if_neg (by omega), if_neg (by omega), if_pos (by omega)]; done) | (rw [if_neg (by omega), if_neg (by omega), if_neg (by omega), if_neg (by omega)]; done))) ?_
              exact J142_5 ()
            ·
              refine kw_aload_n C 0 dX7_advances_88 rfl ?_
              refine kw_get (v := .int (ltI lt n j)) (T := TX7) C 0 14 rfl rfl (by decide) (fun w h => mT (fwX7 w h)) rfl (mT wd_629) rfl dX7_advances_89 ?_
              refine kw_top (show (ltI lt n j) = (nI (lt j)) from by exact ltI_lt hj) ?_
              refine kw_bipush (v := nI 100) C dX7_advances_92 (by decide) ?_
              refine kw_icmp_eq_N (tgt := 106) C (by omega) (by omega) dX7_advances_94 (by decide) (fun c_94 => ?_) (fun c_94 => ?_)
              ·
                refine kw_iconst (v := nI 1) C dX7_advances_106 (by decide) ?_
                refine kw_goto (tgt := 142) C dX7_advances_107 (by decide) ?_
                refine KW.loc (lv' := [(0, .ref (a 0))]) [0] rfl ?_
                refine KW.ass (congrArg (fun zq => ([.int zq, .ref (a 0)] : List Value)) (show (nI 1) = (nI (tokN lt n j)) from by unfold tokN; first | (rw [if_pos (by omega)]; done) | (rw [if_neg (by omega), if_pos (by omega)]; done) | (rw [if_neg (by omega), if_neg (by omega), if_pos (by omega)]; done) | (rw [if_neg (by omega), if_neg (by omega), if_neg (by omega), if_pos (by omega)]; done) | (rw [if_neg (by omega), if_neg (by omega), if_neg (by omega), if_neg (by omega)]; done))) ?_
                exact J142_5 ()
              ·
                refine kw_aload_n C 0 dX7_advances_97 rfl ?_
                refine kw_get (v := .int (ltI lt n j)) (T := TX7) C 0 14 rfl rfl (by decide) (fun w h => mT (fwX7 w h)) rfl (mT wd_629) rfl dX7_advances_98 ?_
                refine kw_top (show (ltI lt n j) = (nI (lt j)) from by exact ltI_lt hj) ?_
                refine kw_bipush (v := nI 114) C dX7_advances_101 (by decide) ?_
                refine kw_icmp_ne_N (tgt := 110) C (by omega) (by omega) dX7_advances_103 (by decide) (fun c_103 => ?_) (fun c_103 => ?_)
                ·
                  refine kw_aload_n C 0 dX7_advances_110 rfl ?_
                  refine kw_get (v := .int (ltI lt n j)) (T := TX7) C 0 14 rfl rfl (by decide) (fun w h => mT (fwX7 w h)) rfl (mT wd_629) rfl dX7_advances_111 ?_
                  refine kw_top (show (ltI lt n j) = (nI (lt j)) from by exact ltI_lt hj) ?_
                  refine kw_bipush (v := nI 48) C dX7_advances_114 (by decide) ?_
                  refine kw_bipush (v := nI 57) C dX7_advances_116 (by decide) ?_
                  refine kS_i (As := [.int (nI (lt j)), .int (nI 48), .int (nI 57)]) (rest := [.ref (a 0)]) (ws' := fun (u : Unit) => kMod y a th Sr dr pa um im ikp tx (nI n) sn sm (nI (j + (if j < n then 1 else 0))) (nI j) tk (ltI lt n j) fa pf odr gv mk bo bq) C (c_X7_in l G y t (nI (lt j)) (nI 48) (nI 57)) (va_cwS 3 C.2.2.2.2.1 (goodS cT wd_688 wd_686 wd_687 wd_48) rfl rfl rfl (by decide +kernel) ⟨by decide, by decide⟩) [] [0, 1, 2, 3, 4, 5, 6, 7, 8, 9, 10, 11, 12, 13] [0, 1, 2, 3, 4, 5, 6, 7, 8, 9, 10, 11, 12, 13] rfl (by decide) rfl (by decide) (by decide) (fun _ => rfl) (by decide) rfl (Nat.le_of_ble_eq_true rfl) ⟨by decide, by decide⟩ dX7_advances_118 (fun r u hr_7 => ?_)
                  subst hr_7
                  refine kw_if_eq_D (tgt := 128) C dX7_advances_121 (by decide) (fun c_121 => ?_) (fun c_121 => ?_)
                  ·
                    have hfg : ¬ (48 ≤ lt j ∧ lt j ≤ 57) := fun h => c_121 ((in_fig hl2 (by decide) (by decide)).mpr h)
                    refine kw_aload_n C 0 dX7_advances_128 rfl ?_
                    refine kw_get (v := .int (ltI lt n j)) (T := TX7) C 0 14 rfl rfl (by decide) (fun w h => mT (fwX7 w h)) rfl (mT wd_629) rfl dX7_advances_129 ?_
                    refine kw_top (show (ltI lt n j) = (nI (lt j)) from by exact ltI_lt hj) ?_
                    refine kw_bipush (v := nI 59) C dX7_advances_132 (by decide) ?_
                    refine kw_icmp_ne_N (tgt := 141) C (by omega) (by omega) dX7_advances_134 (by decide) (fun c_134 => ?_) (fun c_134 => ?_)
                    ·
                      refine kw_iconst (v := nI 4) C dX7_advances_141 (by decide) ?_
                      refine KW.loc (lv' := [(0, .ref (a 0))]) [0] rfl ?_
                      refine KW.ass (congrArg (fun zq => ([.int zq, .ref (a 0)] : List Value)) (show (nI 4) = (nI (tokN lt n j)) from by unfold tokN; first | (rw [if_pos (by omega)]; done) | (rw [if_neg (by omega), if_pos (by omega)]; done) | (rw [if_neg (by omega), if_neg (by omega), if_pos (by omega)]; done) | (rw [if_neg (by omega), if_neg (by omega), if_neg (by omega), if_pos (by omega)]; done) | (rw [if_neg (by omega), if_neg (by omega), if_neg (by omega), if_neg (by omega)]; done))) ?_
                      exact J142_5 ()
                    ·
                      refine kw_iconst (v := nI 3) C dX7_advances_137 (by decide) ?_
                      refine kw_goto (tgt := 142) C dX7_advances_138 (by decide) ?_
                      refine KW.loc (lv' := [(0, .ref (a 0))]) [0] rfl ?_
                      refine KW.ass (congrArg (fun zq => ([.int zq, .ref (a 0)] : List Value)) (show (nI 3) = (nI (tokN lt n j)) from by unfold tokN; first | (rw [if_pos (by omega)]; done) | (rw [if_neg (by omega), if_pos (by omega)]; done) | (rw [if_neg (by omega), if_neg (by omega), if_pos (by omega)]; done) | (rw [if_neg (by omega), if_neg (by omega), if_neg (by omega), if_pos (by omega)]; done) | (rw [if_neg (by omega), if_neg (by omega), if_neg (by omega), if_neg (by omega)]; done))) ?_
                      exact J142_5 ()
                  ·
                    have hfg := (in_fig hl2 (by decide) (by decide)).mp c_121
                    refine kw_iconst (v := nI 2) C dX7_advances_124 (by decide) ?_
                    refine kw_goto (tgt := 142) C dX7_advances_125 (by decide) ?_
                    refine KW.loc (lv' := [(0, .ref (a 0))]) [0] rfl ?_
                    refine KW.ass (congrArg (fun zq => ([.int zq, .ref (a 0)] : List Value)) (show (nI 2) = (nI (tokN lt n j)) from by unfold tokN; first | (rw [if_pos (by omega)]; done) | (rw [if_neg (by omega), if_pos (by omega)]; done) | (rw [if_neg (by omega), if_neg (by omega), if_pos (by omega)]; done) | (rw [if_neg (by omega), if_neg (by omega), if_neg (by omega), if_pos (by omega)]; done) | (rw [if_neg (by omega), if_neg (by omega), if_neg (by omega), if_neg (by omega)]; done))) ?_
                    exact J142_5 ()
                ·
                  refine kw_iconst (v := nI 1) C dX7_advances_106 (by decide) ?_
                  refine kw_goto (tgt := 142) C dX7_advances_107 (by decide) ?_
                  refine KW.loc (lv' := [(0, .ref (a 0))]) [0] rfl ?_
                  refine KW.ass (congrArg (fun zq => ([.int zq, .ref (a 0)] : List Value)) (show (nI 1) = (nI (tokN lt n j)) from by unfold tokN; first | (rw [if_pos (by omega)]; done) | (rw [if_neg (by omega), if_pos (by omega)]; done) | (rw [if_neg (by omega), if_neg (by omega), if_pos (by omega)]; done) | (rw [if_neg (by omega), if_neg (by omega), if_neg (by omega), if_pos (by omega)]; done) | (rw [if_neg (by omega), if_neg (by omega), if_neg (by omega), if_neg (by omega)]; done))) ?_
                  exact J142_5 ()
          ·
            have hj : ¬ j < n := fun h => c_72 ((ltI_pos hlt).mpr h)
            refine kw_iconst (v := nI 0) C dX7_advances_75 (by decide) ?_
            refine kw_goto (tgt := 142) C dX7_advances_76 (by decide) ?_
            refine KW.loc (lv' := [(0, .ref (a 0))]) [0] rfl ?_
            refine KW.ass (congrArg (fun zq => ([.int zq, .ref (a 0)] : List Value)) (show (nI 0) = (nI (tokN lt n j)) from by unfold tokN; first | (rw [if_pos (by omega)]; done) | (rw [if_neg (by omega), if_pos (by omega)]; done) | (rw [if_neg (by omega), if_neg (by omega), if_pos (by omega)]; done) | (rw [if_neg (by omega), if_neg (by omega), if_neg (by omega), if_pos (by omega)]; done) | (rw [if_neg (by omega), if_neg (by omega), if_neg (by omega), if_neg (by omega)]; done))) ?_
            exact J142_5 ()
        refine kw_if_ge (tgt := 62) C dX7_advances_55 (by decide) (fun c_55 => ?_) (fun c_55 => ?_)
        ·
          refine kw_iconst (v := nI 1) C dX7_advances_62 (by decide) ?_
          refine KW.loc (lv' := [(0, .ref (a 0))]) [0] rfl ?_
          refine KW.ass (congrArg (fun zq => ([.int zq, .int (nI j), .ref (a 0)] : List Value)) (show (nI 1) = (nI (if j < n then 1 else 0)) from by first | (rw [if_pos ((ltI_pos hlt).mp c_55)]; done) | (rw [if_neg (fun h => c_55 ((ltI_pos hlt).mpr h))]; done))) ?_
          exact J63_4 ()
        ·
          refine kw_iconst (v := nI 0) C dX7_advances_58 (by decide) ?_
          refine kw_goto (tgt := 63) C dX7_advances_59 (by decide) ?_
          refine KW.loc (lv' := [(0, .ref (a 0))]) [0] rfl ?_
          refine KW.ass (congrArg (fun zq => ([.int zq, .int (nI j), .ref (a 0)] : List Value)) (show (nI 0) = (nI (if j < n then 1 else 0)) from by first | (rw [if_pos ((ltI_pos hlt).mp c_55)]; done) | (rw [if_neg (fun h => c_55 ((ltI_pos hlt).mpr h))]; done))) ?_
          exact J63_4 ()
      ·
        refine kw_aload_n C 0 dX7_advances_13 rfl ?_
        refine kw_dup C dX7_advances_14 rfl ?_
        refine kw_get (v := .int (nI j)) (T := TX7) C 0 11 rfl rfl (by decide) (fun w h => mT (fwX7 w h)) rfl (mT wd_626) rfl dX7_advances_15 ?_
        refine kw_iconst (v := nI 1) C dX7_advances_18 (by decide) ?_
        refine kw_iadd C dX7_advances_19 (kw_top (nI_add _ _) ?_)
        refine kw_put (T := TX7) (ty := .int) C 0 11 (kMod y a th Sr dr pa um im ikp tx (nI n) sn sm (nI (j + 1)) pl tk vl fa pf odr gv mk bo bq) rfl rfl (by decide) (fun w h => mT (fwX7 w h)) tyX7 tyX7_ok nmX7 rfl (mT wd_626) rfl (by decide +kernel) rfl rfl (Nat.le_of_ble_eq_true rfl) dX7_advances_20 rfl ?_
        refine kw_goto (tgt := 0) C dX7_advances_23 (by decide) ?_
        refine KW.loc (lv' := [(0, .ref (a 0))]) [0] rfl ?_
        exact ih_0 (j + 1) (by first | assumption | omega | (simp; done)) (by have := (ltI_32 hlt).mp c_10; omega) (by have h := (ltI_32 hlt).mp c_10; exact (nx_b h.1 h.2).trans hjx) (by have := (ltI_32 hlt).mp c_10; omega)
  refine KW.loc (lv' := [(0, .ref (a 0))]) [0] rfl ?_
  exact L0_1 (n - i + 1) i (by first | assumption | omega | (simp; done)) (by first | assumption | omega | (simp; done)) (by rfl) (Nat.lt_succ_self _)

set_option maxHeartbeats 4000000 in
set_option maxRecDepth 100000 in
theorem c_X7_takes_adv (l : Launch) (G : va_G) (y : Nat → ClassId) (t : Nat) (a : Nat → Nat) (th : Int32) (Sr : Nat → Int32) (dr : Nat → Int32) (pa : Nat → Int32) (um : Int32) (im : Nat → Int32) (ikp : Nat → Int32) (tx : Nat → Int32) (sn : Nat → Int32) (sm : Int32) (pf : Nat → Int32) (odr : Nat → Int32) (gv : Nat → Int32) (mk : Nat → Int32) (bo : Nat → Int32) (bq : Nat → Int32) (n : Nat) (lt : Nat → Nat) (j : Nat) (hn : n ≤ 100) (htx : ∀ i, i < n → tx i = nI (lt i) ∧ lt i < 256) (hj : j < n) (sz : Nat) : Met l yX7_takes (Cond.code yX7_takes cX7_takes 3 (some .int) :: TG) ({ frames := 2, cells := 0, slots := 0, locals := 42 }) (va_Pc [.ref (a 0), .int (bI true)] (PR G y t (kMod y a th Sr dr pa um im ikp tx (nI n) sn sm (nI (atT n j)) (nI j) (nI (tokN lt n j)) (valI lt n j) (-9) pf odr gv mk bo bq) sz)) (va_Qi (fun (r : Int32) (u : Unit) => r = (valI lt n j)) (fun (u : Unit) t => PO G (va_A (kMod y a th Sr dr pa um im ikp tx (nI n) sn sm (nI (atT n j)) (nI j) (nI (tokN lt n j)) (valI lt n j) (-9) pf odr gv mk bo bq) sz) (kMod y a th Sr dr pa um im ikp tx (nI n) sn sm (nI (atT n (nx lt n (j + 1)))) (nI (nx lt n (j + 1))) (nI (tokN lt n (nx lt n (j + 1)))) (valI lt n (nx lt n (j + 1))) (-9) pf odr gv mk bo bq) t) (va_A (kMod y a th Sr dr pa um im ikp tx (nI n) sn sm (nI (atT n j)) (nI j) (nI (tokN lt n j)) (valI lt n j) (-9) pf odr gv mk bo bq) sz)) 0 0 (va_A (kMod y a th Sr dr pa um im ikp tx (nI n) sn sm (nI (atT n j)) (nI j) (nI (tokN lt n j)) (valI lt n j) (-9) pf odr gv mk bo bq) sz) := by
  refine kMet (cc := cX7_takes) (maxL := 3) (ret := some .int) (Qc := fun A => va_Qi (fun (r : Int32) (u : Unit) => r = (valI lt n j)) (fun (u : Unit) t => PO G A (kMod y a th Sr dr pa um im ikp tx (nI n) sn sm (nI (atT n (nx lt n (j + 1)))) (nI (nx lt n (j + 1))) (nI (tokN lt n (nx lt n (j + 1)))) (valI lt n (nx lt n (j + 1))) (-9) pf odr gv mk bo bq) t) A) (by decide) rfl (Nat.le_of_ble_eq_true rfl) (fun p e s m below meth c A hsz C hin => ?_)
  refine KW.loc (lv' := [(0, .ref (a 0)), (1, .int (bI true))]) [0, 1] rfl ?_
  refine kw_aload_n C 0 dX7_takes_0 rfl ?_
  refine kw_get (v := .int (valI lt n j)) (T := TX7) C 0 14 rfl rfl (by decide) (fun w h => mT (fwX7 w h)) rfl (mT wd_629) rfl dX7_takes_1 ?_
  refine kw_istore_n C [(2, .int (valI lt n j)), (0, .ref (a 0)), (1, .int (bI true))] dX7_takes_4 rfl (by decide) rfl ?_
  refine kw_aload_n C 1 dX7_takes_5 rfl ?_
  refine kV_i (As := []) (rest := []) (ws' := fun (u : Unit) => kMod y a th Sr dr pa um im ikp tx (nI n) sn sm (nI (atT n j)) (nI j) (nI (tokN lt n j)) (valI lt n j) (-9) pf odr gv mk bo bq) C (c_X7_isWell l G y t a th Sr dr pa um im ikp tx (nI n) sn sm (nI (atT n j)) (nI j) (nI (tokN lt n j)) (valI lt n j) (-9) pf odr gv mk bo bq) (cwV 0 C.2.2.2.2.1 (goodV cT wd_712 wd_709 wd_711 wd_16 wd_48) rfl rfl rfl (by decide +kernel) ⟨by decide, by decide⟩) [0, 1, 2, 3, 4, 5, 6, 7, 8, 9, 10, 11, 12, 13] [] [0, 1, 2, 3, 4, 5, 6, 7, 8, 9, 10, 11, 12, 13] rfl (by decide) rfl (by decide) (by decide) (fun _ => rfl) (by decide) 0 rfl rfl rfl (Nat.le_of_ble_eq_true rfl) ⟨by decide, by decide⟩ dX7_takes_6 (fun r u hr_1 => ?_)
  subst hr_1
  refine kw_if_eq_D (tgt := 31) C dX7_takes_9 (by decide) (fun c_9 => ?_) (fun c_9 => ?_)
  ·
    exact absurd rfl c_9
  ·
    refine kw_iload_n C 2 dX7_takes_12 rfl ?_
    refine kw_if_eq_B (tgt := 23) C dX7_takes_13 (by decide) (fun c_13 => ?_) (fun c_13 => ?_)
    ·
      cases c_13
    ·
      refine kw_aload_n C 1 dX7_takes_16 rfl ?_
      refine kV_v (As := []) (rest := []) (ws' := fun (u : Unit) => kMod y a th Sr dr pa um im ikp tx (nI n) sn sm (nI (atT n (nx lt n (atT n j)))) (nI (nx lt n (atT n j))) (nI (tokN lt n (nx lt n (atT n j)))) (valI lt n (nx lt n (atT n j))) (-9) pf odr gv mk bo bq) C (c_X7_advances l G y t a th Sr dr pa um im ikp tx sn sm (nI j) (nI (tokN lt n j)) (valI lt n j) (-9) pf odr gv mk bo bq n lt (atT n j) (by first | assumption | omega | decide) (by first | assumption | omega | decide) (by unfold atT; rw [if_pos hj]; omega)) (cwV 0 C.2.2.2.2.1 (goodV cT wd_704 wd_701 wd_703 wd_14 wd_48) rfl rfl rfl (by decide +kernel) ⟨by decide, by decide⟩) [0, 1, 2, 3, 4, 5, 6, 7, 8, 9, 10, 11, 12, 13] [] [0, 1, 2, 3, 4, 5, 6, 7, 8, 9, 10, 11, 12, 13] rfl (by decide) rfl (by decide) (by decide) (fun _ => rfl) (by decide) 0 rfl rfl rfl (Nat.le_of_ble_eq_true rfl) ⟨by decide, by decide⟩ dX7_takes_17 (fun u hr_2 => ?_)
      refine kw_goto (tgt := 31) C dX7_takes_20 (by decide) ?_
      refine kw_iload_n C 0 dX7_takes_31 rfl ?_
      rw [show (atT n j) = (j + 1) from by unfold atT; rw [if_pos hj]]
      refine kR_i C () dX7_takes_32 ?_ rfl
      first | rfl | trivial | (simp; done) | omega

set_option maxHeartbeats 4000000 in
set_option maxRecDepth 100000 in
theorem c_X7_takes_flt (l : Launch) (G : va_G) (y : Nat → ClassId) (t : Nat) (a : Nat → Nat) (th : Int32) (Sr : Nat → Int32) (dr : Nat → Int32) (pa : Nat → Int32) (um : Int32) (im : Nat → Int32) (ikp : Nat → Int32) (tx : Nat → Int32) (ty : Int32) (sn : Nat → Int32) (sm : Int32) (at1 : Int32) (tk : Int32) (vl : Int32) (pf : Nat → Int32) (odr : Nat → Int32) (gv : Nat → Int32) (mk : Nat → Int32) (bo : Nat → Int32) (bq : Nat → Int32) (j : Nat) (sz : Nat) : Met l yX7_takes (Cond.code yX7_takes cX7_takes 3 (some .int) :: TG) ({ frames := 1, cells := 0, slots := 0, locals := 20 }) (va_Pc [.ref (a 0), .int (bI false)] (PR G y t (kMod y a th Sr dr pa um im ikp tx ty sn sm at1 (nI j) tk vl (-9) pf odr gv mk bo bq) sz)) (va_Qi (fun (r : Int32) (u : Unit) => r = vl) (fun (u : Unit) t => PO G (va_A (kMod y a th Sr dr pa um im ikp tx ty sn sm at1 (nI j) tk vl (-9) pf odr gv mk bo bq) sz) (kMod y a th Sr dr pa um im ikp tx ty sn sm at1 (nI j) tk vl (nI j) pf odr gv mk bo bq) t) (va_A (kMod y a th Sr dr pa um im ikp tx ty sn sm at1 (nI j) tk vl (-9) pf odr gv mk bo bq) sz)) 0 0 (va_A (kMod y a th Sr dr pa um im ikp tx ty sn sm at1 (nI j) tk vl (-9) pf odr gv mk bo bq) sz) := by
  refine kMet (cc := cX7_takes) (maxL := 3) (ret := some .int) (Qc := fun A => va_Qi (fun (r : Int32) (u : Unit) => r = vl) (fun (u : Unit) t => PO G A (kMod y a th Sr dr pa um im ikp tx ty sn sm at1 (nI j) tk vl (nI j) pf odr gv mk bo bq) t) A) (by decide) rfl (Nat.le_of_ble_eq_true rfl) (fun p e s m below meth c A hsz C hin => ?_)
  refine KW.loc (lv' := [(0, .ref (a 0)), (1, .int (bI false))]) [0, 1] rfl ?_
  refine kw_aload_n C 0 dX7_takes_0 rfl ?_
  refine kw_get (v := .int vl) (T := TX7) C 0 14 rfl rfl (by decide) (fun w h => mT (fwX7 w h)) rfl (mT wd_629) rfl dX7_takes_1 ?_
  refine kw_istore_n C [(2, .int vl), (0, .ref (a 0)), (1, .int (bI false))] dX7_takes_4 rfl (by decide) rfl ?_
  refine kw_aload_n C 1 dX7_takes_5 rfl ?_
  refine kV_i (As := []) (rest := []) (ws' := fun (u : Unit) => kMod y a th Sr dr pa um im ikp tx ty sn sm at1 (nI j) tk vl (-9) pf odr gv mk bo bq) C (c_X7_isWell l G y t a th Sr dr pa um im ikp tx ty sn sm at1 (nI j) tk vl (-9) pf odr gv mk bo bq) (cwV 0 C.2.2.2.2.1 (goodV cT wd_712 wd_709 wd_711 wd_16 wd_48) rfl rfl rfl (by decide +kernel) ⟨by decide, by decide⟩) [0, 1, 2, 3, 4, 5, 6, 7, 8, 9, 10, 11, 12, 13] [] [0, 1, 2, 3, 4, 5, 6, 7, 8, 9, 10, 11, 12, 13] rfl (by decide) rfl (by decide) (by decide) (fun _ => rfl) (by decide) 0 rfl rfl rfl (Nat.le_of_ble_eq_true rfl) ⟨by decide, by decide⟩ dX7_takes_6 (fun r u hr_1 => ?_)
  subst hr_1
  refine kw_if_eq_D (tgt := 31) C dX7_takes_9 (by decide) (fun c_9 => ?_) (fun c_9 => ?_)
  ·
    exact absurd rfl c_9
  ·
    refine kw_iload_n C 2 dX7_takes_12 rfl ?_
    refine kw_if_eq_B (tgt := 23) C dX7_takes_13 (by decide) (fun c_13 => ?_) (fun c_13 => ?_)
    ·
      refine kw_aload_n C 1 dX7_takes_23 rfl ?_
      refine kw_aload_n C 1 dX7_takes_24 rfl ?_
      refine kw_get (v := .int (nI j)) (T := TX7) C 0 12 rfl rfl (by decide) (fun w h => mT (fwX7 w h)) rfl (mT wd_627) rfl dX7_takes_25 ?_
      refine kw_put (T := TX7) (ty := .int) C 0 15 (kMod y a th Sr dr pa um im ikp tx ty sn sm at1 (nI j) tk vl (nI j) pf odr gv mk bo bq) rfl rfl (by decide) (fun w h => mT (fwX7 w h)) tyX7 tyX7_ok nmX7 rfl (mT wd_630) rfl (by decide +kernel) rfl rfl (Nat.le_of_ble_eq_true rfl) dX7_takes_28 rfl ?_
      refine kw_iload_n C 0 dX7_takes_31 rfl ?_
      refine kR_i C () dX7_takes_32 ?_ rfl
      first | rfl | trivial | (simp; done) | omega
    ·
      cases c_13

set_option maxHeartbeats 4000000 in
set_option maxRecDepth 100000 in
theorem c_X7_takes_bad (l : Launch) (G : va_G) (y : Nat → ClassId) (t : Nat) (a : Nat → Nat) (th : Int32) (Sr : Nat → Int32) (dr : Nat → Int32) (pa : Nat → Int32) (um : Int32) (im : Nat → Int32) (ikp : Nat → Int32) (tx : Nat → Int32) (ty : Int32) (sn : Nat → Int32) (sm : Int32) (at1 : Int32) (pl : Int32) (tk : Int32) (vl : Int32) (pf : Nat → Int32) (odr : Nat → Int32) (gv : Nat → Int32) (mk : Nat → Int32) (bo : Nat → Int32) (bq : Nat → Int32) (f0 : Nat) (b : Bool) (hf0 : f0 ≤ 100) (sz : Nat) : Met l yX7_takes (Cond.code yX7_takes cX7_takes 3 (some .int) :: TG) ({ frames := 1, cells := 0, slots := 0, locals := 20 }) (va_Pc [.ref (a 0), .int (bI b)] (PR G y t (kMod y a th Sr dr pa um im ikp tx ty sn sm at1 pl tk vl (nI f0) pf odr gv mk bo bq) sz)) (va_Qi (fun (r : Int32) (u : Unit) => r = vl) (fun (u : Unit) t => PO G (va_A (kMod y a th Sr dr pa um im ikp tx ty sn sm at1 pl tk vl (nI f0) pf odr gv mk bo bq) sz) (kMod y a th Sr dr pa um im ikp tx ty sn sm at1 pl tk vl (nI f0) pf odr gv mk bo bq) t) (va_A (kMod y a th Sr dr pa um im ikp tx ty sn sm at1 pl tk vl (nI f0) pf odr gv mk bo bq) sz)) 0 0 (va_A (kMod y a th Sr dr pa um im ikp tx ty sn sm at1 pl tk vl (nI f0) pf odr gv mk bo bq) sz) := by
  refine kMet (cc := cX7_takes) (maxL := 3) (ret := some .int) (Qc := fun A => va_Qi (fun (r : Int32) (u : Unit) => r = vl) (fun (u : Unit) t => PO G A (kMod y a th Sr dr pa um im ikp tx ty sn sm at1 pl tk vl (nI f0) pf odr gv mk bo bq) t) A) (by decide) rfl (Nat.le_of_ble_eq_true rfl) (fun p e s m below meth c A hsz C hin => ?_)
  refine KW.loc (lv' := [(0, .ref (a 0)), (1, .int (bI b))]) [0, 1] rfl ?_
  refine kw_aload_n C 0 dX7_takes_0 rfl ?_
  refine kw_get (v := .int vl) (T := TX7) C 0 14 rfl rfl (by decide) (fun w h => mT (fwX7 w h)) rfl (mT wd_629) rfl dX7_takes_1 ?_
  refine kw_istore_n C [(2, .int vl), (0, .ref (a 0)), (1, .int (bI b))] dX7_takes_4 rfl (by decide) rfl ?_
  refine kw_aload_n C 1 dX7_takes_5 rfl ?_
  refine kV_i (As := []) (rest := []) (ws' := fun (u : Unit) => kMod y a th Sr dr pa um im ikp tx ty sn sm at1 pl tk vl (nI f0) pf odr gv mk bo bq) C (c_X7_isWell l G y t a th Sr dr pa um im ikp tx ty sn sm at1 pl tk vl (nI f0) pf odr gv mk bo bq) (cwV 0 C.2.2.2.2.1 (goodV cT wd_712 wd_709 wd_711 wd_16 wd_48) rfl rfl rfl (by decide +kernel) ⟨by decide, by decide⟩) [0, 1, 2, 3, 4, 5, 6, 7, 8, 9, 10, 11, 12, 13] [] [0, 1, 2, 3, 4, 5, 6, 7, 8, 9, 10, 11, 12, 13] rfl (by decide) rfl (by decide) (by decide) (fun _ => rfl) (by decide) 0 rfl rfl rfl (Nat.le_of_ble_eq_true rfl) ⟨by decide, by decide⟩ dX7_takes_6 (fun r u hr_1 => ?_)
  subst hr_1
  refine kw_if_eq_D (tgt := 31) C dX7_takes_9 (by decide) (fun c_9 => ?_) (fun c_9 => ?_)
  ·
    refine kw_iload_n C 0 dX7_takes_31 rfl ?_
    refine kR_i C () dX7_takes_32 ?_ rfl
    first | rfl | trivial | (simp; done) | omega
  ·
    exact absurd c_9 (nI_ne9 (by omega))
