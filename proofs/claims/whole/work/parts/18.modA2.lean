set_option maxHeartbeats 4000000 in
set_option maxRecDepth 100000 in
theorem c_X7_asOrdered (l : Launch) (G : va_G) (y : Nat → ClassId) (t : Nat) (a : Nat → Nat) (th : Int32) (Sr : Nat → Int32) (dr : Nat → Int32) (pa : Nat → Int32) (um : Int32) (im : Nat → Int32) (ikp : Nat → Int32) (tx : Nat → Int32) (ty : Int32) (sn : Nat → Int32) (sm : Int32) (at1 : Int32) (pl : Int32) (tk : Int32) (vl : Int32) (fa : Int32) (pf : Nat → Int32) (odr : Nat → Int32) (gv : Nat → Int32) (mk : Nat → Int32) (bo : Nat → Int32) (bq : Nat → Int32) (W : Nat) (H : Nat) (N : Nat) (pcl : Nat → Nat) (ik : Nat → Nat) (o : Nat → Nat) (bk : Nat → Nat) (kk : Nat → Nat) (hR : RowOk Sr W H N pcl ik o bk kk) (sz : Nat) : Met l yX7_asOrdered (Cond.code yX7_asOrdered cX7_asOrdered 2 (none) :: TG) ({ frames := 0, cells := 0, slots := 0, locals := 0 }) (va_Pc [.ref (a 0)] (PR G y t (kMod y a th Sr dr pa um im ikp tx ty sn sm at1 pl tk vl fa pf odr gv mk bo bq) sz)) (va_Qv (fun (u : Nat → Int32) => ∀ q, q < 6 → u q = Sr (45 + q)) (fun (u : Nat → Int32) t => PO G (va_A (kMod y a th Sr dr pa um im ikp tx ty sn sm at1 pl tk vl fa pf odr gv mk bo bq) sz) (kMod y a th Sr dr pa um im ikp tx ty sn sm at1 pl tk vl fa pf u gv mk bo bq) t) (va_A (kMod y a th Sr dr pa um im ikp tx ty sn sm at1 pl tk vl fa pf odr gv mk bo bq) sz)) 0 0 (va_A (kMod y a th Sr dr pa um im ikp tx ty sn sm at1 pl tk vl fa pf odr gv mk bo bq) sz) := by
  refine kMet (cc := cX7_asOrdered) (maxL := 2) (ret := none) (Qc := fun A => va_Qv (fun (u : Nat → Int32) => ∀ q, q < 6 → u q = Sr (45 + q)) (fun (u : Nat → Int32) t => PO G A (kMod y a th Sr dr pa um im ikp tx ty sn sm at1 pl tk vl fa pf u gv mk bo bq) t) A) (by decide) rfl (Nat.le_of_ble_eq_true rfl) (fun p e s m below meth c A hsz C hin => ?_)
  obtain ⟨hS0, hS1, hS2, hW, hH, hN, hpic, hink, hord, hblk, hdx⟩ := id hR
  refine KW.loc (lv' := [(0, .ref (a 0))]) [0] rfl ?_
  refine kw_iconst (v := nI 0) C dX7_asOrdered_0 (by decide) ?_
  refine kw_istore_n C [(1, .int (nI 0)), (0, .ref (a 0))] dX7_asOrdered_1 rfl (by decide) rfl ?_
  have L2_1 : ∀ (nn : Nat) (i : Nat) (f0 : Nat → Int32) (hi : i ≤ 6) (hf0 : ∀ j, j < i → f0 j = Sr (45 + j)) (hms : 6 - i < nn), KW p l e ({ frames := 0, cells := 0, slots := 0, locals := 0 }) s m ([.ref (a 0)] : List Value).toArray below meth c 0 0 (MQ below (va_Qv (fun (u : Nat → Int32) => ∀ q, q < 6 → u q = Sr (45 + q)) (fun (u : Nat → Int32) t => PO G A (kMod y a th Sr dr pa um im ikp tx ty sn sm at1 pl tk vl fa pf u gv mk bo bq) t) A) ([.ref (a 0)] : List Value).toArray s 0 0 A) G A 2 (kMod y a th Sr dr pa um im ikp tx ty sn sm at1 pl tk vl fa pf f0 gv mk bo bq) [(1, .int (nI i)), (0, .ref (a 0))] 2 [] := by
    intro nn
    induction nn with
    | zero => intro i f0 hi hf0 hms; exact absurd hms (Nat.not_lt_zero _)
    | succ nn ih_2 =>
      intro i f0 hi hf0 hms
      refine kw_iload_n C 0 dX7_asOrdered_2 rfl ?_
      refine kw_bipush (v := nI 6) C dX7_asOrdered_3 (by decide) ?_
      refine kw_icmp_ge_N (tgt := 29) C (by omega) (by omega) dX7_asOrdered_5 (by decide) (fun c_5 => ?_) (fun c_5 => ?_)
      ·
        refine kR_v C (f0) dX7_asOrdered_29 ?_ rfl
        exact fun q hq => hf0 q (by omega)
      ·
        refine kw_aload_n C 1 dX7_asOrdered_8 rfl ?_
        refine kw_get (v := .ref (a 9)) (T := TX7) C 0 17 rfl rfl (by decide) (fun w h => mT (fwX7 w h)) rfl (mT wd_632) rfl dX7_asOrdered_9 ?_
        refine kw_iload_n C 0 dX7_asOrdered_12 rfl ?_
        refine kw_aload_n C 1 dX7_asOrdered_13 rfl ?_
        refine kw_get (v := .ref (a 1)) (T := TX7) C 0 1 rfl rfl (by decide) (fun w h => mT (fwX7 w h)) rfl (mT wd_616) rfl dX7_asOrdered_14 ?_
        refine kw_bipush (v := nI 45) C dX7_asOrdered_17 (by decide) ?_
        refine kw_iload_n C 0 dX7_asOrdered_19 rfl ?_
        refine kw_iadd C dX7_asOrdered_20 (kw_top (nI_add _ _) ?_)
        refine kw_iald (f := Sr) C 1 rfl (by omega) (by decide) dX7_asOrdered_21 ?_
        refine kw_iast C 9 (kMod y a th Sr dr pa um im ikp tx ty sn sm at1 pl tk vl fa pf (upd f0 i (Sr (45 + i))) gv mk bo bq) rfl (by omega) (by decide) dX7_asOrdered_22 rfl ?_
        refine kw_iinc (v := nI (i + 1)) C [(1, .int (nI (i + 1))), (0, .ref (a 0))] 0 dX7_asOrdered_23 rfl (nI_1 _) (by decide) rfl ?_
        refine kw_goto (tgt := 2) C dX7_asOrdered_26 (by decide) ?_
        refine KW.loc (lv' := [(1, .int (nI (i + 1))), (0, .ref (a 0))]) [0, 1] rfl ?_
        exact ih_2 (i + 1) (upd f0 i (Sr (45 + i))) (by first | assumption | omega | (simp; done)) (by intro j hj; rcases Nat.lt_or_ge j i with h | h; rw [pk_un (by omega)]; exact hf0 j h; rw [show j = i from by omega]; exact pk_us) (by omega)
  refine KW.loc (lv' := [(1, .int (nI 0)), (0, .ref (a 0))]) [0, 1] rfl ?_
  exact L2_1 (6 - 0 + 1) 0 odr (by first | assumption | omega | (simp; done)) (by intro j hj; exact absurd hj (Nat.not_lt_zero _)) (Nat.lt_succ_self _)
