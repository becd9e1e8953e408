set_option maxHeartbeats 4000000 in
set_option maxRecDepth 100000 in
theorem c_X7_leastSet (l : Launch) (G : va_G) (y : Nat → ClassId) (t : Nat) (a : Nat → Nat) (th : Int32) (Sr : Nat → Int32) (dr : Nat → Int32) (pa : Nat → Int32) (um : Int32) (im : Nat → Int32) (ikp : Nat → Int32) (tx : Nat → Int32) (ty : Int32) (sn : Nat → Int32) (sm : Int32) (at1 : Int32) (pl : Int32) (tk : Int32) (vl : Int32) (fa : Int32) (pf : Nat → Int32) (odr : Nat → Int32) (gv : Nat → Int32) (mk : Nat → Int32) (bo : Nat → Int32) (bq : Nat → Int32) (oo : Nat → Nat) (W : Nat) (H : Nat) (N : Nat) (pcl : Nat → Nat) (ik : Nat → Nat) (o : Nat → Nat) (bk : Nat → Nat) (kk : Nat → Nat) (hR : RowOk Sr W H N pcl ik o bk kk) (hoo : ∀ q, q < N → odr q = nI (oo q) ∧ oo q < N) (sz : Nat) : Met l yX7_leastSet (Cond.code yX7_leastSet cX7_leastSet 5 (some .int) :: TG) ({ frames := 2, cells := 0, slots := 0, locals := 44 }) (va_Pc [.ref (a 0)] (PR G y t (kMod y a th Sr dr pa um im ikp tx ty sn sm at1 pl tk vl fa pf odr gv mk bo bq) sz)) (va_Qi (fun (r : Int32) (u : (Nat → Int32) × (Nat → Int32)) => r = (lsM (wtY pcl W H) (fun z => mkP (fun z => gvF oo ik z N) z (z + 1)) (2 ^ N)) ∧ (∀ set, set < 2 ^ N → u.1 set = nI (gvF oo ik set N)) ∧ (∀ set, set < 2 ^ N → u.2 set = nI (mkP (fun z => gvF oo ik z N) set (set + 1)))) (fun (u : (Nat → Int32) × (Nat → Int32)) t => PO G (va_A (kMod y a th Sr dr pa um im ikp tx ty sn sm at1 pl tk vl fa pf odr gv mk bo bq) sz) (kMod y a th Sr dr pa um im ikp tx ty sn sm at1 pl tk vl fa pf odr u.1 u.2 bo bq) t) (va_A (kMod y a th Sr dr pa um im ikp tx ty sn sm at1 pl tk vl fa pf odr gv mk bo bq) sz)) 0 0 (va_A (kMod y a th Sr dr pa um im ikp tx ty sn sm at1 pl tk vl fa pf odr gv mk bo bq) sz) := by
  refine kMet (cc := cX7_leastSet) (maxL := 5) (ret := some .int) (Qc := fun A => va_Qi (fun (r : Int32) (u : (Nat → Int32) × (Nat → Int32)) => r = (lsM (wtY pcl W H) (fun z => mkP (fun z => gvF oo ik z N) z (z + 1)) (2 ^ N)) ∧ (∀ set, set < 2 ^ N → u.1 set = nI (gvF oo ik set N)) ∧ (∀ set, set < 2 ^ N → u.2 set = nI (mkP (fun z => gvF oo ik z N) set (set + 1)))) (fun (u : (Nat → Int32) × (Nat → Int32)) t => PO G A (kMod y a th Sr dr pa um im ikp tx ty sn sm at1 pl tk vl fa pf odr u.1 u.2 bo bq) t) A) (by decide) rfl (Nat.le_of_ble_eq_true rfl) (fun p e s m below meth c A hsz C hin => ?_)
  obtain ⟨hS0, hS1, hS2, hW, hH, hN, hpic, hink, hord, hblk, hdx⟩ := id hR
  have h64 := pow6 hN
  refine KW.loc (lv' := [(0, .ref (a 0))]) [0] rfl ?_
  refine kw_aload_n C 0 dX7_leastSet_0 rfl ?_
  refine kV_v (As := []) (rest := []) (ws' := fun (u : (Nat → Int32) × (Nat → Int32)) => kMod y a th Sr dr pa um im ikp tx ty sn sm at1 pl tk vl fa pf odr u.1 u.2 bo bq) C (c_X7_mixes l G y t a th Sr dr pa um im ikp tx ty sn sm at1 pl tk vl fa pf odr gv mk bo bq oo W H N pcl ik o bk kk (by first | assumption | omega | decide) (by first | assumption | omega | decide)) (cwV 0 C.2.2.2.2.1 (goodV cT wd_744 wd_741 wd_743 wd_23 wd_48) rfl rfl rfl (by decide +kernel) ⟨by decide, by decide⟩) [0, 1, 2, 3, 4, 5, 6, 7, 8, 9, 10, 11, 12, 13] [] [0, 1, 2, 3, 4, 5, 6, 7, 8, 9, 10, 11, 12, 13] rfl (by decide) rfl (by decide) (by decide) (fun _ => rfl) (by decide) 0 rfl rfl rfl (Nat.le_of_ble_eq_true rfl) ⟨by decide, by decide⟩ dX7_leastSet_1 (fun u hr_1 => ?_)
  obtain ⟨gv_b, mk_b⟩ := u
  try dsimp only at hr_1
  have hmx := hr_1
  refine kw_aload_n C 0 dX7_leastSet_4 rfl ?_
  refine kV_i (As := []) (rest := []) (ws' := fun (u : Unit) => kMod y a th Sr dr pa um im ikp tx ty sn sm at1 pl tk vl fa pf odr gv_b mk_b bo bq) C (c_X7_wanted l G y t a th Sr dr pa um im ikp tx ty sn sm at1 pl tk vl fa pf odr gv_b mk_b bo bq W H N pcl ik o bk kk (by first | assumption | omega | decide)) (cwV 0 C.2.2.2.2.1 (goodV cT wd_751 wd_748 wd_750 wd_24 wd_48) rfl rfl rfl (by decide +kernel) ⟨by decide, by decide⟩) [0, 1, 2, 3, 4, 5, 6, 7, 8, 9, 10, 11, 12, 13] [] [0, 1, 2, 3, 4, 5, 6, 7, 8, 9, 10, 11, 12, 13] rfl (by decide) rfl (by decide) (by decide) (fun _ => rfl) (by decide) 0 rfl rfl rfl (Nat.le_of_ble_eq_true rfl) ⟨by decide, by decide⟩ dX7_leastSet_5 (fun r u hr_2 => ?_)
  subst hr_2
  refine kw_istore_n C [(1, .int (nI (wtY pcl W H))), (0, .ref (a 0))] dX7_leastSet_8 rfl (by decide) rfl ?_
  refine kw_bipush (v := (-9)) C dX7_leastSet_9 (by decide) ?_
  refine kw_istore_n C [(2, .int (-9)), (1, .int (nI (wtY pcl W H))), (0, .ref (a 0))] dX7_leastSet_11 rfl (by decide) rfl ?_
  refine kw_iconst (v := nI 0) C dX7_leastSet_12 (by decide) ?_
  refine kw_istore_n C [(3, .int (nI 0)), (2, .int (-9)), (1, .int (nI (wtY pcl W H))), (0, .ref (a 0))] dX7_leastSet_13 rfl (by decide) rfl ?_
  have L14_3 : ∀ (nn : Nat) (i : Nat) (hi : i ≤ 2 ^ N) (hms : 2 ^ N - i < nn), KW p l e ({ frames := 2, cells := 0, slots := 0, locals := 44 }) s m ([.ref (a 0)] : List Value).toArray below meth c 0 0 (MQ below (va_Qi (fun (r : Int32) (u : (Nat → Int32) × (Nat → Int32)) => r = (lsM (wtY pcl W H) (fun z => mkP (fun z => gvF oo ik z N) z (z + 1)) (2 ^ N)) ∧ (∀ set, set < 2 ^ N → u.1 set = nI (gvF oo ik set N)) ∧ (∀ set, set < 2 ^ N → u.2 set = nI (mkP (fun z => gvF oo ik z N) set (set + 1)))) (fun (u : (Nat → Int32) × (Nat → Int32)) t => PO G A (kMod y a th Sr dr pa um im ikp tx ty sn sm at1 pl tk vl fa pf odr u.1 u.2 bo bq) t) A) ([.ref (a 0)] : List Value).toArray s 0 0 A) G A 5 (kMod y a th Sr dr pa um im ikp tx ty sn sm at1 pl tk vl fa pf odr gv_b mk_b bo bq) [(3, .int (nI i)), (2, .int (lsM (wtY pcl W H) (fun z => mkP (fun z => gvF oo ik z N) z (z + 1)) i)), (1, .int (nI (wtY pcl W H))), (0, .ref (a 0))] 14 [] := by
    intro nn
    induction nn with
    | zero => intro i hi hms; exact absurd hms (Nat.not_lt_zero _)
    | succ nn ih_14 =>
      intro i hi hms
      refine kw_iload_n C 0 dX7_leastSet_14 rfl ?_
      refine kw_iconst (v := nI 1) C dX7_leastSet_15 (by decide) ?_
      refine kw_aload_n C 3 dX7_leastSet_16 rfl ?_
      refine kw_get (v := .ref (a 1)) (T := TX7) C 0 1 rfl rfl (by decide) (fun w h => mT (fwX7 w h)) rfl (mT wd_616) rfl dX7_leastSet_17 ?_
      refine kw_iconst (v := nI 2) C dX7_leastSet_20 (by decide) ?_
      refine kw_iald (f := Sr) C 1 rfl (by omega) (by decide) dX7_leastSet_21 ?_
      refine kw_top (show (Sr 2) = (nI N) from by exact hS2) ?_
      refine kw_ishl C dX7_leastSet_22 (kw_top (n_shl1 (by omega)) ?_)
      refine kw_icmp_ge_N (tgt := 80) C (by omega) (by omega) dX7_leastSet_23 (by decide) (fun c_23 => ?_) (fun c_23 => ?_)
      ·
        refine kw_iload_n C 1 dX7_leastSet_80 rfl ?_
        refine kR_i C (gv_b, mk_b) dX7_leastSet_81 ?_ rfl
        rw [show i = 2 ^ N from by omega]; exact ⟨rfl, hmx⟩
      ·
        refine kw_iload_n C 1 dX7_leastSet_26 rfl ?_
        refine kw_bipush (v := (-9)) C dX7_leastSet_27 (by decide) ?_
        have J48_4 : ∀ (_ : Unit), KW p l e ({ frames := 2, cells := 0, slots := 0, locals := 44 }) s m ([.ref (a 0)] : List Value).toArray below meth c 0 0 (MQ below (va_Qi (fun (r : Int32) (u : (Nat → Int32) × (Nat → Int32)) => r = (lsM (wtY pcl W H) (fun z => mkP (fun z => gvF oo ik z N) z (z + 1)) (2 ^ N)) ∧ (∀ set, set < 2 ^ N → u.1 set = nI (gvF oo ik set N)) ∧ (∀ set, set < 2 ^ N → u.2 set = nI (mkP (fun z => gvF oo ik z N) set (set + 1)))) (fun (u : (Nat → Int32) × (Nat → Int32)) t => PO G A (kMod y a th Sr dr pa um im ikp tx ty sn sm at1 pl tk vl fa pf odr u.1 u.2 bo bq) t) A) ([.ref (a 0)] : List Value).toArray s 0 0 A) G A 5 (kMod y a th Sr dr pa um im ikp tx ty sn sm at1 pl tk vl fa pf odr gv_b mk_b bo bq) [(3, .int (nI i)), (2, .int (lsM (wtY pcl W H) (fun z => mkP (fun z => gvF oo ik z N) z (z + 1)) i)), (1, .int (nI (wtY pcl W H))), (0, .ref (a 0))] 48 [.int (bI (decide (lsM (wtY pcl W H) (fun z => mkP (fun z => gvF oo ik z N) z (z + 1)) i = -9 ∨ onI (nI i) 8 < onI (lsM (wtY pcl W H) (fun z => mkP (fun z => gvF oo ik z N) z (z + 1)) i) 8)))] := by
          intro _
          refine kw_istore C [(4, .int (bI (decide (lsM (wtY pcl W H) (fun z => mkP (fun z => gvF oo ik z N) z (z + 1)) i = -9 ∨ onI (nI i) 8 < onI (lsM (wtY pcl W H) (fun z => mkP (fun z => gvF oo ik z N) z (z + 1)) i) 8)))), (3, .int (nI i)), (2, .int (lsM (wtY pcl W H) (fun z => mkP (fun z => gvF oo ik z N) z (z + 1)) i)), (1, .int (nI (wtY pcl W H))), (0, .ref (a 0))] dX7_leastSet_48 (by decide) rfl ?_
          refine kw_iload C 0 dX7_leastSet_50 rfl ?_
          refine kw_if_eq_D (tgt := 72) C dX7_leastSet_52 (by decide) (fun c_52 => ?_) (fun c_52 => ?_)
          ·
            refine kw_iload_n C 2 dX7_leastSet_72 rfl ?_
            refine kw_istore_n C [(2, .int (lsM (wtY pcl W H) (fun z => mkP (fun z => gvF oo ik z N) z (z + 1)) i)), (4, .int (bI (decide (lsM (wtY pcl W H) (fun z => mkP (fun z => gvF oo ik z N) z (z + 1)) i = -9 ∨ onI (nI i) 8 < onI (lsM (wtY pcl W H) (fun z => mkP (fun z => gvF oo ik z N) z (z + 1)) i) 8)))), (3, .int (nI i)), (1, .int (nI (wtY pcl W H))), (0, .ref (a 0))] dX7_leastSet_73 rfl (by decide) rfl ?_
            refine kw_iinc (v := nI (i + 1)) C [(3, .int (nI (i + 1))), (2, .int (lsM (wtY pcl W H) (fun z => mkP (fun z => gvF oo ik z N) z (z + 1)) i)), (4, .int (bI (decide (lsM (wtY pcl W H) (fun z => mkP (fun z => gvF oo ik z N) z (z + 1)) i = -9 ∨ onI (nI i) 8 < onI (lsM (wtY pcl W H) (fun z => mkP (fun z => gvF oo ik z N) z (z + 1)) i) 8)))), (1, .int (nI (wtY pcl W H))), (0, .ref (a 0))] 2 dX7_leastSet_74 rfl (nI_1 _) (by decide) rfl ?_
            refine kw_goto (tgt := 14) C dX7_leastSet_77 (by decide) ?_
            refine KW.loc (lv' := [(3, .int (nI (i + 1))), (2, .int (lsM (wtY pcl W H) (fun z => mkP (fun z => gvF oo ik z N) z (z + 1)) i)), (1, .int (nI (wtY pcl W H))), (0, .ref (a 0))]) [0, 1, 3, 4] rfl ?_
            refine KW.asl (congrArg (fun zz => ([(3, .int (nI (i + 1))), (2, .int zz), (1, .int (nI (wtY pcl W H))), (0, .ref (a 0))] : List (Nat × Value))) (show (lsM (wtY pcl W H) (fun z => mkP (fun z => gvF oo ik z N) z (z + 1)) i) = (lsM (wtY pcl W H) (fun z => mkP (fun z => gvF oo ik z N) z (z + 1)) (i + 1)) from by simp only [lsM]; split <;> rename_i hh <;> first | rfl | exact absurd hh.1 c_52 | exact absurd hh.2 c_65 | exact absurd (And.intro c_52 c_65) hh)) ?_
            exact ih_14 (i + 1) (by first | assumption | omega | (simp; done)) (by omega)
          ·
            refine kw_iload_n C 3 dX7_leastSet_55 rfl ?_
            refine kw_aload_n C 4 dX7_leastSet_56 rfl ?_
            refine kw_get (v := .ref (a 11)) (T := TX7) C 0 19 rfl rfl (by decide) (fun w h => mT (fwX7 w h)) rfl (mT wd_634) rfl dX7_leastSet_57 ?_
            refine kw_iload_n C 1 dX7_leastSet_60 rfl ?_
            refine kw_iald (f := mk_b) C 11 rfl (by omega) (by decide) dX7_leastSet_61 ?_
            refine kw_top (show (mk_b i) = (nI (mkP (fun z => gvF oo ik z N) (i) (i + 1))) from by exact hmx.2 _ c_23) ?_
            refine kw_iconst (v := (-1)) C dX7_leastSet_62 (by decide) ?_
            refine kw_ixor C dX7_leastSet_63 ?_
            refine kw_iand C dX7_leastSet_64 ?_
            refine kw_if_ne (tgt := 72) C dX7_leastSet_65 (by decide) (fun c_65 => ?_) (fun c_65 => ?_)
            ·
              refine kw_iload_n C 2 dX7_leastSet_72 rfl ?_
              refine kw_istore_n C [(2, .int (lsM (wtY pcl W H) (fun z => mkP (fun z => gvF oo ik z N) z (z + 1)) i)), (4, .int (bI (decide (lsM (wtY pcl W H) (fun z => mkP (fun z => gvF oo ik z N) z (z + 1)) i = -9 ∨ onI (nI i) 8 < onI (lsM (wtY pcl W H) (fun z => mkP (fun z => gvF oo ik z N) z (z + 1)) i) 8)))), (3, .int (nI i)), (1, .int (nI (wtY pcl W H))), (0, .ref (a 0))] dX7_leastSet_73 rfl (by decide) rfl ?_
              refine kw_iinc (v := nI (i + 1)) C [(3, .int (nI (i + 1))), (2, .int (lsM (wtY pcl W H) (fun z => mkP (fun z => gvF oo ik z N) z (z + 1)) i)), (4, .int (bI (decide (lsM (wtY pcl W H) (fun z => mkP (fun z => gvF oo ik z N) z (z + 1)) i = -9 ∨ onI (nI i) 8 < onI (lsM (wtY pcl W H) (fun z => mkP (fun z => gvF oo ik z N) z (z + 1)) i) 8)))), (1, .int (nI (wtY pcl W H))), (0, .ref (a 0))] 2 dX7_leastSet_74 rfl (nI_1 _) (by decide) rfl ?_
              refine kw_goto (tgt := 14) C dX7_leastSet_77 (by decide) ?_
              refine KW.loc (lv' := [(3, .int (nI (i + 1))), (2, .int (lsM (wtY pcl W H) (fun z => mkP (fun z => gvF oo ik z N) z (z + 1)) i)), (1, .int (nI (wtY pcl W H))), (0, .ref (a 0))]) [0, 1, 3, 4] rfl ?_
              refine KW.asl (congrArg (fun zz => ([(3, .int (nI (i + 1))), (2, .int zz), (1, .int (nI (wtY pcl W H))), (0, .ref (a 0))] : List (Nat × Value))) (show (lsM (wtY pcl W H) (fun z => mkP (fun z => gvF oo ik z N) z (z + 1)) i) = (lsM (wtY pcl W H) (fun z => mkP (fun z => gvF oo ik z N) z (z + 1)) (i + 1)) from by simp only [lsM]; split <;> rename_i hh <;> first | rfl | exact absurd hh.1 c_52 | exact absurd hh.2 c_65 | exact absurd (And.intro c_52 c_65) hh)) ?_
              exact ih_14 (i + 1) (by first | assumption | omega | (simp; done)) (by omega)
            ·
              refine kw_iload_n C 1 dX7_leastSet_68 rfl ?_
              refine kw_goto (tgt := 73) C dX7_leastSet_69 (by decide) ?_
              refine kw_istore_n C [(2, .int (nI i)), (4, .int (bI (decide (lsM (wtY pcl W H) (fun z => mkP (fun z => gvF oo ik z N) z (z + 1)) i = -9 ∨ onI (nI i) 8 < onI (lsM (wtY pcl W H) (fun z => mkP (fun z => gvF oo ik z N) z (z + 1)) i) 8)))), (3, .int (nI i)), (1, .int (nI (wtY pcl W H))), (0, .ref (a 0))] dX7_leastSet_73 rfl (by decide) rfl ?_
              refine kw_iinc (v := nI (i + 1)) C [(3, .int (nI (i + 1))), (2, .int (nI i)), (4, .int (bI (decide (lsM (wtY pcl W H) (fun z => mkP (fun z => gvF oo ik z N) z (z + 1)) i = -9 ∨ onI (nI i) 8 < onI (lsM (wtY pcl W H) (fun z => mkP (fun z => gvF oo ik z N) z (z + 1)) i) 8)))), (1, .int (nI (wtY pcl W H))), (0, .ref (a 0))] 2 dX7_leastSet_74 rfl (nI_1 _) (by decide) rfl ?_
              refine kw_goto (tgt := 14) C dX7_leastSet_77 (by decide) ?_
              refine KW.loc (lv' := [(3, .int (nI (i + 1))), (2, .int (nI i)), (1, .int (nI (wtY pcl W H))), (0, .ref (a 0))]) [0, 1, 3, 4] rfl ?_
              refine KW.asl (congrArg (fun zz => ([(3, .int (nI (i + 1))), (2, .int zz), (1, .int (nI (wtY pcl W H))), (0, .ref (a 0))] : List (Nat × Value))) (show (nI i) = (lsM (wtY pcl W H) (fun z => mkP (fun z => gvF oo ik z N) z (z + 1)) (i + 1)) from by simp only [lsM]; split <;> rename_i hh <;> first | rfl | exact absurd hh.1 c_52 | exact absurd hh.2 c_65 | exact absurd (And.intro c_52 c_65) hh)) ?_
              exact ih_14 (i + 1) (by first | assumption | omega | (simp; done)) (by omega)
        refine kw_icmp_eq (tgt := 43) C dX7_leastSet_29 (by decide) (fun c_29 => ?_) (fun c_29 => ?_)
        ·
          refine kw_iconst (v := nI 1) C dX7_leastSet_43 (by decide) ?_
          refine kw_goto (tgt := 48) C dX7_leastSet_44 (by decide) ?_
          refine KW.loc (lv' := [(3, .int (nI i)), (2, .int (lsM (wtY pcl W H) (fun z => mkP (fun z => gvF oo ik z N) z (z + 1)) i)), (1, .int (nI (wtY pcl W H))), (0, .ref (a 0))]) [0, 1, 2, 3] rfl ?_
          refine KW.ass (congrArg (fun zz => ([.int zz] : List Value)) (show (nI 1) = (bI (decide (lsM (wtY pcl W H) (fun z => mkP (fun z => gvF oo ik z N) z (z + 1)) i = -9 ∨ onI (nI i) 8 < onI (lsM (wtY pcl W H) (fun z => mkP (fun z => gvF oo ik z N) z (z + 1)) i) 8))) from by first | exact (bI_t (Or.inl c_29)).symm | exact (bI_t (Or.inr (not_le32 c_40))).symm | exact (bI_f (fun h => h.elim c_29 (fun q => absurd q (Int32.not_lt.mpr c_40)))).symm)) ?_
          exact J48_4 ()
        ·
          refine kw_iload_n C 0 dX7_leastSet_32 rfl ?_
          refine kS_i (As := [.int (nI i)]) (rest := []) (ws' := fun (u : Unit) => kMod y a th Sr dr pa um im ikp tx ty sn sm at1 pl tk vl fa pf odr gv_b mk_b bo bq) C (c_X7_ones l G y t (nI i)) (va_cwS 1 C.2.2.2.2.1 (goodS cT wd_754 wd_752 wd_753 wd_48) rfl rfl rfl (by decide +kernel) ⟨by decide, by decide⟩) [] [0, 1, 2, 3, 4, 5, 6, 7, 8, 9, 10, 11, 12, 13] [0, 1, 2, 3, 4, 5, 6, 7, 8, 9, 10, 11, 12, 13] rfl (by decide) rfl (by decide) (by decide) (fun _ => rfl) (by decide) rfl (Nat.le_of_ble_eq_true rfl) ⟨by decide, by decide⟩ dX7_leastSet_33 (fun r u hr_5 => ?_)
          subst hr_5
          refine kw_iload_n C 1 dX7_leastSet_36 rfl ?_
          refine kS_i (As := [.int (lsM (wtY pcl W H) (fun z => mkP (fun z => gvF oo ik z N) z (z + 1)) i)]) (rest := [.int (onI (nI i) 8)]) (ws' := fun (u : Unit) => kMod y a th Sr dr pa um im ikp tx ty sn sm at1 pl tk vl fa pf odr gv_b mk_b bo bq) C (c_X7_ones l G y t (lsM (wtY pcl W H) (fun z => mkP (fun z => gvF oo ik z N) z (z + 1)) i)) (va_cwS 1 C.2.2.2.2.1 (goodS cT wd_754 wd_752 wd_753 wd_48) rfl rfl rfl (by decide +kernel) ⟨by decide, by decide⟩) [] [0, 1, 2, 3, 4, 5, 6, 7, 8, 9, 10, 11, 12, 13] [0, 1, 2, 3, 4, 5, 6, 7, 8, 9, 10, 11, 12, 13] rfl (by decide) rfl (by decide) (by decide) (fun _ => rfl) (by decide) rfl (Nat.le_of_ble_eq_true rfl) ⟨by decide, by decide⟩ dX7_leastSet_37 (fun r u hr_6 => ?_)
          subst hr_6
          refine kw_icmp_ge (tgt := 47) C dX7_leastSet_40 (by decide) (fun c_40 => ?_) (fun c_40 => ?_)
          ·
            refine kw_iconst (v := nI 0) C dX7_leastSet_47 (by decide) ?_
            refine KW.loc (lv' := [(3, .int (nI i)), (2, .int (lsM (wtY pcl W H) (fun z => mkP (fun z => gvF oo ik z N) z (z + 1)) i)), (1, .int (nI (wtY pcl W H))), (0, .ref (a 0))]) [0, 1, 2, 3] rfl ?_
            refine KW.ass (congrArg (fun zz => ([.int zz] : List Value)) (show (nI 0) = (bI (decide (lsM (wtY pcl W H) (fun z => mkP (fun z => gvF oo ik z N) z (z + 1)) i = -9 ∨ onI (nI i) 8 < onI (lsM (wtY pcl W H) (fun z => mkP (fun z => gvF oo ik z N) z (z + 1)) i) 8))) from by first | exact (bI_t (Or.inl c_29)).symm | exact (bI_t (Or.inr (not_le32 c_40))).symm | exact (bI_f (fun h => h.elim c_29 (fun q => absurd q (Int32.not_lt.mpr c_40)))).symm)) ?_
            exact J48_4 ()
          ·
            refine kw_iconst (v := nI 1) C dX7_leastSet_43 (by decide) ?_
            refine kw_goto (tgt := 48) C dX7_leastSet_44 (by decide) ?_
            refine KW.loc (lv' := [(3, .int (nI i)), (2, .int (lsM (wtY pcl W H) (fun z => mkP (fun z => gvF oo ik z N) z (z + 1)) i)), (1, .int (nI (wtY pcl W H))), (0, .ref (a 0))]) [0, 1, 2, 3] rfl ?_
            refine KW.ass (congrArg (fun zz => ([.int zz] : List Value)) (show (nI 1) = (bI (decide (lsM (wtY pcl W H) (fun z => mkP (fun z => gvF oo ik z N) z (z + 1)) i = -9 ∨ onI (nI i) 8 < onI (lsM (wtY pcl W H) (fun z => mkP (fun z => gvF oo ik z N) z (z + 1)) i) 8))) from by first | exact (bI_t (Or.inl c_29)).symm | exact (bI_t (Or.inr (not_le32 c_40))).symm | exact (bI_f (fun h => h.elim c_29 (fun q => absurd q (Int32.not_lt.mpr c_40)))).symm)) ?_
            exact J48_4 ()
  refine KW.loc (lv' := [(3, .int (nI 0)), (2, .int (-9)), (1, .int (nI (wtY pcl W H))), (0, .ref (a 0))]) [0, 1, 2, 3] rfl ?_
  refine KW.asl (congrArg (fun zz => ([(3, .int (nI 0)), (2, .int zz), (1, .int (nI (wtY pcl W H))), (0, .ref (a 0))] : List (Nat × Value))) (show (-9) = (lsM (wtY pcl W H) (fun z => mkP (fun z => gvF oo ik z N) z (z + 1)) 0) from by rfl)) ?_
  exact L14_3 (2 ^ N - 0 + 1) 0 (by first | assumption | omega | (simp; done)) (Nat.lt_succ_self _)
