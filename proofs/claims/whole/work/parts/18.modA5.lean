set_option maxHeartbeats 4000000 in
set_option maxRecDepth 100000 in
theorem c_X7_prints (l : Launch) (G : va_G) (y : Nat → ClassId) (t : Nat) (a : Nat → Nat) (th : Int32) (Sr : Nat → Int32) (dr : Nat → Int32) (pa : Nat → Int32) (um : Int32) (im : Nat → Int32) (ikp : Nat → Int32) (tx : Nat → Int32) (ty : Int32) (sn : Nat → Int32) (sm : Int32) (at1 : Int32) (pl : Int32) (tk : Int32) (vl : Int32) (fa : Int32) (odr : Nat → Int32) (gv : Nat → Int32) (mk : Nat → Int32) (bo : Nat → Int32) (bq : Nat → Int32) (pv : Nat → Nat) (i : Nat) (a0 : Nat) (b0 : Nat) (W : Nat) (H : Nat) (N : Nat) (pcl : Nat → Nat) (ik : Nat → Nat) (o : Nat → Nat) (bk : Nat → Nat) (kk : Nat → Nat) (hR : RowOk Sr W H N pcl ik o bk kk) (hi : i < N) (ha0 : a0 < 3) (hb0 : b0 < 3) (hpv : ∀ j, pv j < 8) (sz : Nat) : Met l yX7_prints (Cond.code yX7_prints cX7_prints 8 (none) :: TG) ({ frames := 1, cells := 0, slots := 0, locals := 22 }) (va_Pc [.ref (a 0), .int (nI i), .int (dI a0), .int (dI b0)] (PR G y t (kMod y a th Sr dr pa um im ikp tx ty sn sm at1 pl tk vl fa (aN pv) odr gv mk bo bq) sz)) (va_Qv (fun (u : Unit) => True) (fun (u : Unit) t => PO G (va_A (kMod y a th Sr dr pa um im ikp tx ty sn sm at1 pl tk vl fa (aN pv) odr gv mk bo bq) sz) (kMod y a th Sr dr pa um im ikp tx ty sn sm at1 pl tk vl fa (aN (pvP W H bk (ik i) i a0 b0 36 pv)) odr gv mk bo bq) t) (va_A (kMod y a th Sr dr pa um im ikp tx ty sn sm at1 pl tk vl fa (aN pv) odr gv mk bo bq) sz)) 0 0 (va_A (kMod y a th Sr dr pa um im ikp tx ty sn sm at1 pl tk vl fa (aN pv) odr gv mk bo bq) sz) := by
  refine kMet (cc := cX7_prints) (maxL := 8) (ret := none) (Qc := fun A => va_Qv (fun (u : Unit) => True) (fun (u : Unit) t => PO G A (kMod y a th Sr dr pa um im ikp tx ty sn sm at1 pl tk vl fa (aN (pvP W H bk (ik i) i a0 b0 36 pv)) odr gv mk bo bq) t) A) (by decide) rfl (Nat.le_of_ble_eq_true rfl) (fun p e s m below meth c A hsz C hin => ?_)
  obtain ⟨hS0, hS1, hS2, hW, hH, hN, hpic, hink, hord, hblk, hdx⟩ := id hR
  refine KW.loc (lv' := [(0, .ref (a 0)), (1, .int (nI i)), (2, .int (dI a0)), (3, .int (dI b0))]) [0, 1, 2, 3] rfl ?_
  refine kw_iconst (v := nI 0) C dX7_prints_0 (by decide) ?_
  refine kw_istore C [(4, .int (nI 0)), (0, .ref (a 0)), (1, .int (nI i)), (2, .int (dI a0)), (3, .int (dI b0))] dX7_prints_1 (by decide) rfl ?_
  have L3_1 : ∀ (nn : Nat) (k : Nat) (hk : k ≤ 36) (hms : 36 - k < nn), KW p l e ({ frames := 1, cells := 0, slots := 0, locals := 22 }) s m ([.ref (a 0), .int (nI i), .int (dI a0), .int (dI b0)] : List Value).toArray below meth c 0 0 (MQ below (va_Qv (fun (u : Unit) => True) (fun (u : Unit) t => PO G A (kMod y a th Sr dr pa um im ikp tx ty sn sm at1 pl tk vl fa (aN (pvP W H bk (ik i) i a0 b0 36 pv)) odr gv mk bo bq) t) A) ([.ref (a 0), .int (nI i), .int (dI a0), .int (dI b0)] : List Value).toArray s 0 0 A) G A 8 (kMod y a th Sr dr pa um im ikp tx ty sn sm at1 pl tk vl fa (aN (pvP W H bk (ik i) i a0 b0 k pv)) odr gv mk bo bq) [(4, .int (nI k)), (0, .ref (a 0)), (1, .int (nI i)), (2, .int (dI a0)), (3, .int (dI b0))] 3 [] := by
    intro nn
    induction nn with
    | zero => intro k hk hms; exact absurd hms (Nat.not_lt_zero _)
    | succ nn ih_3 =>
      intro k hk hms
      refine kw_iload C 0 dX7_prints_3 rfl ?_
      refine kw_bipush (v := nI 36) C dX7_prints_5 (by decide) ?_
      refine kw_icmp_ge_N (tgt := 148) C (by omega) (by omega) dX7_prints_7 (by decide) (fun c_7 => ?_) (fun c_7 => ?_)
      ·
        rw [show k = 36 from by omega]
        refine kR_v C () dX7_prints_148 ?_ rfl
        first | rfl | trivial | (simp; done) | omega
      ·
        have hk6 : k / 6 < 6 := by omega
        have hm6 : k % 6 < 6 := by omega
        refine kw_iload C 0 dX7_prints_10 rfl ?_
        refine kw_bipush (v := nI 6) C dX7_prints_12 (by decide) ?_
        refine kw_irem C dX7_prints_14 (by decide) (kw_top (pk_rem (by omega) (by decide) (by decide)) ?_)
        refine kw_iload_n C 3 dX7_prints_15 rfl ?_
        refine kw_iadd C dX7_prints_16 ?_
        refine kw_istore C [(5, .int ((nI (k % 6)) + (dI a0))), (4, .int (nI k)), (0, .ref (a 0)), (1, .int (nI i)), (2, .int (dI a0)), (3, .int (dI b0))] dX7_prints_17 (by decide) rfl ?_
        refine kw_iload C 1 dX7_prints_19 rfl ?_
        refine kw_bipush (v := nI 6) C dX7_prints_21 (by decide) ?_
        refine kw_idiv C dX7_prints_23 (by decide) (kw_top (pk_div (by omega) (by decide) (by decide)) ?_)
        refine kw_iload_n C 5 dX7_prints_24 rfl ?_
        refine kw_iadd C dX7_prints_25 ?_
        refine kw_istore C [(6, .int ((nI (k / 6)) + (dI b0))), (5, .int ((nI (k % 6)) + (dI a0))), (4, .int (nI k)), (0, .ref (a 0)), (1, .int (nI i)), (2, .int (dI a0)), (3, .int (dI b0))] dX7_prints_26 (by decide) rfl ?_
        refine kw_aload_n C 3 dX7_prints_28 rfl ?_
        refine kw_get (v := .ref (a 1)) (T := TX7) C 0 1 rfl rfl (by decide) (fun w h => mT (fwX7 w h)) rfl (mT wd_616) rfl dX7_prints_29 ?_
        refine kw_bipush (v := nI 51) C dX7_prints_32 (by decide) ?_
        refine kw_bipush (v := nI 6) C dX7_prints_34 (by decide) ?_
        refine kw_iload_n C 4 dX7_prints_36 rfl ?_
        refine kw_imul C dX7_prints_37 (kw_top (pk_mul _ _) ?_)
        refine kw_iadd C dX7_prints_38 (kw_top (nI_add _ _) ?_)
        refine kw_iload C 2 dX7_prints_39 rfl ?_
        refine kw_bipush (v := nI 6) C dX7_prints_41 (by decide) ?_
        refine kw_idiv C dX7_prints_43 (by decide) (kw_top (pk_div (by omega) (by decide) (by decide)) ?_)
        refine kw_iadd C dX7_prints_44 (kw_top (nI_add _ _) ?_)
        refine kw_iald (f := Sr) C 1 rfl (by omega) (by decide) dX7_prints_45 ?_
        refine kw_top (show (Sr ((51 + (6 * i)) + (k / 6))) = (nI (bk (6 * (i) + (k / 6)))) from by exact (hblk (i) (k / 6) (by first | assumption | omega) (by first | assumption | omega)).1) ?_
        have hl_45 := (hblk (i) (k / 6) (by first | assumption | omega) (by first | assumption | omega)).2
        refine kw_iload C 2 dX7_prints_46 rfl ?_
        refine kw_bipush (v := nI 6) C dX7_prints_48 (by decide) ?_
        refine kw_irem C dX7_prints_50 (by decide) (kw_top (pk_rem (by omega) (by decide) (by decide)) ?_)
        refine kw_ishr C dX7_prints_51 (kw_top (n_shr (by omega) (by omega)) ?_)
        refine kw_iconst (v := nI 1) C dX7_prints_52 (by decide) ?_
        refine kw_iand C dX7_prints_53 (kw_top (n_and _ _) ?_)
        refine kw_iconst (v := nI 1) C dX7_prints_54 (by decide) ?_
        have J63_2 : ∀ (_ : Unit), KW p l e ({ frames := 1, cells := 0, slots := 0, locals := 22 }) s m ([.ref (a 0), .int (nI i), .int (dI a0), .int (dI b0)] : List Value).toArray below meth c 0 0 (MQ below (va_Qv (fun (u : Unit) => True) (fun (u : Unit) t => PO G A (kMod y a th Sr dr pa um im ikp tx ty sn sm at1 pl tk vl fa (aN (pvP W H bk (ik i) i a0 b0 36 pv)) odr gv mk bo bq) t) A) ([.ref (a 0), .int (nI i), .int (dI a0), .int (dI b0)] : List Value).toArray s 0 0 A) G A 8 (kMod y a th Sr dr pa um im ikp tx ty sn sm at1 pl tk vl fa (aN (pvP W H bk (ik i) i a0 b0 k pv)) odr gv mk bo bq) [(6, .int ((nI (k / 6)) + (dI b0))), (5, .int ((nI (k % 6)) + (dI a0))), (4, .int (nI k)), (0, .ref (a 0)), (1, .int (nI i)), (2, .int (dI a0)), (3, .int (dI b0))] 63 [.int (bI (decide (bk (6 * i + k / 6) / 2 ^ (k % 6) &&& 1 = 1)))] := by
          intro _
          refine kw_istore C [(7, .int (bI (decide (bk (6 * i + k / 6) / 2 ^ (k % 6) &&& 1 = 1)))), (6, .int ((nI (k / 6)) + (dI b0))), (5, .int ((nI (k % 6)) + (dI a0))), (4, .int (nI k)), (0, .ref (a 0)), (1, .int (nI i)), (2, .int (dI a0)), (3, .int (dI b0))] dX7_prints_63 (by decide) rfl ?_
          refine kw_iload C 0 dX7_prints_65 rfl ?_
          refine kw_if_eq_D (tgt := 142) C dX7_prints_67 (by decide) (fun c_67 => ?_) (fun c_67 => ?_)
          ·
            refine kw_iinc (v := nI (k + 1)) C [(4, .int (nI (k + 1))), (7, .int (bI (decide (bk (6 * i + k / 6) / 2 ^ (k % 6) &&& 1 = 1)))), (6, .int ((nI (k / 6)) + (dI b0))), (5, .int ((nI (k % 6)) + (dI a0))), (0, .ref (a 0)), (1, .int (nI i)), (2, .int (dI a0)), (3, .int (dI b0))] 3 dX7_prints_142 rfl (nI_1 _) (by decide) rfl ?_
            refine kw_goto (tgt := 3) C dX7_prints_145 (by decide) ?_
            refine KW.loc (lv' := [(4, .int (nI (k + 1))), (0, .ref (a 0)), (1, .int (nI i)), (2, .int (dI a0)), (3, .int (dI b0))]) [0, 4, 5, 6, 7] rfl ?_
            refine KW.asw (congrArg (fun zz => (kMod y a th Sr dr pa um im ikp tx ty sn sm at1 pl tk vl fa zz odr gv mk bo bq : va_W)) (show (aN (pvP W H bk (ik i) i a0 b0 k pv)) = (aN (pvP W H bk (ik i) i a0 b0 (k + 1) pv)) from by first | (rw [upd_aN]; simp only [pvP]; rw [if_pos (And.intro (tbm_t c_67) (And.intro ho1 ho2))]; done) | (simp only [pvP]; rw [if_neg (fun h => c_67 (by rw [tbm_d, h.1]; rfl))]; done) | (simp only [pvP]; rw [if_neg (fun h => c_84 ((in_R (by omega)).mpr ((ix_ok _ (by omega) _ ha0 _ hW).mpr h.2.1)))]; done) | (simp only [pvP]; rw [if_neg (fun h => c_101 ((in_R (by omega)).mpr ((ix_ok _ (by omega) _ hb0 _ hH).mpr h.2.2)))]; done))) ?_
            exact ih_3 (k + 1) (by first | assumption | omega | (simp; done)) (by omega)
          ·
            refine kw_iload C 2 dX7_prints_70 rfl ?_
            refine kw_iconst (v := nI 0) C dX7_prints_72 (by decide) ?_
            refine kw_aload_n C 4 dX7_prints_73 rfl ?_
            refine kw_get (v := .ref (a 1)) (T := TX7) C 0 1 rfl rfl (by decide) (fun w h => mT (fwX7 w h)) rfl (mT wd_616) rfl dX7_prints_74 ?_
            refine kw_iconst (v := nI 0) C dX7_prints_77 (by decide) ?_
            refine kw_iald (f := Sr) C 1 rfl (by omega) (by decide) dX7_prints_78 ?_
            refine kw_top (show (Sr 0) = (nI W) from by exact hS0) ?_
            refine kw_iconst (v := nI 1) C dX7_prints_79 (by decide) ?_
            refine kw_isub C dX7_prints_80 ?_
            refine kS_i (As := [.int ((nI (k % 6)) + (dI a0)), .int (nI 0), .int ((nI W) - (nI 1))]) (rest := []) (ws' := fun (u : Unit) => kMod y a th Sr dr pa um im ikp tx ty sn sm at1 pl tk vl fa (aN (pvP W H bk (ik i) i a0 b0 k pv)) odr gv mk bo bq) C (c_X7_in l G y t ((nI (k % 6)) + (dI a0)) (nI 0) ((nI W) - (nI 1))) (va_cwS 3 C.2.2.2.2.1 (goodS cT wd_688 wd_686 wd_687 wd_48) rfl rfl rfl (by decide +kernel) ⟨by decide, by decide⟩) [] [0, 1, 2, 3, 4, 5, 6, 7, 8, 9, 10, 11, 12, 13] [0, 1, 2, 3, 4, 5, 6, 7, 8, 9, 10, 11, 12, 13] rfl (by decide) rfl (by decide) (by decide) (fun _ => rfl) (by decide) rfl (Nat.le_of_ble_eq_true rfl) ⟨by decide, by decide⟩ dX7_prints_81 (fun r u hr_3 => ?_)
            subst hr_3
            refine kw_if_eq_D (tgt := 142) C dX7_prints_84 (by decide) (fun c_84 => ?_) (fun c_84 => ?_)
            ·
              refine kw_iinc (v := nI (k + 1)) C [(4, .int (nI (k + 1))), (7, .int (bI (decide (bk (6 * i + k / 6) / 2 ^ (k % 6) &&& 1 = 1)))), (6, .int ((nI (k / 6)) + (dI b0))), (5, .int ((nI (k % 6)) + (dI a0))), (0, .ref (a 0)), (1, .int (nI i)), (2, .int (dI a0)), (3, .int (dI b0))] 3 dX7_prints_142 rfl (nI_1 _) (by decide) rfl ?_
              refine kw_goto (tgt := 3) C dX7_prints_145 (by decide) ?_
              refine KW.loc (lv' := [(4, .int (nI (k + 1))), (0, .ref (a 0)), (1, .int (nI i)), (2, .int (dI a0)), (3, .int (dI b0))]) [0, 4, 5, 6, 7] rfl ?_
              refine KW.asw (congrArg (fun zz => (kMod y a th Sr dr pa um im ikp tx ty sn sm at1 pl tk vl fa zz odr gv mk bo bq : va_W)) (show (aN (pvP W H bk (ik i) i a0 b0 k pv)) = (aN (pvP W H bk (ik i) i a0 b0 (k + 1) pv)) from by first | (rw [upd_aN]; simp only [pvP]; rw [if_pos (And.intro (tbm_t c_67) (And.intro ho1 ho2))]; done) | (simp only [pvP]; rw [if_neg (fun h => c_67 (by rw [tbm_d, h.1]; rfl))]; done) | (simp only [pvP]; rw [if_neg (fun h => c_84 ((in_R (by omega)).mpr ((ix_ok _ (by omega) _ ha0 _ hW).mpr h.2.1)))]; done) | (simp only [pvP]; rw [if_neg (fun h => c_101 ((in_R (by omega)).mpr ((ix_ok _ (by omega) _ hb0 _ hH).mpr h.2.2)))]; done))) ?_
              exact ih_3 (k + 1) (by first | assumption | omega | (simp; done)) (by omega)
            ·
              have ho1 := (ix_ok (k % 6) hm6 a0 ha0 W hW).mp ((in_R (by omega)).mp c_84)
              refine kw_iload C 1 dX7_prints_87 rfl ?_
              refine kw_iconst (v := nI 0) C dX7_prints_89 (by decide) ?_
              refine kw_aload_n C 4 dX7_prints_90 rfl ?_
              refine kw_get (v := .ref (a 1)) (T := TX7) C 0 1 rfl rfl (by decide) (fun w h => mT (fwX7 w h)) rfl (mT wd_616) rfl dX7_prints_91 ?_
              refine kw_iconst (v := nI 1) C dX7_prints_94 (by decide) ?_
              refine kw_iald (f := Sr) C 1 rfl (by omega) (by decide) dX7_prints_95 ?_
              refine kw_top (show (Sr 1) = (nI H) from by exact hS1) ?_
              refine kw_iconst (v := nI 1) C dX7_prints_96 (by decide) ?_
              refine kw_isub C dX7_prints_97 ?_
              refine kS_i (As := [.int ((nI (k / 6)) + (dI b0)), .int (nI 0), .int ((nI H) - (nI 1))]) (rest := []) (ws' := fun (u : Unit) => kMod y a th Sr dr pa um im ikp tx ty sn sm at1 pl tk vl fa (aN (pvP W H bk (ik i) i a0 b0 k pv)) odr gv mk bo bq) C (c_X7_in l G y t ((nI (k / 6)) + (dI b0)) (nI 0) ((nI H) - (nI 1))) (va_cwS 3 C.2.2.2.2.1 (goodS cT wd_688 wd_686 wd_687 wd_48) rfl rfl rfl (by decide +kernel) ⟨by decide, by decide⟩) [] [0, 1, 2, 3, 4, 5, 6, 7, 8, 9, 10, 11, 12, 13] [0, 1, 2, 3, 4, 5, 6, 7, 8, 9, 10, 11, 12, 13] rfl (by decide) rfl (by decide) (by decide) (fun _ => rfl) (by decide) rfl (Nat.le_of_ble_eq_true rfl) ⟨by decide, by decide⟩ dX7_prints_98 (fun r u hr_4 => ?_)
              subst hr_4
              refine kw_if_eq_D (tgt := 142) C dX7_prints_101 (by decide) (fun c_101 => ?_) (fun c_101 => ?_)
              ·
                refine kw_iinc (v := nI (k + 1)) C [(4, .int (nI (k + 1))), (7, .int (bI (decide (bk (6 * i + k / 6) / 2 ^ (k % 6) &&& 1 = 1)))), (6, .int ((nI (k / 6)) + (dI b0))), (5, .int ((nI (k % 6)) + (dI a0))), (0, .ref (a 0)), (1, .int (nI i)), (2, .int (dI a0)), (3, .int (dI b0))] 3 dX7_prints_142 rfl (nI_1 _) (by decide) rfl ?_
                refine kw_goto (tgt := 3) C dX7_prints_145 (by decide) ?_
                refine KW.loc (lv' := [(4, .int (nI (k + 1))), (0, .ref (a 0)), (1, .int (nI i)), (2, .int (dI a0)), (3, .int (dI b0))]) [0, 4, 5, 6, 7] rfl ?_
                refine KW.asw (congrArg (fun zz => (kMod y a th Sr dr pa um im ikp tx ty sn sm at1 pl tk vl fa zz odr gv mk bo bq : va_W)) (show (aN (pvP W H bk (ik i) i a0 b0 k pv)) = (aN (pvP W H bk (ik i) i a0 b0 (k + 1) pv)) from by first | (rw [upd_aN]; simp only [pvP]; rw [if_pos (And.intro (tbm_t c_67) (And.intro ho1 ho2))]; done) | (simp only [pvP]; rw [if_neg (fun h => c_67 (by rw [tbm_d, h.1]; rfl))]; done) | (simp only [pvP]; rw [if_neg (fun h => c_84 ((in_R (by omega)).mpr ((ix_ok _ (by omega) _ ha0 _ hW).mpr h.2.1)))]; done) | (simp only [pvP]; rw [if_neg (fun h => c_101 ((in_R (by omega)).mpr ((ix_ok _ (by omega) _ hb0 _ hH).mpr h.2.2)))]; done))) ?_
                exact ih_3 (k + 1) (by first | assumption | omega | (simp; done)) (by omega)
              ·
                have ho2 := (ix_ok (k / 6) hk6 b0 hb0 H hH).mp ((in_R (by omega)).mp c_101)
                refine kw_aload_n C 4 dX7_prints_104 rfl ?_
                refine kw_get (v := .ref (a 8)) (T := TX7) C 0 16 rfl rfl (by decide) (fun w h => mT (fwX7 w h)) rfl (mT wd_631) rfl dX7_prints_105 ?_
                refine kw_bipush (v := nI 6) C dX7_prints_108 (by decide) ?_
                refine kw_iload C 1 dX7_prints_110 rfl ?_
                refine kw_top (show ((nI (k / 6)) + (dI b0)) = (nI (k / 6 + b0 - 1)) from by exact ix_eq _ hk6 _ hb0 ho2.1) ?_
                refine kw_imul C dX7_prints_112 (kw_top (pk_mul _ _) ?_)
                refine kw_iload C 2 dX7_prints_113 rfl ?_
                refine kw_top (show ((nI (k % 6)) + (dI a0)) = (nI (k % 6 + a0 - 1)) from by exact ix_eq _ hm6 _ ha0 ho1.1) ?_
                refine kw_iadd C dX7_prints_115 (kw_top (nI_add _ _) ?_)
                refine kw_aload_n C 4 dX7_prints_116 rfl ?_
                refine kw_get (v := .ref (a 1)) (T := TX7) C 0 1 rfl rfl (by decide) (fun w h => mT (fwX7 w h)) rfl (mT wd_616) rfl dX7_prints_117 ?_
                refine kw_bipush (v := nI 39) C dX7_prints_120 (by decide) ?_
                refine kw_iload_n C 5 dX7_prints_122 rfl ?_
                refine kw_iadd C dX7_prints_123 (kw_top (nI_add _ _) ?_)
                refine kw_iald (f := Sr) C 1 rfl (by omega) (by decide) dX7_prints_124 ?_
                refine kw_top (show (Sr (39 + i)) = (nI (ik (i))) from by exact (hink (i) (by first | assumption | omega)).1) ?_
                have hl_124 := (hink (i) (by first | assumption | omega)).2
                refine kw_aload_n C 4 dX7_prints_125 rfl ?_
                refine kw_get (v := .ref (a 8)) (T := TX7) C 0 16 rfl rfl (by decide) (fun w h => mT (fwX7 w h)) rfl (mT wd_631) rfl dX7_prints_126 ?_
                refine kw_bipush (v := nI 6) C dX7_prints_129 (by decide) ?_
                refine kw_iload C 1 dX7_prints_131 rfl ?_
                refine kw_top (show ((nI (k / 6)) + (dI b0)) = (nI (k / 6 + b0 - 1)) from by exact ix_eq _ hk6 _ hb0 ho2.1) ?_
                refine kw_imul C dX7_prints_133 (kw_top (pk_mul _ _) ?_)
                refine kw_iload C 2 dX7_prints_134 rfl ?_
                refine kw_top (show ((nI (k % 6)) + (dI a0)) = (nI (k % 6 + a0 - 1)) from by exact ix_eq _ hm6 _ ha0 ho1.1) ?_
                refine kw_iadd C dX7_prints_136 (kw_top (nI_add _ _) ?_)
                refine kw_iald (f := aN (pvP W H bk (ik i) i a0 b0 k pv)) C 8 rfl (by omega) (by decide) dX7_prints_137 ?_
                refine kw_top (show ((aN (pvP W H bk (ik i) i a0 b0 k pv)) ((6 * (k / 6 + b0 - 1)) + (k % 6 + a0 - 1))) = (nI ((pvP W H bk (ik i) i a0 b0 k pv) ((6 * (k / 6 + b0 - 1)) + (k % 6 + a0 - 1)))) from by rfl) ?_
                refine kS_i (As := [.int (nI (ik (i))), .int (nI ((pvP W H bk (ik i) i a0 b0 k pv) ((6 * (k / 6 + b0 - 1)) + (k % 6 + a0 - 1))))]) (rest := [.int (nI ((6 * (k / 6 + b0 - 1)) + (k % 6 + a0 - 1))), .ref (a 8)]) (ws' := fun (u : Unit) => kMod y a th Sr dr pa um im ikp tx ty sn sm at1 pl tk vl fa (aN (pvP W H bk (ik i) i a0 b0 k pv)) odr gv mk bo bq) C (c_X7_printed l G y t (ik (i)) ((pvP W H bk (ik i) i a0 b0 k pv) ((6 * (k / 6 + b0 - 1)) + (k % 6 + a0 - 1))) (by first | assumption | omega | decide)) (va_cwS 2 C.2.2.2.2.1 (goodS cT wd_747 wd_745 wd_746 wd_48) rfl rfl rfl (by decide +kernel) ⟨by decide, by decide⟩) [] [0, 1, 2, 3, 4, 5, 6, 7, 8, 9, 10, 11, 12, 13] [0, 1, 2, 3, 4, 5, 6, 7, 8, 9, 10, 11, 12, 13] rfl (by decide) rfl (by decide) (by decide) (fun _ => rfl) (by decide) rfl (Nat.le_of_ble_eq_true rfl) ⟨by decide, by decide⟩ dX7_prints_138 (fun r u hr_5 => ?_)
                subst hr_5
                refine kw_iast C 8 (kMod y a th Sr dr pa um im ikp tx ty sn sm at1 pl tk vl fa (upd (aN (pvP W H bk (ik i) i a0 b0 k pv)) ((6 * (k / 6 + b0 - 1)) + (k % 6 + a0 - 1)) (nI (prN (ik (i)) ((pvP W H bk (ik i) i a0 b0 k pv) ((6 * (k / 6 + b0 - 1)) + (k % 6 + a0 - 1)))))) odr gv mk bo bq) rfl (by omega) (by decide) dX7_prints_141 rfl ?_
                refine kw_iinc (v := nI (k + 1)) C [(4, .int (nI (k + 1))), (7, .int (bI (decide (bk (6 * i + k / 6) / 2 ^ (k % 6) &&& 1 = 1)))), (6, .int ((nI (k / 6)) + (dI b0))), (5, .int ((nI (k % 6)) + (dI a0))), (0, .ref (a 0)), (1, .int (nI i)), (2, .int (dI a0)), (3, .int (dI b0))] 3 dX7_prints_142 rfl (nI_1 _) (by decide) rfl ?_
                refine kw_goto (tgt := 3) C dX7_prints_145 (by decide) ?_
                refine KW.loc (lv' := [(4, .int (nI (k + 1))), (0, .ref (a 0)), (1, .int (nI i)), (2, .int (dI a0)), (3, .int (dI b0))]) [0, 4, 5, 6, 7] rfl ?_
                refine KW.asw (congrArg (fun zz => (kMod y a th Sr dr pa um im ikp tx ty sn sm at1 pl tk vl fa zz odr gv mk bo bq : va_W)) (show (upd (aN (pvP W H bk (ik i) i a0 b0 k pv)) ((6 * (k / 6 + b0 - 1)) + (k % 6 + a0 - 1)) (nI (prN (ik (i)) ((pvP W H bk (ik i) i a0 b0 k pv) ((6 * (k / 6 + b0 - 1)) + (k % 6 + a0 - 1)))))) = (aN (pvP W H bk (ik i) i a0 b0 (k + 1) pv)) from by first | (rw [upd_aN]; simp only [pvP]; rw [if_pos (And.intro (tbm_t c_67) (And.intro ho1 ho2))]; done) | (simp only [pvP]; rw [if_neg (fun h => c_67 (by rw [tbm_d, h.1]; rfl))]; done) | (simp only [pvP]; rw [if_neg (fun h => c_84 ((in_R (by omega)).mpr ((ix_ok _ (by omega) _ ha0 _ hW).mpr h.2.1)))]; done) | (simp only [pvP]; rw [if_neg (fun h => c_101 ((in_R (by omega)).mpr ((ix_ok _ (by omega) _ hb0 _ hH).mpr h.2.2)))]; done))) ?_
                exact ih_3 (k + 1) (by first | assumption | omega | (simp; done)) (by omega)
        refine kw_icmp_ne_N (tgt := 62) C (by first | decide | exact Nat.lt_of_le_of_lt Nat.and_le_right (by decide)) (by first | decide | exact Nat.lt_of_le_of_lt Nat.and_le_right (by decide)) dX7_prints_55 (by decide) (fun c_55 => ?_) (fun c_55 => ?_)
        ·
          refine kw_iconst (v := nI 0) C dX7_prints_62 (by decide) ?_
          refine KW.loc (lv' := [(6, .int ((nI (k / 6)) + (dI b0))), (5, .int ((nI (k % 6)) + (dI a0))), (4, .int (nI k)), (0, .ref (a 0)), (1, .int (nI i)), (2, .int (dI a0)), (3, .int (dI b0))]) [0, 1, 2, 3, 4, 5, 6] rfl ?_
          refine KW.ass (congrArg (fun zz => ([.int zz] : List Value)) (show (nI 0) = (bI (decide (bk (6 * i + k / 6) / 2 ^ (k % 6) &&& 1 = 1))) from by first | exact (bI_t c_55).symm | exact (bI_f c_55).symm)) ?_
          exact J63_2 ()
        ·
          refine kw_iconst (v := nI 1) C dX7_prints_58 (by decide) ?_
          refine kw_goto (tgt := 63) C dX7_prints_59 (by decide) ?_
          refine KW.loc (lv' := [(6, .int ((nI (k / 6)) + (dI b0))), (5, .int ((nI (k % 6)) + (dI a0))), (4, .int (nI k)), (0, .ref (a 0)), (1, .int (nI i)), (2, .int (dI a0)), (3, .int (dI b0))]) [0, 1, 2, 3, 4, 5, 6] rfl ?_
          refine KW.ass (congrArg (fun zz => ([.int zz] : List Value)) (show (nI 1) = (bI (decide (bk (6 * i + k / 6) / 2 ^ (k % 6) &&& 1 = 1))) from by first | exact (bI_t c_55).symm | exact (bI_f c_55).symm)) ?_
          exact J63_2 ()
  refine KW.loc (lv' := [(4, .int (nI 0)), (0, .ref (a 0)), (1, .int (nI i)), (2, .int (dI a0)), (3, .int (dI b0))]) [0, 1, 2, 3, 4] rfl ?_
  refine KW.asw (congrArg (fun zz => (kMod y a th Sr dr pa um im ikp tx ty sn sm at1 pl tk vl fa zz odr gv mk bo bq : va_W)) (show (aN pv) = (aN (pvP W H bk (ik i) i a0 b0 0 pv)) from by rfl)) ?_
  exact L3_1 (36 - 0 + 1) 0 (by first | assumption | omega | (simp; done)) (Nat.lt_succ_self _)
