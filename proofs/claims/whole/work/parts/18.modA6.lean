set_option maxHeartbeats 4000000 in
set_option maxRecDepth 100000 in
theorem c_X7_proves (l : Launch) (G : va_G) (y : Nat → ClassId) (t : Nat) (a : Nat → Nat) (th : Int32) (Sr : Nat → Int32) (dr : Nat → Int32) (pa : Nat → Int32) (um : Int32) (im : Nat → Int32) (ikp : Nat → Int32) (tx : Nat → Int32) (ty : Int32) (sn : Nat → Int32) (sm : Int32) (at1 : Int32) (pl : Int32) (tk : Int32) (vl : Int32) (fa : Int32) (pf : Nat → Int32) (odr : Nat → Int32) (gv : Nat → Int32) (mk : Nat → Int32) (bo : Nat → Int32) (bq : Nat → Int32) (ox : Int32) (sk : Nat) (W : Nat) (H : Nat) (N : Nat) (pcl : Nat → Nat) (ik : Nat → Nat) (o : Nat → Nat) (bk : Nat → Nat) (kk : Nat → Nat) (hR : RowOk Sr W H N pcl ik o bk kk) (hsk : sk < 9) (sz : Nat) : Met l yX7_proves (Cond.code yX7_proves cX7_proves 6 (none) :: TG) ({ frames := 2, cells := 0, slots := 0, locals := 49 }) (va_Pc [.ref (a 0), .int ox, .int (dI (sk % 3)), .int (dI (sk / 3))] (PR G y t (kMod y a th Sr dr pa um im ikp tx ty sn sm at1 pl tk vl fa pf odr gv mk bo bq) sz)) (va_Qv (fun (u : Unit) => True) (fun (u : Unit) t => PO G (va_A (kMod y a th Sr dr pa um im ikp tx ty sn sm at1 pl tk vl fa pf odr gv mk bo bq) sz) (kMod y a th Sr dr pa um im ikp tx ty sn sm at1 pl tk vl fa (aN (pvF W H bk ik o kk ox sk N)) odr gv mk bo bq) t) (va_A (kMod y a th Sr dr pa um im ikp tx ty sn sm at1 pl tk vl fa pf odr gv mk bo bq) sz)) 0 0 (va_A (kMod y a th Sr dr pa um im ikp tx ty sn sm at1 pl tk vl fa pf odr gv mk bo bq) sz) := by
  refine kMet (cc := cX7_proves) (maxL := 6) (ret := none) (Qc := fun A => va_Qv (fun (u : Unit) => True) (fun (u : Unit) t => PO G A (kMod y a th Sr dr pa um im ikp tx ty sn sm at1 pl tk vl fa (aN (pvF W H bk ik o kk ox sk N)) odr gv mk bo bq) t) A) (by decide) rfl (Nat.le_of_ble_eq_true rfl) (fun p e s m below meth c A hsz C hin => ?_)
  obtain ⟨hS0, hS1, hS2, hW, hH, hN, hpic, hink, hord, hblk, hdx⟩ := id hR
  refine KW.loc (lv' := [(0, .ref (a 0)), (1, .int ox), (2, .int (dI (sk % 3))), (3, .int (dI (sk / 3)))]) [0, 1, 2, 3] rfl ?_
  refine kw_iconst (v := nI 0) C dX7_proves_0 (by decide) ?_
  refine kw_istore C [(4, .int (nI 0)), (0, .ref (a 0)), (1, .int ox), (2, .int (dI (sk % 3))), (3, .int (dI (sk / 3)))] dX7_proves_1 (by decide) rfl ?_
  have L3_1 : ∀ (nn : Nat) (k : Nat) (f0 : Nat → Int32) (hk : k ≤ 36) (hf0 : ∀ j, j < k → f0 j = nI 0) (hms : 36 - k < nn), KW p l e ({ frames := 2, cells := 0, slots := 0, locals := 49 }) s m ([.ref (a 0), .int ox, .int (dI (sk % 3)), .int (dI (sk / 3))] : List Value).toArray below meth c 0 0 (MQ below (va_Qv (fun (u : Unit) => True) (fun (u : Unit) t => PO G A (kMod y a th Sr dr pa um im ikp tx ty sn sm at1 pl tk vl fa (aN (pvF W H bk ik o kk ox sk N)) odr gv mk bo bq) t) A) ([.ref (a 0), .int ox, .int (dI (sk % 3)), .int (dI (sk / 3))] : List Value).toArray s 0 0 A) G A 6 (kMod y a th Sr dr pa um im ikp tx ty sn sm at1 pl tk vl fa f0 odr gv mk bo bq) [(4, .int (nI k)), (0, .ref (a 0)), (1, .int ox), (2, .int (dI (sk % 3))), (3, .int (dI (sk / 3)))] 3 [] := by
    intro nn
    induction nn with
    | zero => intro k f0 hk hf0 hms; exact absurd hms (Nat.not_lt_zero _)
    | succ nn ih_3 =>
      intro k f0 hk hf0 hms
      refine kw_iload C 0 dX7_proves_3 rfl ?_
      refine kw_bipush (v := nI 36) C dX7_proves_5 (by decide) ?_
      refine kw_icmp_ge_N (tgt := 24) C (by omega) (by omega) dX7_proves_7 (by decide) (fun c_7 => ?_) (fun c_7 => ?_)
      ·
        refine kw_iconst (v := nI 0) C dX7_proves_24 (by decide) ?_
        refine kw_exti (aN (fun _ => 0)) 8 (kMod y a th Sr dr pa um im ikp tx ty sn sm at1 pl tk vl fa (aN (fun _ => 0)) odr gv mk bo bq) rfl (by intro j hj; exact hf0 j (by omega)) rfl ?_
        refine kw_istore C [(4, .int (nI 0)), (0, .ref (a 0)), (1, .int ox), (2, .int (dI (sk % 3))), (3, .int (dI (sk / 3)))] dX7_proves_25 (by decide) rfl ?_
        have L27_2 : ∀ (nn : Nat) (i : Nat) (hi : i ≤ N) (hpv : ∀ j, (pvF W H bk ik o kk ox sk i) j < 8) (hms : N - i < nn), KW p l e ({ frames := 2, cells := 0, slots := 0, locals := 49 }) s m ([.ref (a 0), .int ox, .int (dI (sk % 3)), .int (dI (sk / 3))] : List Value).toArray below meth c 0 0 (MQ below (va_Qv (fun (u : Unit) => True) (fun (u : Unit) t => PO G A (kMod y a th Sr dr pa um im ikp tx ty sn sm at1 pl tk vl fa (aN (pvF W H bk ik o kk ox sk N)) odr gv mk bo bq) t) A) ([.ref (a 0), .int ox, .int (dI (sk % 3)), .int (dI (sk / 3))] : List Value).toArray s 0 0 A) G A 6 (kMod y a th Sr dr pa um im ikp tx ty sn sm at1 pl tk vl fa (aN (pvF W H bk ik o kk ox sk i)) odr gv mk bo bq) [(4, .int (nI i)), (0, .ref (a 0)), (1, .int ox), (2, .int (dI (sk % 3))), (3, .int (dI (sk / 3)))] 27 [] := by
          intro nn
          induction nn with
          | zero => intro i hi hpv hms; exact absurd hms (Nat.not_lt_zero _)
          | succ nn ih_27 =>
            intro i hi hpv hms
            refine kw_iload C 0 dX7_proves_27 rfl ?_
            refine kw_aload_n C 1 dX7_proves_29 rfl ?_
            refine kw_get (v := .ref (a 1)) (T := TX7) C 0 1 rfl rfl (by decide) (fun w h => mT (fwX7 w h)) rfl (mT wd_616) rfl dX7_proves_30 ?_
            refine kw_iconst (v := nI 2) C dX7_proves_33 (by decide) ?_
            refine kw_iald (f := Sr) C 1 rfl (by omega) (by decide) dX7_proves_34 ?_
            refine kw_top (show (Sr 2) = (nI N) from by exact hS2) ?_
            refine kw_icmp_ge_N (tgt := 102) C (by omega) (by omega) dX7_proves_35 (by decide) (fun c_35 => ?_) (fun c_35 => ?_)
            ·
              rw [show i = N from by omega]
              refine kR_v C () dX7_proves_102 ?_ rfl
              first | rfl | trivial | (simp; done) | omega
            ·
              refine kw_aload_n C 1 dX7_proves_38 rfl ?_
              refine kw_get (v := .ref (a 1)) (T := TX7) C 0 1 rfl rfl (by decide) (fun w h => mT (fwX7 w h)) rfl (mT wd_616) rfl dX7_proves_39 ?_
              refine kw_bipush (v := nI 45) C dX7_proves_42 (by decide) ?_
              refine kw_iload C 0 dX7_proves_44 rfl ?_
              refine kw_iadd C dX7_proves_46 (kw_top (nI_add _ _) ?_)
              refine kw_iald (f := Sr) C 1 rfl (by omega) (by decide) dX7_proves_47 ?_
              refine kw_top (show (Sr (45 + i)) = (nI (o (i))) from by exact (hord (i) (by first | assumption | omega)).1) ?_
              have hl_47 := (hord (i) (by first | assumption | omega)).2
              refine kw_istore C [(5, .int (nI (o (i)))), (4, .int (nI i)), (0, .ref (a 0)), (1, .int ox), (2, .int (dI (sk % 3))), (3, .int (dI (sk / 3)))] dX7_proves_48 (by decide) rfl ?_
              refine kw_aload_n C 2 dX7_proves_50 rfl ?_
              refine kw_iload C 0 dX7_proves_51 rfl ?_
              refine kw_iload C 0 dX7_proves_53 rfl ?_
              refine kw_iload_n C 3 dX7_proves_55 rfl ?_
              have J73_3 : ∀ (_ : Unit), KW p l e ({ frames := 2, cells := 0, slots := 0, locals := 49 }) s m ([.ref (a 0), .int ox, .int (dI (sk % 3)), .int (dI (sk / 3))] : List Value).toArray below meth c 0 0 (MQ below (va_Qv (fun (u : Unit) => True) (fun (u : Unit) t => PO G A (kMod y a th Sr dr pa um im ikp tx ty sn sm at1 pl tk vl fa (aN (pvF W H bk ik o kk ox sk N)) odr gv mk bo bq) t) A) ([.ref (a 0), .int ox, .int (dI (sk % 3)), .int (dI (sk / 3))] : List Value).toArray s 0 0 A) G A 6 (kMod y a th Sr dr pa um im ikp tx ty sn sm at1 pl tk vl fa (aN (pvF W H bk ik o kk ox sk i)) odr gv mk bo bq) [(5, .int (nI (o (i)))), (4, .int (nI i)), (0, .ref (a 0)), (1, .int ox), (2, .int (dI (sk % 3))), (3, .int (dI (sk / 3)))] 73 [.int (dI (slOf ox sk kk (o i) % 3)), .int (nI (o (i))), .ref (a 0)] := by
                intro _
                refine kw_iload C 0 dX7_proves_73 rfl ?_
                refine kw_iload_n C 3 dX7_proves_75 rfl ?_
                have J93_4 : ∀ (_ : Unit), KW p l e ({ frames := 2, cells := 0, slots := 0, locals := 49 }) s m ([.ref (a 0), .int ox, .int (dI (sk % 3)), .int (dI (sk / 3))] : List Value).toArray below meth c 0 0 (MQ below (va_Qv (fun (u : Unit) => True) (fun (u : Unit) t => PO G A (kMod y a th Sr dr pa um im ikp tx ty sn sm at1 pl tk vl fa (aN (pvF W H bk ik o kk ox sk N)) odr gv mk bo bq) t) A) ([.ref (a 0), .int ox, .int (dI (sk % 3)), .int (dI (sk / 3))] : List Value).toArray s 0 0 A) G A 6 (kMod y a th Sr dr pa um im ikp tx ty sn sm at1 pl tk vl fa (aN (pvF W H bk ik o kk ox sk i)) odr gv mk bo bq) [(5, .int (nI (o (i)))), (4, .int (nI i)), (0, .ref (a 0)), (1, .int ox), (2, .int (dI (sk % 3))), (3, .int (dI (sk / 3)))] 93 [.int (dI (slOf ox sk kk (o i) / 3)), .int (dI (slOf ox sk kk (o i) % 3)), .int (nI (o (i))), .ref (a 0)] := by
                  intro _
                  have hs9 : slOf ox sk kk (o i) < 9 := by unfold slOf; split; exact hsk; exact (hdx _ hl_47).2.2
                  refine kV_v (As := [.int (nI (o (i))), .int (dI (slOf ox sk kk (o i) % 3)), .int (dI (slOf ox sk kk (o i) / 3))]) (rest := []) (ws' := fun (u : Unit) => kMod y a th Sr dr pa um im ikp tx ty sn sm at1 pl tk vl fa (aN (pvP W H bk (ik (o (i))) (o (i)) (slOf ox sk kk (o i) % 3) (slOf ox sk kk (o i) / 3) 36 (pvF W H bk ik o kk ox sk i))) odr gv mk bo bq) C (c_X7_prints l G y t a th Sr dr pa um im ikp tx ty sn sm at1 pl tk vl fa odr gv mk bo bq (pvF W H bk ik o kk ox sk i) (o (i)) (slOf ox sk kk (o i) % 3) (slOf ox sk kk (o i) / 3) W H N pcl ik o bk kk (by exact hR) (by exact hl_47) (by first | assumption | omega | decide) (by first | assumption | omega | decide) (by first | assumption | omega | decide)) (cwV 3 C.2.2.2.2.1 (goodV cT wd_790 wd_787 wd_789 wd_30 wd_48) rfl rfl rfl (by decide +kernel) ⟨by decide, by decide⟩) [0, 1, 2, 3, 4, 5, 6, 7, 8, 9, 10, 11, 12, 13] [] [0, 1, 2, 3, 4, 5, 6, 7, 8, 9, 10, 11, 12, 13] rfl (by decide) rfl (by decide) (by decide) (fun _ => rfl) (by decide) 0 rfl rfl rfl (Nat.le_of_ble_eq_true rfl) ⟨by decide, by decide⟩ dX7_proves_93 (fun u hr_5 => ?_)
                  refine kw_iinc (v := nI (i + 1)) C [(4, .int (nI (i + 1))), (5, .int (nI (o (i)))), (0, .ref (a 0)), (1, .int ox), (2, .int (dI (sk % 3))), (3, .int (dI (sk / 3)))] 1 dX7_proves_96 rfl (nI_1 _) (by decide) rfl ?_
                  refine kw_goto (tgt := 27) C dX7_proves_99 (by decide) ?_
                  refine KW.loc (lv' := [(4, .int (nI (i + 1))), (0, .ref (a 0)), (1, .int ox), (2, .int (dI (sk % 3))), (3, .int (dI (sk / 3)))]) [0, 2, 3, 4, 5] rfl ?_
                  refine KW.asw (congrArg (fun zz => (kMod y a th Sr dr pa um im ikp tx ty sn sm at1 pl tk vl fa zz odr gv mk bo bq : va_W)) (show (aN (pvP W H bk (ik (o (i))) (o (i)) (slOf ox sk kk (o i) % 3) (slOf ox sk kk (o i) / 3) 36 (pvF W H bk ik o kk ox sk i))) = (aN (pvF W H bk ik o kk ox sk (i + 1))) from by rfl)) ?_
                  exact ih_27 (i + 1) (by first | assumption | omega | (simp; done)) (by exact fun j => pvP_lt (hink _ hl_47).2 hpv 36 j) (by omega)
                refine kw_icmp_ne (tgt := 83) C dX7_proves_76 (by decide) (fun c_76 => ?_) (fun c_76 => ?_)
                ·
                  refine kw_aload_n C 2 dX7_proves_83 rfl ?_
                  refine kw_get (v := .ref (a 1)) (T := TX7) C 0 1 rfl rfl (by decide) (fun w h => mT (fwX7 w h)) rfl (mT wd_616) rfl dX7_proves_84 ?_
                  refine kw_bipush (v := nI 93) C dX7_proves_87 (by decide) ?_
                  refine kw_iload C 0 dX7_proves_89 rfl ?_
                  refine kw_iadd C dX7_proves_91 (kw_top (nI_add _ _) ?_)
                  refine kw_iald (f := Sr) C 1 rfl (by omega) (by decide) dX7_proves_92 ?_
                  refine kw_top (show (Sr (93 + (o (i)))) = (dI (kk (o i) / 3)) from by exact (hdx (o i) (by first | assumption | omega)).2.1) ?_
                  have hl_92 := (hdx (o i) (by first | assumption | omega)).2.2
                  refine KW.loc (lv' := [(5, .int (nI (o (i)))), (4, .int (nI i)), (0, .ref (a 0)), (1, .int ox), (2, .int (dI (sk % 3))), (3, .int (dI (sk / 3)))]) [0, 1, 2, 3, 4, 5] rfl ?_
                  refine KW.ass (congrArg (fun zz => ([.int zz, .int (dI (slOf ox sk kk (o i) % 3)), .int (nI (o (i))), .ref (a 0)] : List Value)) (show (dI (kk (o i) / 3)) = (dI (slOf ox sk kk (o i) / 3)) from by first | (unfold slOf; rw [if_pos c_76]; done) | (unfold slOf; rw [if_neg c_76]; done))) ?_
                  exact J93_4 ()
                ·
                  refine kw_iload_n C 5 dX7_proves_79 rfl ?_
                  refine kw_goto (tgt := 93) C dX7_proves_80 (by decide) ?_
                  refine KW.loc (lv' := [(5, .int (nI (o (i)))), (4, .int (nI i)), (0, .ref (a 0)), (1, .int ox), (2, .int (dI (sk % 3))), (3, .int (dI (sk / 3)))]) [0, 1, 2, 3, 4, 5] rfl ?_
                  refine KW.ass (congrArg (fun zz => ([.int zz, .int (dI (slOf ox sk kk (o i) % 3)), .int (nI (o (i))), .ref (a 0)] : List Value)) (show (dI (sk / 3)) = (dI (slOf ox sk kk (o i) / 3)) from by first | (unfold slOf; rw [if_pos c_76]; done) | (unfold slOf; rw [if_neg c_76]; done))) ?_
                  exact J93_4 ()
              refine kw_icmp_ne (tgt := 63) C dX7_proves_56 (by decide) (fun c_56 => ?_) (fun c_56 => ?_)
              ·
                refine kw_aload_n C 2 dX7_proves_63 rfl ?_
                refine kw_get (v := .ref (a 1)) (T := TX7) C 0 1 rfl rfl (by decide) (fun w h => mT (fwX7 w h)) rfl (mT wd_616) rfl dX7_proves_64 ?_
                refine kw_bipush (v := nI 87) C dX7_proves_67 (by decide) ?_
                refine kw_iload C 0 dX7_proves_69 rfl ?_
                refine kw_iadd C dX7_proves_71 (kw_top (nI_add _ _) ?_)
                refine kw_iald (f := Sr) C 1 rfl (by omega) (by decide) dX7_proves_72 ?_
                refine kw_top (show (Sr (87 + (o (i)))) = (dI (kk (o i) % 3)) from by exact (hdx (o i) (by first | assumption | omega)).1) ?_
                have hl_72 := (hdx (o i) (by first | assumption | omega)).2.2
                refine KW.loc (lv' := [(5, .int (nI (o (i)))), (4, .int (nI i)), (0, .ref (a 0)), (1, .int ox), (2, .int (dI (sk % 3))), (3, .int (dI (sk / 3)))]) [0, 1, 2, 3, 4, 5] rfl ?_
                refine KW.ass (congrArg (fun zz => ([.int zz, .int (nI (o (i))), .ref (a 0)] : List Value)) (show (dI (kk (o i) % 3)) = (dI (slOf ox sk kk (o i) % 3)) from by first | (unfold slOf; rw [if_pos c_56]; done) | (unfold slOf; rw [if_neg c_56]; done))) ?_
                exact J73_3 ()
              ·
                refine kw_iload_n C 4 dX7_proves_59 rfl ?_
                refine kw_goto (tgt := 73) C dX7_proves_60 (by decide) ?_
                refine KW.loc (lv' := [(5, .int (nI (o (i)))), (4, .int (nI i)), (0, .ref (a 0)), (1, .int ox), (2, .int (dI (sk % 3))), (3, .int (dI (sk / 3)))]) [0, 1, 2, 3, 4, 5] rfl ?_
                refine KW.ass (congrArg (fun zz => ([.int zz, .int (nI (o (i))), .ref (a 0)] : List Value)) (show (dI (sk % 3)) = (dI (slOf ox sk kk (o i) % 3)) from by first | (unfold slOf; rw [if_pos c_56]; done) | (unfold slOf; rw [if_neg c_56]; done))) ?_
                exact J73_3 ()
        refine KW.loc (lv' := [(4, .int (nI 0)), (0, .ref (a 0)), (1, .int ox), (2, .int (dI (sk % 3))), (3, .int (dI (sk / 3)))]) [0, 1, 2, 3, 4] rfl ?_
        refine KW.asw (congrArg (fun zz => (kMod y a th Sr dr pa um im ikp tx ty sn sm at1 pl tk vl fa zz odr gv mk bo bq : va_W)) (show (aN (fun _ => 0)) = (aN (pvF W H bk ik o kk ox sk 0)) from by rfl)) ?_
        exact L27_2 (N - 0 + 1) 0 (by first | assumption | omega | (simp; done)) (by intro j; show 0 < 8; decide) (Nat.lt_succ_self _)
      ·
        refine kw_aload_n C 1 dX7_proves_10 rfl ?_
        refine kw_get (v := .ref (a 8)) (T := TX7) C 0 16 rfl rfl (by decide) (fun w h => mT (fwX7 w h)) rfl (mT wd_631) rfl dX7_proves_11 ?_
        refine kw_iload C 0 dX7_proves_14 rfl ?_
        refine kw_iconst (v := nI 0) C dX7_proves_16 (by decide) ?_
        refine kw_iast C 8 (kMod y a th Sr dr pa um im ikp tx ty sn sm at1 pl tk vl fa (upd f0 k (nI 0)) odr gv mk bo bq) rfl (by omega) (by decide) dX7_proves_17 rfl ?_
        refine kw_iinc (v := nI (k + 1)) C [(4, .int (nI (k + 1))), (0, .ref (a 0)), (1, .int ox), (2, .int (dI (sk % 3))), (3, .int (dI (sk / 3)))] 0 dX7_proves_18 rfl (nI_1 _) (by decide) rfl ?_
        refine kw_goto (tgt := 3) C dX7_proves_21 (by decide) ?_
        refine KW.loc (lv' := [(4, .int (nI (k + 1))), (0, .ref (a 0)), (1, .int ox), (2, .int (dI (sk % 3))), (3, .int (dI (sk / 3)))]) [0, 1, 2, 3, 4] rfl ?_
        exact ih_3 (k + 1) (upd f0 k (nI 0)) (by first | assumption | omega | (simp; done)) (by intro j hj; rcases Nat.lt_or_ge j k with h | h; rw [pk_un (by omega)]; exact hf0 j h; rw [show j = k from by omega]; exact pk_us) (by omega)
  refine KW.loc (lv' := [(4, .int (nI 0)), (0, .ref (a 0)), (1, .int ox), (2, .int (dI (sk % 3))), (3, .int (dI (sk / 3)))]) [0, 1, 2, 3, 4] rfl ?_
  exact L3_1 (36 - 0 + 1) 0 pf (by first | assumption | omega | (simp; done)) (by intro j hj; exact absurd hj (Nat.not_lt_zero _)) (Nat.lt_succ_self _)
