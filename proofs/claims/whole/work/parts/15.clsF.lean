set_option maxHeartbeats 4000000 in
set_option maxRecDepth 100000 in
theorem c_X1_earliestRow (l : Launch) (G : va_G) (y : Nat → ClassId) (t : Nat) (a : Nat → Nat) (Pl : Nat) (fd : Bool) (fw : Nat) (bs : Int32) (srw : Nat → Int32) (N : Nat) (sr : List Nat) (U : Nat) (hlen : sr.length ≤ 6) (hsr : ∀ j, j < sr.length → srw j = nI (sr.getD j 0) ∧ sr.getD j 0 < 8) (hN : N ≤ 6) (hU : U < 64) (sz : Nat) : Met l yX1_earliestRow (Cond.code yX1_earliestRow cX1_earliestRow 7 (some .int) :: TG) ({ frames := 0, cells := 0, slots := 0, locals := 0 }) (va_Pc [.ref (a 0), .int (nI N), .int (nI sr.length), .int (nI U)] (PR G y t (kSearch y a (nI Pl, bI fd, nI fw, bs, srw)) sz)) (va_Qi (fun (r : Int32) (u : Unit) => r = (octI (erL U N 0 sr))) (fun (u : Unit) t => PO G (va_A (kSearch y a (nI Pl, bI fd, nI fw, bs, srw)) sz) (kSearch y a (nI Pl, bI fd, nI fw, bs, srw)) t) (va_A (kSearch y a (nI Pl, bI fd, nI fw, bs, srw)) sz)) 0 0 (va_A (kSearch y a (nI Pl, bI fd, nI fw, bs, srw)) sz) := by
  refine kMet (cc := cX1_earliestRow) (maxL := 7) (ret := some .int) (Qc := fun A => va_Qi (fun (r : Int32) (u : Unit) => r = (octI (erL U N 0 sr))) (fun (u : Unit) t => PO G A (kSearch y a (nI Pl, bI fd, nI fw, bs, srw)) t) A) (by decide) rfl (Nat.le_of_ble_eq_true rfl) (fun p e s m below meth c A hsz C hin => ?_)
  refine KW.loc (lv' := [(0, .ref (a 0)), (1, .int (nI N)), (2, .int (nI sr.length)), (3, .int (nI U))]) [0, 1, 2, 3] rfl ?_
  refine kw_iconst (v := nI 0) C dX1_earliestRow_0 (by decide) ?_
  refine kw_istore C [(4, .int (nI 0)), (0, .ref (a 0)), (1, .int (nI N)), (2, .int (nI sr.length)), (3, .int (nI U))] dX1_earliestRow_1 (by decide) rfl ?_
  refine kw_iconst (v := nI 0) C dX1_earliestRow_3 (by decide) ?_
  refine kw_istore C [(5, .int (nI 0)), (4, .int (nI 0)), (0, .ref (a 0)), (1, .int (nI N)), (2, .int (nI sr.length)), (3, .int (nI U))] dX1_earliestRow_4 (by decide) rfl ?_
  refine kw_iconst (v := nI 0) C dX1_earliestRow_6 (by decide) ?_
  refine kw_istore C [(6, .int (nI 0)), (5, .int (nI 0)), (4, .int (nI 0)), (0, .ref (a 0)), (1, .int (nI N)), (2, .int (nI sr.length)), (3, .int (nI U))] dX1_earliestRow_7 (by decide) rfl ?_
  have L9_1 : ∀ (nn : Nat) (i : Nat) (os : Nat) (L0 : List Nat) (hi : i ≤ N) (hos : os ≤ sr.length) (hinv : octI (L0 ++ erL U (N - i) i (sr.drop os)) = octI (erL U N 0 sr)) (hms : N - i < nn), KW p l e ({ frames := 0, cells := 0, slots := 0, locals := 0 }) s m ([.ref (a 0), .int (nI N), .int (nI sr.length), .int (nI U)] : List Value).toArray below meth c 0 0 (MQ below (va_Qi (fun (r : Int32) (u : Unit) => r = (octI (erL U N 0 sr))) (fun (u : Unit) t => PO G A (kSearch y a (nI Pl, bI fd, nI fw, bs, srw)) t) A) ([.ref (a 0), .int (nI N), .int (nI sr.length), .int (nI U)] : List Value).toArray s 0 0 A) G A 7 (kSearch y a (nI Pl, bI fd, nI fw, bs, srw)) [(6, .int (nI i)), (5, .int (nI os)), (4, .int (octI L0)), (0, .ref (a 0)), (1, .int (nI N)), (2, .int (nI sr.length)), (3, .int (nI U))] 9 [] := by
    intro nn
    induction nn with
    | zero => intro i os L0 hi hos hinv hms; exact absurd hms (Nat.not_lt_zero _)
    | succ nn ih_9 =>
      intro i os L0 hi hos hinv hms
      refine kw_iload C 0 dX1_earliestRow_9 rfl ?_
      refine kw_iload_n C 4 dX1_earliestRow_11 rfl ?_
      refine kw_icmp_ge_N (tgt := 77) C (by omega) (by omega) dX1_earliestRow_12 (by decide) (fun c_12 => ?_) (fun c_12 => ?_)
      ·
        refine kw_iload C 1 dX1_earliestRow_77 rfl ?_
        refine kw_istore C [(6, .int (nI os)), (5, .int (nI os)), (4, .int (octI L0)), (0, .ref (a 0)), (1, .int (nI N)), (2, .int (nI sr.length)), (3, .int (nI U))] dX1_earliestRow_79 (by decide) rfl ?_
        have L81_2 : ∀ (nn : Nat) (j : Nat) (L3 : List Nat) (hj : j ≤ sr.length) (hinv3 : octI (L3 ++ sr.drop j) = octI (erL U N 0 sr)) (hms : sr.length - j < nn), KW p l e ({ frames := 0, cells := 0, slots := 0, locals := 0 }) s m ([.ref (a 0), .int (nI N), .int (nI sr.length), .int (nI U)] : List Value).toArray below meth c 0 0 (MQ below (va_Qi (fun (r : Int32) (u : Unit) => r = (octI (erL U N 0 sr))) (fun (u : Unit) t => PO G A (kSearch y a (nI Pl, bI fd, nI fw, bs, srw)) t) A) ([.ref (a 0), .int (nI N), .int (nI sr.length), .int (nI U)] : List Value).toArray s 0 0 A) G A 7 (kSearch y a (nI Pl, bI fd, nI fw, bs, srw)) [(6, .int (nI j)), (5, .int (nI os)), (4, .int (octI L3)), (0, .ref (a 0)), (1, .int (nI N)), (2, .int (nI sr.length)), (3, .int (nI U))] 81 [] := by
          intro nn
          induction nn with
          | zero => intro j L3 hj hinv3 hms; exact absurd hms (Nat.not_lt_zero _)
          | succ nn ih_81 =>
            intro j L3 hj hinv3 hms
            refine kw_iload C 0 dX1_earliestRow_81 rfl ?_
            refine kw_iload_n C 5 dX1_earliestRow_83 rfl ?_
            refine kw_icmp_ge_N (tgt := 107) C (by omega) (by omega) dX1_earliestRow_84 (by decide) (fun c_84 => ?_) (fun c_84 => ?_)
            ·
              refine kw_iload C 2 dX1_earliestRow_107 rfl ?_
              refine kR_i C () dX1_earliestRow_109 ?_ rfl
              rw [← hinv3, List.drop_eq_nil_of_le c_84, List.append_nil]
            ·
              refine kw_iload C 2 dX1_earliestRow_87 rfl ?_
              refine kw_iconst (v := nI 3) C dX1_earliestRow_89 (by decide) ?_
              refine kw_ishl C dX1_earliestRow_90 ?_
              refine kw_aload_n C 3 dX1_earliestRow_91 rfl ?_
              refine kw_get (v := .ref (a 1)) (T := TX1) C 0 0 rfl rfl (by decide) (fun w h => mT (fwX1 w h)) rfl (mT wd_205) rfl dX1_earliestRow_92 ?_
              refine kw_iload C 0 dX1_earliestRow_95 rfl ?_
              refine kw_iald (f := srw) C 1 rfl (by omega) (by decide) dX1_earliestRow_97 ?_
              refine kw_top (show (srw j) = (nI (sr.getD j 0)) from by exact (hsr j c_84).1) ?_
              refine kw_ior C dX1_earliestRow_98 ?_
              refine kw_istore C [(4, .int (((octI L3) <<< ((nI 3) &&& 31)) ||| (nI (sr.getD j 0)))), (6, .int (nI j)), (5, .int (nI os)), (0, .ref (a 0)), (1, .int (nI N)), (2, .int (nI sr.length)), (3, .int (nI U))] dX1_earliestRow_99 (by decide) rfl ?_
              refine kw_iinc (v := nI (j + 1)) C [(6, .int (nI (j + 1))), (4, .int (((octI L3) <<< ((nI 3) &&& 31)) ||| (nI (sr.getD j 0)))), (5, .int (nI os)), (0, .ref (a 0)), (1, .int (nI N)), (2, .int (nI sr.length)), (3, .int (nI U))] 1 dX1_earliestRow_101 rfl (nI_1 _) (by decide) rfl ?_
              refine kw_goto (tgt := 81) C dX1_earliestRow_104 (by decide) ?_
              refine KW.loc (lv' := [(6, .int (nI (j + 1))), (5, .int (nI os)), (4, .int (((octI L3) <<< ((nI 3) &&& 31)) ||| (nI (sr.getD j 0)))), (0, .ref (a 0)), (1, .int (nI N)), (2, .int (nI sr.length)), (3, .int (nI U))]) [0, 2, 1, 3, 4, 5, 6] rfl ?_
              refine KW.asl (congrArg (fun zz => ([(6, .int (nI (j + 1))), (5, .int (nI os)), (4, .int zz), (0, .ref (a 0)), (1, .int (nI N)), (2, .int (nI sr.length)), (3, .int (nI U))] : List (Nat × Value))) (show (((octI L3) <<< ((nI 3) &&& 31)) ||| (nI (sr.getD j 0))) = (octI (L3 ++ [sr.getD j 0])) from by exact (octI_app _ _).symm)) ?_
              exact ih_81 (j + 1) (L3 ++ [sr.getD j 0]) (by first | assumption | omega | (simp; done)) (by rw [← app_cons, ← drop_cons c_84]; exact hinv3) (by omega)
        refine KW.loc (lv' := [(6, .int (nI os)), (5, .int (nI os)), (4, .int (octI L0)), (0, .ref (a 0)), (1, .int (nI N)), (2, .int (nI sr.length)), (3, .int (nI U))]) [0, 1, 2, 3, 4, 5, 6] rfl ?_
        exact L81_2 (sr.length - os + 1) os L0 (by first | assumption | omega | (simp; done)) (by rw [← hinv, show N - i = 0 from by omega]; rfl) (Nat.lt_succ_self _)
      ·
        have hne : N - i = (N - (i + 1)) + 1 := by omega
        refine kw_iload_n C 6 dX1_earliestRow_15 rfl ?_
        refine kw_iload C 0 dX1_earliestRow_16 rfl ?_
        refine kw_ishr C dX1_earliestRow_18 (kw_top (n_shr (by omega) (by omega)) ?_)
        refine kw_iconst (v := nI 1) C dX1_earliestRow_19 (by decide) ?_
        refine kw_iand C dX1_earliestRow_20 (kw_top (n_and _ _) ?_)
        refine kw_if_ne_N (tgt := 71) C (by exact Nat.lt_of_le_of_lt Nat.and_le_right (by omega)) dX1_earliestRow_21 (by decide) (fun c_21 => ?_) (fun c_21 => ?_)
        ·
          have hin2 : octI (L0 ++ erL U (N - (i + 1)) (i + 1) (sr.drop os)) = octI (erL U N 0 sr) := by rw [← hinv, hne]; simp only [erL]; rw [if_pos (tbd_t c_21)]
          refine kw_iinc (v := nI (i + 1)) C [(6, .int (nI (i + 1))), (5, .int (nI os)), (4, .int (octI L0)), (0, .ref (a 0)), (1, .int (nI N)), (2, .int (nI sr.length)), (3, .int (nI U))] 0 dX1_earliestRow_71 rfl (nI_1 _) (by decide) rfl ?_
          refine kw_goto (tgt := 9) C dX1_earliestRow_74 (by decide) ?_
          refine KW.loc (lv' := [(6, .int (nI (i + 1))), (5, .int (nI os)), (4, .int (octI L0)), (0, .ref (a 0)), (1, .int (nI N)), (2, .int (nI sr.length)), (3, .int (nI U))]) [0, 1, 2, 3, 4, 5, 6] rfl ?_
          exact ih_9 (i + 1) os L0 (by first | assumption | omega | (simp; done)) (by first | assumption | omega | (simp; done)) (by first | exact hin2 | exact hin3) (by omega)
        ·
          have hin1 : octI (L0 ++ erS i (erL U (N - (i + 1)) (i + 1)) (sr.drop os)) = octI (erL U N 0 sr) := by rw [← hinv, hne]; simp only [erL]; rw [if_neg (by rw [tbd_f c_21]; decide)]
          have L24_3 : ∀ (nn : Nat) (o2 : Nat) (L2 : List Nat) (ho2 : o2 ≤ sr.length) (hinv2 : octI (L2 ++ erS i (erL U (N - (i + 1)) (i + 1)) (sr.drop o2)) = octI (erL U N 0 sr)) (hms : sr.length - o2 < nn), KW p l e ({ frames := 0, cells := 0, slots := 0, locals := 0 }) s m ([.ref (a 0), .int (nI N), .int (nI sr.length), .int (nI U)] : List Value).toArray below meth c 0 0 (MQ below (va_Qi (fun (r : Int32) (u : Unit) => r = (octI (erL U N 0 sr))) (fun (u : Unit) t => PO G A (kSearch y a (nI Pl, bI fd, nI fw, bs, srw)) t) A) ([.ref (a 0), .int (nI N), .int (nI sr.length), .int (nI U)] : List Value).toArray s 0 0 A) G A 7 (kSearch y a (nI Pl, bI fd, nI fw, bs, srw)) [(6, .int (nI i)), (5, .int (nI o2)), (4, .int (octI L2)), (0, .ref (a 0)), (1, .int (nI N)), (2, .int (nI sr.length)), (3, .int (nI U))] 24 [] := by
            intro nn
            induction nn with
            | zero => intro o2 L2 ho2 hinv2 hms; exact absurd hms (Nat.not_lt_zero _)
            | succ nn ih_24 =>
              intro o2 L2 ho2 hinv2 hms
              refine kw_iload C 1 dX1_earliestRow_24 rfl ?_
              refine kw_iload_n C 5 dX1_earliestRow_26 rfl ?_
              refine kw_icmp_ge_N (tgt := 62) C (by omega) (by omega) dX1_earliestRow_27 (by decide) (fun c_27 => ?_) (fun c_27 => ?_)
              ·
                have hin3 : octI ((L2 ++ [i]) ++ erL U (N - (i + 1)) (i + 1) (sr.drop o2)) = octI (erL U N 0 sr) := by rw [← app_cons, ← hinv2, List.drop_eq_nil_of_le c_27]; rfl
                refine kw_iload C 2 dX1_earliestRow_62 rfl ?_
                refine kw_iconst (v := nI 3) C dX1_earliestRow_64 (by decide) ?_
                refine kw_ishl C dX1_earliestRow_65 ?_
                refine kw_iload C 0 dX1_earliestRow_66 rfl ?_
                refine kw_ior C dX1_earliestRow_68 ?_
                refine kw_top (show (((octI L2) <<< ((nI 3) &&& 31)) ||| (nI i)) = (octI (L2 ++ [i])) from by exact (octI_app _ _).symm) ?_
                refine kw_istore C [(4, .int (octI (L2 ++ [i]))), (6, .int (nI i)), (5, .int (nI o2)), (0, .ref (a 0)), (1, .int (nI N)), (2, .int (nI sr.length)), (3, .int (nI U))] dX1_earliestRow_69 (by decide) rfl ?_
                refine kw_iinc (v := nI (i + 1)) C [(6, .int (nI (i + 1))), (4, .int (octI (L2 ++ [i]))), (5, .int (nI o2)), (0, .ref (a 0)), (1, .int (nI N)), (2, .int (nI sr.length)), (3, .int (nI U))] 1 dX1_earliestRow_71 rfl (nI_1 _) (by decide) rfl ?_
                refine kw_goto (tgt := 9) C dX1_earliestRow_74 (by decide) ?_
                refine KW.loc (lv' := [(6, .int (nI (i + 1))), (5, .int (nI o2)), (4, .int (octI (L2 ++ [i]))), (0, .ref (a 0)), (1, .int (nI N)), (2, .int (nI sr.length)), (3, .int (nI U))]) [0, 2, 1, 3, 4, 5, 6] rfl ?_
                exact ih_9 (i + 1) o2 (L2 ++ [i]) (by first | assumption | omega | (simp; done)) (by first | assumption | omega | (simp; done)) (by first | exact hin2 | exact hin3) (by omega)
              ·
                refine kw_aload_n C 3 dX1_earliestRow_30 rfl ?_
                refine kw_get (v := .ref (a 1)) (T := TX1) C 0 0 rfl rfl (by decide) (fun w h => mT (fwX1 w h)) rfl (mT wd_205) rfl dX1_earliestRow_31 ?_
                refine kw_iload C 1 dX1_earliestRow_34 rfl ?_
                refine kw_iald (f := srw) C 1 rfl (by omega) (by decide) dX1_earliestRow_36 ?_
                refine kw_top (show (srw o2) = (nI (sr.getD o2 0)) from by exact (hsr o2 c_27).1) ?_
                have hs8 := (hsr o2 c_27).2
                refine kw_iload C 0 dX1_earliestRow_37 rfl ?_
                refine kw_icmp_ge_N (tgt := 62) C (by omega) (by omega) dX1_earliestRow_39 (by decide) (fun c_39 => ?_) (fun c_39 => ?_)
                ·
                  have hin3 : octI ((L2 ++ [i]) ++ erL U (N - (i + 1)) (i + 1) (sr.drop o2)) = octI (erL U N 0 sr) := by rw [← app_cons, ← hinv2, drop_cons c_27]; simp only [erS]; rw [if_neg (by omega)]
                  refine kw_iload C 2 dX1_earliestRow_62 rfl ?_
                  refine kw_iconst (v := nI 3) C dX1_earliestRow_64 (by decide) ?_
                  refine kw_ishl C dX1_earliestRow_65 ?_
                  refine kw_iload C 0 dX1_earliestRow_66 rfl ?_
                  refine kw_ior C dX1_earliestRow_68 ?_
                  refine kw_top (show (((octI L2) <<< ((nI 3) &&& 31)) ||| (nI i)) = (octI (L2 ++ [i])) from by exact (octI_app _ _).symm) ?_
                  refine kw_istore C [(4, .int (octI (L2 ++ [i]))), (6, .int (nI i)), (5, .int (nI o2)), (0, .ref (a 0)), (1, .int (nI N)), (2, .int (nI sr.length)), (3, .int (nI U))] dX1_earliestRow_69 (by decide) rfl ?_
                  refine kw_iinc (v := nI (i + 1)) C [(6, .int (nI (i + 1))), (4, .int (octI (L2 ++ [i]))), (5, .int (nI o2)), (0, .ref (a 0)), (1, .int (nI N)), (2, .int (nI sr.length)), (3, .int (nI U))] 1 dX1_earliestRow_71 rfl (nI_1 _) (by decide) rfl ?_
                  refine kw_goto (tgt := 9) C dX1_earliestRow_74 (by decide) ?_
                  refine KW.loc (lv' := [(6, .int (nI (i + 1))), (5, .int (nI o2)), (4, .int (octI (L2 ++ [i]))), (0, .ref (a 0)), (1, .int (nI N)), (2, .int (nI sr.length)), (3, .int (nI U))]) [0, 2, 1, 3, 4, 5, 6] rfl ?_
                  exact ih_9 (i + 1) o2 (L2 ++ [i]) (by first | assumption | omega | (simp; done)) (by first | assumption | omega | (simp; done)) (by first | exact hin2 | exact hin3) (by omega)
                ·
                  refine kw_iload C 2 dX1_earliestRow_42 rfl ?_
                  refine kw_iconst (v := nI 3) C dX1_earliestRow_44 (by decide) ?_
                  refine kw_ishl C dX1_earliestRow_45 ?_
                  refine kw_aload_n C 3 dX1_earliestRow_46 rfl ?_
                  refine kw_get (v := .ref (a 1)) (T := TX1) C 0 0 rfl rfl (by decide) (fun w h => mT (fwX1 w h)) rfl (mT wd_205) rfl dX1_earliestRow_47 ?_
                  refine kw_iload C 1 dX1_earliestRow_50 rfl ?_
                  refine kw_iald (f := srw) C 1 rfl (by omega) (by decide) dX1_earliestRow_52 ?_
                  refine kw_top (show (srw o2) = (nI (sr.getD o2 0)) from by exact (hsr o2 c_27).1) ?_
                  refine kw_ior C dX1_earliestRow_53 ?_
                  refine kw_istore C [(4, .int (((octI L2) <<< ((nI 3) &&& 31)) ||| (nI (sr.getD o2 0)))), (6, .int (nI i)), (5, .int (nI o2)), (0, .ref (a 0)), (1, .int (nI N)), (2, .int (nI sr.length)), (3, .int (nI U))] dX1_earliestRow_54 (by decide) rfl ?_
                  refine kw_iinc (v := nI (o2 + 1)) C [(5, .int (nI (o2 + 1))), (4, .int (((octI L2) <<< ((nI 3) &&& 31)) ||| (nI (sr.getD o2 0)))), (6, .int (nI i)), (0, .ref (a 0)), (1, .int (nI N)), (2, .int (nI sr.length)), (3, .int (nI U))] 2 dX1_earliestRow_56 rfl (nI_1 _) (by decide) rfl ?_
                  refine kw_goto (tgt := 24) C dX1_earliestRow_59 (by decide) ?_
                  refine KW.loc (lv' := [(6, .int (nI i)), (5, .int (nI (o2 + 1))), (4, .int (((octI L2) <<< ((nI 3) &&& 31)) ||| (nI (sr.getD o2 0)))), (0, .ref (a 0)), (1, .int (nI N)), (2, .int (nI sr.length)), (3, .int (nI U))]) [2, 0, 1, 3, 4, 5, 6] rfl ?_
                  refine KW.asl (congrArg (fun zz => ([(6, .int (nI i)), (5, .int (nI (o2 + 1))), (4, .int zz), (0, .ref (a 0)), (1, .int (nI N)), (2, .int (nI sr.length)), (3, .int (nI U))] : List (Nat × Value))) (show (((octI L2) <<< ((nI 3) &&& 31)) ||| (nI (sr.getD o2 0))) = (octI (L2 ++ [sr.getD o2 0])) from by exact (octI_app _ _).symm)) ?_
                  exact ih_24 (o2 + 1) (L2 ++ [sr.getD o2 0]) (by first | assumption | omega | (simp; done)) (by rw [← app_cons, ← hinv2, drop_cons c_27]; simp only [erS]; rw [if_pos c_39]) (by omega)
          refine KW.loc (lv' := [(6, .int (nI i)), (5, .int (nI os)), (4, .int (octI L0)), (0, .ref (a 0)), (1, .int (nI N)), (2, .int (nI sr.length)), (3, .int (nI U))]) [0, 1, 2, 3, 4, 5, 6] rfl ?_
          exact L24_3 (sr.length - os + 1) os L0 (by first | assumption | omega | (simp; done)) (by exact hin1) (Nat.lt_succ_self _)
  refine KW.loc (lv' := [(6, .int (nI 0)), (5, .int (nI 0)), (4, .int (nI 0)), (0, .ref (a 0)), (1, .int (nI N)), (2, .int (nI sr.length)), (3, .int (nI U))]) [0, 1, 2, 3, 4, 5, 6] rfl ?_
  refine KW.asl (congrArg (fun zz => ([(6, .int (nI 0)), (5, .int (nI 0)), (4, .int zz), (0, .ref (a 0)), (1, .int (nI N)), (2, .int (nI sr.length)), (3, .int (nI U))] : List (Nat × Value))) (show (nI 0) = (octI ([])) from by rfl)) ?_
  exact L9_1 (N - 0 + 1) 0 0 ([]) (by first | assumption | omega | (simp; done)) (by first | assumption | omega | (simp; done)) (by rfl) (Nat.lt_succ_self _)

set_option maxHeartbeats 4000000 in
set_option maxRecDepth 100000 in
theorem c_X1_settle (l : Launch) (G : va_G) (y : Nat → ClassId) (t : Nat) (a : Nat → Nat) (Pl : Nat) (fd : Bool) (fw : Nat) (bs : Int32) (srw : Nat → Int32) (N : Nat) (sr : List Nat) (U : Nat) (hlen : sr.length ≤ 6) (hsr : ∀ j, j < sr.length → srw j = nI (sr.getD j 0) ∧ sr.getD j 0 < 8) (hN : N ≤ 6) (hU : U < 64) (hfw : fw ≤ 6) (sz : Nat) : Met l yX1_settle (Cond.code yX1_settle cX1_settle 5 (none) :: TG) ({ frames := 1, cells := 0, slots := 0, locals := 26 }) (va_Pc [.ref (a 0), .int (nI N), .int (nI sr.length), .int (nI U)] (PR G y t (kSearch y a (nI Pl, bI fd, nI fw, bs, srw)) sz)) (va_Qv (fun (u : Bool × Nat × Int32) => (u.1, u.2.1, u.2.2) = stlF (fd, fw, bs) sr.length (octI (erL U N 0 sr))) (fun (u : Bool × Nat × Int32) t => PO G (va_A (kSearch y a (nI Pl, bI fd, nI fw, bs, srw)) sz) (kSearch y a (nI Pl, bI u.1, nI u.2.1, u.2.2, srw)) t) (va_A (kSearch y a (nI Pl, bI fd, nI fw, bs, srw)) sz)) 0 0 (va_A (kSearch y a (nI Pl, bI fd, nI fw, bs, srw)) sz) := by
  refine kMet (cc := cX1_settle) (maxL := 5) (ret := none) (Qc := fun A => va_Qv (fun (u : Bool × Nat × Int32) => (u.1, u.2.1, u.2.2) = stlF (fd, fw, bs) sr.length (octI (erL U N 0 sr))) (fun (u : Bool × Nat × Int32) t => PO G A (kSearch y a (nI Pl, bI u.1, nI u.2.1, u.2.2, srw)) t) A) (by decide) rfl (Nat.le_of_ble_eq_true rfl) (fun p e s m below meth c A hsz C hin => ?_)
  refine KW.loc (lv' := [(0, .ref (a 0)), (1, .int (nI N)), (2, .int (nI sr.length)), (3, .int (nI U))]) [0, 1, 2, 3] rfl ?_
  refine kw_aload_n C 0 dX1_settle_0 rfl ?_
  refine kw_iload_n C 1 dX1_settle_1 rfl ?_
  refine kw_iload_n C 2 dX1_settle_2 rfl ?_
  refine kw_iload_n C 3 dX1_settle_3 rfl ?_
  refine kV_i (As := [.int (nI N), .int (nI sr.length), .int (nI U)]) (rest := []) (ws' := fun (u : Unit) => kSearch y a (nI Pl, bI fd, nI fw, bs, srw)) C (c_X1_earliestRow l G y t a Pl fd fw bs srw N sr U (by first | assumption | omega | decide) (by first | assumption | omega | decide) (by first | assumption | omega | decide) (by first | assumption | omega | decide)) (cwV 3 C.2.2.2.2.1 (goodV cT wd_514 wd_511 wd_513 wd_8 wd_47) rfl rfl rfl (by decide +kernel) ⟨by decide, by decide⟩) [0, 1] [] [0, 1] rfl (by decide) rfl (by decide) (by decide) (fun _ => rfl) (by decide) 0 rfl rfl rfl (Nat.le_of_ble_eq_true rfl) ⟨by decide, by decide⟩ dX1_settle_4 (fun r u hr_1 => ?_)
  subst hr_1
  refine kw_istore C [(4, .int (octI (erL U N 0 sr))), (0, .ref (a 0)), (1, .int (nI N)), (2, .int (nI sr.length)), (3, .int (nI U))] dX1_settle_7 (by decide) rfl ?_
  refine kw_aload_n C 1 dX1_settle_9 rfl ?_
  refine kw_get (v := .int (bI fd)) (T := TX1) C 0 2 rfl rfl (by decide) (fun w h => mT (fwX1 w h)) rfl (mT wd_207) rfl dX1_settle_10 ?_
  refine kw_if_eq_B (tgt := 41) C dX1_settle_13 (by decide) (fun c_13 => ?_) (fun c_13 => ?_)
  ·
    refine kw_aload_n C 1 dX1_settle_41 rfl ?_
    refine kw_iconst (v := nI 1) C dX1_settle_42 (by decide) ?_
    refine kw_put (T := TX1) (ty := .boolean) C 0 2 (kSearch y a (nI Pl, nI 1, nI fw, bs, srw)) rfl rfl (by decide) (fun w h => mT (fwX1 w h)) tyX1 tyX1_ok nmX1 rfl (mT wd_207) rfl (by decide +kernel) (by first | decide | exact bI_z _ | rfl) (by first | decide | exact bI_fit _ | rfl) (Nat.le_of_ble_eq_true rfl) dX1_settle_43 rfl ?_
    refine kw_aload_n C 1 dX1_settle_46 rfl ?_
    refine kw_iload_n C 3 dX1_settle_47 rfl ?_
    refine kw_put (T := TX1) (ty := .int) C 0 3 (kSearch y a (nI Pl, nI 1, nI sr.length, bs, srw)) rfl rfl (by decide) (fun w h => mT (fwX1 w h)) tyX1 tyX1_ok nmX1 rfl (mT wd_209) rfl (by decide +kernel) rfl rfl (Nat.le_of_ble_eq_true rfl) dX1_settle_48 rfl ?_
    refine kw_aload_n C 1 dX1_settle_51 rfl ?_
    refine kw_iload C 0 dX1_settle_52 rfl ?_
    refine kw_put (T := TX1) (ty := .int) C 0 4 (kSearch y a (nI Pl, nI 1, nI sr.length, octI (erL U N 0 sr), srw)) rfl rfl (by decide) (fun w h => mT (fwX1 w h)) tyX1 tyX1_ok nmX1 rfl (mT wd_211) rfl (by decide +kernel) rfl rfl (Nat.le_of_ble_eq_true rfl) dX1_settle_54 rfl ?_
    refine kR_v C (true, sr.length, octI (erL U N 0 sr)) dX1_settle_57 ?_ rfl
    simp only [stlF]
    first | (rw [if_pos (Or.inl c_13)]; done) | (rw [if_pos (Or.inr (Or.inl c_21))]; done) | (rw [if_pos (Or.inr (Or.inr (And.intro c_29 (not_le32 c_38))))]; done) | (rw [if_neg]; intro h; rcases h with h | h | h; exact absurd h (by rw [c_13]; decide); omega; exact c_29 h.1) | (rw [if_neg]; intro h; rcases h with h | h | h; exact absurd h (by rw [c_13]; decide); omega; exact absurd h.2 (Int32.not_lt.mpr c_38))
  ·
    refine kw_iload_n C 3 dX1_settle_16 rfl ?_
    refine kw_aload_n C 1 dX1_settle_17 rfl ?_
    refine kw_get (v := .int (nI fw)) (T := TX1) C 0 3 rfl rfl (by decide) (fun w h => mT (fwX1 w h)) rfl (mT wd_209) rfl dX1_settle_18 ?_
    refine kw_icmp_lt_N (tgt := 41) C (by omega) (by omega) dX1_settle_21 (by decide) (fun c_21 => ?_) (fun c_21 => ?_)
    ·
      refine kw_aload_n C 1 dX1_settle_41 rfl ?_
      refine kw_iconst (v := nI 1) C dX1_settle_42 (by decide) ?_
      refine kw_put (T := TX1) (ty := .boolean) C 0 2 (kSearch y a (nI Pl, nI 1, nI fw, bs, srw)) rfl rfl (by decide) (fun w h => mT (fwX1 w h)) tyX1 tyX1_ok nmX1 rfl (mT wd_207) rfl (by decide +kernel) (by first | decide | exact bI_z _ | rfl) (by first | decide | exact bI_fit _ | rfl) (Nat.le_of_ble_eq_true rfl) dX1_settle_43 rfl ?_
      refine kw_aload_n C 1 dX1_settle_46 rfl ?_
      refine kw_iload_n C 3 dX1_settle_47 rfl ?_
      refine kw_put (T := TX1) (ty := .int) C 0 3 (kSearch y a (nI Pl, nI 1, nI sr.length, bs, srw)) rfl rfl (by decide) (fun w h => mT (fwX1 w h)) tyX1 tyX1_ok nmX1 rfl (mT wd_209) rfl (by decide +kernel) rfl rfl (Nat.le_of_ble_eq_true rfl) dX1_settle_48 rfl ?_
      refine kw_aload_n C 1 dX1_settle_51 rfl ?_
      refine kw_iload C 0 dX1_settle_52 rfl ?_
      refine kw_put (T := TX1) (ty := .int) C 0 4 (kSearch y a (nI Pl, nI 1, nI sr.length, octI (erL U N 0 sr), srw)) rfl rfl (by decide) (fun w h => mT (fwX1 w h)) tyX1 tyX1_ok nmX1 rfl (mT wd_211) rfl (by decide +kernel) rfl rfl (Nat.le_of_ble_eq_true rfl) dX1_settle_54 rfl ?_
      refine kR_v C (true, sr.length, octI (erL U N 0 sr)) dX1_settle_57 ?_ rfl
      simp only [stlF]
      first | (rw [if_pos (Or.inl c_13)]; done) | (rw [if_pos (Or.inr (Or.inl c_21))]; done) | (rw [if_pos (Or.inr (Or.inr (And.intro c_29 (not_le32 c_38))))]; done) | (rw [if_neg]; intro h; rcases h with h | h | h; exact absurd h (by rw [c_13]; decide); omega; exact c_29 h.1) | (rw [if_neg]; intro h; rcases h with h | h | h; exact absurd h (by rw [c_13]; decide); omega; exact absurd h.2 (Int32.not_lt.mpr c_38))
    ·
      refine kw_iload_n C 3 dX1_settle_24 rfl ?_
      refine kw_aload_n C 1 dX1_settle_25 rfl ?_
      refine kw_get (v := .int (nI fw)) (T := TX1) C 0 3 rfl rfl (by decide) (fun w h => mT (fwX1 w h)) rfl (mT wd_209) rfl dX1_settle_26 ?_
      refine kw_icmp_ne_N (tgt := 57) C (by omega) (by omega) dX1_settle_29 (by decide) (fun c_29 => ?_) (fun c_29 => ?_)
      ·
        refine kR_v C (fd, fw, bs) dX1_settle_57 ?_ rfl
        simp only [stlF]
        first | (rw [if_pos (Or.inl c_13)]; done) | (rw [if_pos (Or.inr (Or.inl c_21))]; done) | (rw [if_pos (Or.inr (Or.inr (And.intro c_29 (not_le32 c_38))))]; done) | (rw [if_neg]; intro h; rcases h with h | h | h; exact absurd h (by rw [c_13]; decide); omega; exact c_29 h.1) | (rw [if_neg]; intro h; rcases h with h | h | h; exact absurd h (by rw [c_13]; decide); omega; exact absurd h.2 (Int32.not_lt.mpr c_38))
      ·
        refine kw_iload C 0 dX1_settle_32 rfl ?_
        refine kw_aload_n C 1 dX1_settle_34 rfl ?_
        refine kw_get (v := .int bs) (T := TX1) C 0 4 rfl rfl (by decide) (fun w h => mT (fwX1 w h)) rfl (mT wd_211) rfl dX1_settle_35 ?_
        refine kw_icmp_ge (tgt := 57) C dX1_settle_38 (by decide) (fun c_38 => ?_) (fun c_38 => ?_)
        ·
          refine kR_v C (fd, fw, bs) dX1_settle_57 ?_ rfl
          simp only [stlF]
          first | (rw [if_pos (Or.inl c_13)]; done) | (rw [if_pos (Or.inr (Or.inl c_21))]; done) | (rw [if_pos (Or.inr (Or.inr (And.intro c_29 (not_le32 c_38))))]; done) | (rw [if_neg]; intro h; rcases h with h | h | h; exact absurd h (by rw [c_13]; decide); omega; exact c_29 h.1) | (rw [if_neg]; intro h; rcases h with h | h | h; exact absurd h (by rw [c_13]; decide); omega; exact absurd h.2 (Int32.not_lt.mpr c_38))
        ·
          refine kw_aload_n C 1 dX1_settle_41 rfl ?_
          refine kw_iconst (v := nI 1) C dX1_settle_42 (by decide) ?_
          refine kw_put (T := TX1) (ty := .boolean) C 0 2 (kSearch y a (nI Pl, nI 1, nI fw, bs, srw)) rfl rfl (by decide) (fun w h => mT (fwX1 w h)) tyX1 tyX1_ok nmX1 rfl (mT wd_207) rfl (by decide +kernel) (by first | decide | exact bI_z _ | rfl) (by first | decide | exact bI_fit _ | rfl) (Nat.le_of_ble_eq_true rfl) dX1_settle_43 rfl ?_
          refine kw_aload_n C 1 dX1_settle_46 rfl ?_
          refine kw_iload_n C 3 dX1_settle_47 rfl ?_
          refine kw_put (T := TX1) (ty := .int) C 0 3 (kSearch y a (nI Pl, nI 1, nI sr.length, bs, srw)) rfl rfl (by decide) (fun w h => mT (fwX1 w h)) tyX1 tyX1_ok nmX1 rfl (mT wd_209) rfl (by decide +kernel) rfl rfl (Nat.le_of_ble_eq_true rfl) dX1_settle_48 rfl ?_
          refine kw_aload_n C 1 dX1_settle_51 rfl ?_
          refine kw_iload C 0 dX1_settle_52 rfl ?_
          refine kw_put (T := TX1) (ty := .int) C 0 4 (kSearch y a (nI Pl, nI 1, nI sr.length, octI (erL U N 0 sr), srw)) rfl rfl (by decide) (fun w h => mT (fwX1 w h)) tyX1 tyX1_ok nmX1 rfl (mT wd_211) rfl (by decide +kernel) rfl rfl (Nat.le_of_ble_eq_true rfl) dX1_settle_54 rfl ?_
          refine kR_v C (true, sr.length, octI (erL U N 0 sr)) dX1_settle_57 ?_ rfl
          simp only [stlF]
          first | (rw [if_pos (Or.inl c_13)]; done) | (rw [if_pos (Or.inr (Or.inl c_21))]; done) | (rw [if_pos (Or.inr (Or.inr (And.intro c_29 (not_le32 c_38))))]; done) | (rw [if_neg]; intro h; rcases h with h | h | h; exact absurd h (by rw [c_13]; decide); omega; exact c_29 h.1) | (rw [if_neg]; intro h; rcases h with h | h | h; exact absurd h (by rw [c_13]; decide); omega; exact absurd h.2 (Int32.not_lt.mpr c_38))

set_option maxHeartbeats 4000000 in
set_option maxRecDepth 100000 in
theorem c_X1_grow_step (l : Launch) (G : va_G) (y : Nat → ClassId) (t : Nat) (d : Nat) (ihd : ∀ d' : Nat, d' < d → ∀ (a : Nat → Nat) (Pl : Nat) (fd : Bool) (fw : Nat) (bs : Int32) (srw : Nat → Int32) (a2 : Nat → Nat) (W : Nat) (H : Nat) (N : Nat) (D : Nat) (p1 : Int64) (p2 : Int64) (p3 : Int64) (col : Nat → Int32) (od : Nat → Int32) (blk : Nat → Int64) (slp : Nat → Int32) (o : Nat → Nat) (cl : Nat → Nat) (kk : Nat → Nat) (sr : List Nat) (U : Nat) (cv : Nat) (hlen : sr.length ≤ 6) (hsr : ∀ j, j < sr.length → srw j = nI (sr.getD j 0) ∧ sr.getD j 0 < 8) (hN : N ≤ 6) (hU : U < 64) (hD : D < 64) (hod : ∀ q, q < N → od q = nI (o q) ∧ o q < N) (hcol : ∀ i, i < N → col i = nI (cl i) ∧ cl i < 8) (hcv : cv < 256) (hfw : fw ≤ 6) (hdd : N ≤ sr.length + d') (sz : Nat), Met l yX1_grow (Cond.code yX1_grow cX1_grow 7 (none) :: TG) ({ frames := d' + 2, cells := 0, slots := 0, locals := 26 * d' + 60 }) (va_Pc [.ref (a 0), .ref (a2 0), .int (nI sr.length), .int (nI U), .int (nI cv)] (PR G y t (kSearch y a (nI Pl, bI fd, nI fw, bs, srw) ++ kWork y a2 (nI W, nI H, nI N, nI D, p1, p2, p3, col, od, blk, slp)) sz)) (va_Qv (fun (u : Bool × Nat × Int32 × (Nat → Int32)) => (u.1, u.2.1, u.2.2.1) = grF N D Pl cl d' (sr) (U) (cv) (fd, fw, bs) ∧ u.2.1 ≤ 6 ∧ ∀ j, j < sr.length → u.2.2.2 j = srw j) (fun (u : Bool × Nat × Int32 × (Nat → Int32)) t => PO G (va_A (kSearch y a (nI Pl, bI fd, nI fw, bs, srw) ++ kWork y a2 (nI W, nI H, nI N, nI D, p1, p2, p3, col, od, blk, slp)) sz) (kSearch y a (nI Pl, bI u.1, nI u.2.1, u.2.2.1, u.2.2.2) ++ kWork y a2 (nI W, nI H, nI N, nI D, p1, p2, p3, col, od, blk, slp)) t) (va_A (kSearch y a (nI Pl, bI fd, nI fw, bs, srw) ++ kWork y a2 (nI W, nI H, nI N, nI D, p1, p2, p3, col, od, blk, slp)) sz)) 0 0 (va_A (kSearch y a (nI Pl, bI fd, nI fw, bs, srw) ++ kWork y a2 (nI W, nI H, nI N, nI D, p1, p2, p3, col, od, blk, slp)) sz)) : ∀ (a : Nat → Nat) (Pl : Nat) (fd : Bool) (fw : Nat) (bs : Int32) (srw : Nat → Int32) (a2 : Nat → Nat) (W : Nat) (H : Nat) (N : Nat) (D : Nat) (p1 : Int64) (p2 : Int64) (p3 : Int64) (col : Nat → Int32) (od : Nat → Int32) (blk : Nat → Int64) (slp : Nat → Int32) (o : Nat → Nat) (cl : Nat → Nat) (kk : Nat → Nat) (sr : List Nat) (U : Nat) (cv : Nat) (hlen : sr.length ≤ 6) (hsr : ∀ j, j < sr.length → srw j = nI (sr.getD j 0) ∧ sr.getD j 0 < 8) (hN : N ≤ 6) (hU : U < 64) (hD : D < 64) (hod : ∀ q, q < N → od q = nI (o q) ∧ o q < N) (hcol : ∀ i, i < N → col i = nI (cl i) ∧ cl i < 8) (hcv : cv < 256) (hfw : fw ≤ 6) (hdd : N ≤ sr.length + d) (sz : Nat), Met l yX1_grow (Cond.code yX1_grow cX1_grow 7 (none) :: TG) ({ frames := d + 2, cells := 0, slots := 0, locals := 26 * d + 60 }) (va_Pc [.ref (a 0), .ref (a2 0), .int (nI sr.length), .int (nI U), .int (nI cv)] (PR G y t (kSearch y a (nI Pl, bI fd, nI fw, bs, srw) ++ kWork y a2 (nI W, nI H, nI N, nI D, p1, p2, p3, col, od, blk, slp)) sz)) (va_Qv (fun (u : Bool × Nat × Int32 × (Nat → Int32)) => (u.1, u.2.1, u.2.2.1) = grF N D Pl cl d (sr) (U) (cv) (fd, fw, bs) ∧ u.2.1 ≤ 6 ∧ ∀ j, j < sr.length → u.2.2.2 j = srw j) (fun (u : Bool × Nat × Int32 × (Nat → Int32)) t => PO G (va_A (kSearch y a (nI Pl, bI fd, nI fw, bs, srw) ++ kWork y a2 (nI W, nI H, nI N, nI D, p1, p2, p3, col, od, blk, slp)) sz) (kSearch y a (nI Pl, bI u.1, nI u.2.1, u.2.2.1, u.2.2.2) ++ kWork y a2 (nI W, nI H, nI N, nI D, p1, p2, p3, col, od, blk, slp)) t) (va_A (kSearch y a (nI Pl, bI fd, nI fw, bs, srw) ++ kWork y a2 (nI W, nI H, nI N, nI D, p1, p2, p3, col, od, blk, slp)) sz)) 0 0 (va_A (kSearch y a (nI Pl, bI fd, nI fw, bs, srw) ++ kWork y a2 (nI W, nI H, nI N, nI D, p1, p2, p3, col, od, blk, slp)) sz) := by
  intro a Pl fd fw bs srw a2 W H N D p1 p2 p3 col od blk slp o cl kk sr U cv hlen hsr hN hU hD hod hcol hcv hfw hdd sz
  refine kMet (cc := cX1_grow) (maxL := 7) (ret := none) (Qc := fun A => va_Qv (fun (u : Bool × Nat × Int32 × (Nat → Int32)) => (u.1, u.2.1, u.2.2.1) = grF N D Pl cl d (sr) (U) (cv) (fd, fw, bs) ∧ u.2.1 ≤ 6 ∧ ∀ j, j < sr.length → u.2.2.2 j = srw j) (fun (u : Bool × Nat × Int32 × (Nat → Int32)) t => PO G A (kSearch y a (nI Pl, bI u.1, nI u.2.1, u.2.2.1, u.2.2.2) ++ kWork y a2 (nI W, nI H, nI N, nI D, p1, p2, p3, col, od, blk, slp)) t) A) (by decide) rfl (Nat.le_of_ble_eq_true rfl) (fun p e s m below meth c A hsz C hin => ?_)
  refine KW.loc (lv' := [(0, .ref (a 0)), (1, .ref (a2 0)), (2, .int (nI sr.length)), (3, .int (nI U)), (4, .int (nI cv))]) [0, 1, 2, 3, 4] rfl ?_
  refine kw_aload_n C 0 dX1_grow_0 rfl ?_
  refine kw_get (v := .int (nI Pl)) (T := TX1) C 0 1 rfl rfl (by decide) (fun w h => mT (fwX1 w h)) rfl (mT wd_206) rfl dX1_grow_1 ?_
  refine kw_iload C 4 dX1_grow_4 rfl ?_
  refine kw_iconst (v := (-1)) C dX1_grow_6 (by decide) ?_
  refine kw_ixor C dX1_grow_7 ?_
  refine kw_iand C dX1_grow_8 ?_
  refine kw_if_ne (tgt := 23) C dX1_grow_9 (by decide) (fun c_9 => ?_) (fun c_9 => ?_)
  ·
    refine kw_iload_n C 2 dX1_grow_23 rfl ?_
    refine kw_aload_n C 1 dX1_grow_24 rfl ?_
    refine kw_getN (v := .int (nI N)) (T := TX5) C 2 2 rfl rfl (by decide) (fun w h => mT (fwX5 w h)) rfl (List.mem_of_getElem? (i := 7) rfl) rfl dX1_grow_25 ?_
    refine kw_icmp_ge_N (tgt := 46) C (by omega) (by omega) dX1_grow_28 (by decide) (fun c_28 => ?_) (fun c_28 => ?_)
    ·
      refine kR_v C (fd, fw, bs, srw) dX1_grow_46 ?_ rfl
      refine ⟨?_, hfw, fun _ _ => rfl⟩
      rw [grF_stop c_9]
      first | exact Or.inl c_28 | exact Or.inr (And.intro c_35 c_43)
    ·
      refine kw_aload_n C 0 dX1_grow_31 rfl ?_
      refine kw_get (v := .int (bI fd)) (T := TX1) C 0 2 rfl rfl (by decide) (fun w h => mT (fwX1 w h)) rfl (mT wd_207) rfl dX1_grow_32 ?_
      refine kw_if_eq_B (tgt := 47) C dX1_grow_35 (by decide) (fun c_35 => ?_) (fun c_35 => ?_)
      ·
        refine kw_iconst (v := nI 0) C dX1_grow_47 (by decide) ?_
        have hd0 : d = (d - 1) + 1 := by omega
        have hnst : ¬ (N ≤ sr.length ∨ (fd = true ∧ fw ≤ sr.length)) := by
          intro h
          rcases h with h | h
          · omega
          · first | (rw [c_35] at h; exact absurd h.1 (by decide)) | omega
        refine kw_istore C [(5, .int (nI 0)), (0, .ref (a 0)), (1, .ref (a2 0)), (2, .int (nI sr.length)), (3, .int (nI U)), (4, .int (nI cv))] dX1_grow_48 (by decide) rfl ?_
        have L50_1 : ∀ (nn : Nat) (i : Nat) (f1 : Bool) (f2 : Nat) (f3 : Int32) (f4 : Nat → Int32) (hi : i ≤ N) (hst : (f1, f2, f3) = (List.range i).foldl (grS N D Pl cl (d - 1) sr U cv) (fd, fw, bs)) (hf2 : f2 ≤ 6) (hf4 : ∀ j, j < sr.length → f4 j = srw j) (hms : N - i < nn), KW p l e ({ frames := d + 2, cells := 0, slots := 0, locals := 26 * d + 60 }) s m ([.ref (a 0), .ref (a2 0), .int (nI sr.length), .int (nI U), .int (nI cv)] : List Value).toArray below meth c 0 0 (MQ below (va_Qv (fun (u : Bool × Nat × Int32 × (Nat → Int32)) => (u.1, u.2.1, u.2.2.1) = grF N D Pl cl d (sr) (U) (cv) (fd, fw, bs) ∧ u.2.1 ≤ 6 ∧ ∀ j, j < sr.length → u.2.2.2 j = srw j) (fun (u : Bool × Nat × Int32 × (Nat → Int32)) t => PO G A (kSearch y a (nI Pl, bI u.1, nI u.2.1, u.2.2.1, u.2.2.2) ++ kWork y a2 (nI W, nI H, nI N, nI D, p1, p2, p3, col, od, blk, slp)) t) A) ([.ref (a 0), .ref (a2 0), .int (nI sr.length), .int (nI U), .int (nI cv)] : List Value).toArray s 0 0 A) G A 7 (kSearch y a (nI Pl, bI f1, nI f2, f3, f4) ++ kWork y a2 (nI W, nI H, nI N, nI D, p1, p2, p3, col, od, blk, slp)) [(5, .int (nI i)), (0, .ref (a 0)), (1, .ref (a2 0)), (2, .int (nI sr.length)), (3, .int (nI U)), (4, .int (nI cv))] 50 [] := by
          intro nn
          induction nn with
          | zero => intro i f1 f2 f3 f4 hi hst hf2 hf4 hms; exact absurd hms (Nat.not_lt_zero _)
          | succ nn ih_50 =>
            intro i f1 f2 f3 f4 hi hst hf2 hf4 hms
            refine kw_iload C 0 dX1_grow_50 rfl ?_
            refine kw_aload_n C 2 dX1_grow_52 rfl ?_
            refine kw_getN (v := .int (nI N)) (T := TX5) C 2 2 rfl rfl (by decide) (fun w h => mT (fwX5 w h)) rfl (List.mem_of_getElem? (i := 7) rfl) rfl dX1_grow_53 ?_
            refine kw_icmp_ge_N (tgt := 111) C (by omega) (by omega) dX1_grow_56 (by decide) (fun c_56 => ?_) (fun c_56 => ?_)
            ·
              refine kR_v C (f1, f2, f3, f4) dX1_grow_111 ?_ rfl
              refine ⟨?_, hf2, hf4⟩
              rw [hst, hd0, grF_loop c_9 hnst, show i = N from by omega]
              rfl
            ·
              refine kw_iload_n C 4 dX1_grow_59 rfl ?_
              refine kw_iload C 0 dX1_grow_60 rfl ?_
              refine kw_ishr C dX1_grow_62 (kw_top (n_shr (by omega) (by omega)) ?_)
              refine kw_iconst (v := nI 1) C dX1_grow_63 (by decide) ?_
              refine kw_iand C dX1_grow_64 (kw_top (n_and _ _) ?_)
              refine kw_if_ne_N (tgt := 105) C (by exact Nat.lt_of_le_of_lt Nat.and_le_right (by omega)) dX1_grow_65 (by decide) (fun c_65 => ?_) (fun c_65 => ?_)
              ·
                refine kw_iinc (v := nI (i + 1)) C [(5, .int (nI (i + 1))), (0, .ref (a 0)), (1, .ref (a2 0)), (2, .int (nI sr.length)), (3, .int (nI U)), (4, .int (nI cv))] 0 dX1_grow_105 rfl (nI_1 _) (by decide) rfl ?_
                refine kw_goto (tgt := 50) C dX1_grow_108 (by decide) ?_
                refine KW.loc (lv' := [(5, .int (nI (i + 1))), (0, .ref (a 0)), (1, .ref (a2 0)), (2, .int (nI sr.length)), (3, .int (nI U)), (4, .int (nI cv))]) [0, 1, 2, 3, 4, 5] rfl ?_
                exact ih_50 (i + 1) f1 f2 f3 f4 (by first | assumption | omega | (simp; done)) (by rw [fold_s, ← hst]; first | (simp only [grS]; rw [if_pos (tbd_t c_65)]; done) | (simp only [grS]; rw [if_neg (by rw [tbd_f c_65]; decide)]; exact hpo.1)) (by first | assumption | exact hpo.2.1) (by first | assumption | (intro j hj; rw [hpo.2.2 j (by rw [List.length_append]; exact Nat.lt_succ_of_lt hj), pk_un (by omega)]; exact hf4 j hj)) (by omega)
              ·
                refine kw_aload_n C 1 dX1_grow_68 rfl ?_
                refine kw_get (v := .ref (a 1)) (T := TX1) C 0 0 rfl rfl (by decide) (fun w h => mT (fwX1 w h)) rfl (mT wd_205) rfl dX1_grow_69 ?_
                refine kw_iload_n C 3 dX1_grow_72 rfl ?_
                refine kw_iload C 0 dX1_grow_73 rfl ?_
                refine kw_iast C 1 (kSearch y a (nI Pl, bI f1, nI f2, f3, upd f4 sr.length (nI i)) ++ kWork y a2 (nI W, nI H, nI N, nI D, p1, p2, p3, col, od, blk, slp)) rfl (by omega) (by decide) dX1_grow_75 rfl ?_
                refine kw_iload C 5 dX1_grow_76 rfl ?_
                refine kw_aload_n C 2 dX1_grow_78 rfl ?_
                refine kw_iload C 5 dX1_grow_79 rfl ?_
                refine kw_iload C 0 dX1_grow_81 rfl ?_
                refine kV_i (As := [.int (nI cv), .int (nI i)]) (rest := [.int (nI cv)]) (ws' := fun (u : Unit) => kSearch y a (nI Pl, bI f1, nI f2, f3, upd f4 sr.length (nI i)) ++ kWork y a2 (nI W, nI H, nI N, nI D, p1, p2, p3, col, od, blk, slp)) C (c_X5_coloursOver l G y t a2 W H N D p1 p2 p3 col od blk slp o cl kk cv i (by first | assumption | omega | decide) (by first | assumption | omega | decide) (by first | assumption | omega | decide) (by first | assumption | omega | decide) (by first | assumption | omega | decide)) (cwV 2 C.2.2.2.2.1 (goodV cT wd_372 wd_515 wd_370 wd_371 wd_42) rfl rfl rfl (by decide +kernel) ⟨by dsimp only; omega, by dsimp only; omega⟩) [2, 3, 4, 5, 6, 7] [0, 1] [0, 1, 2, 3, 4, 5, 6, 7] rfl (by decide) rfl (by decide) (by decide) (fun _ => rfl) (by decide) 2 rfl rfl rfl (Nat.le_of_ble_eq_true rfl) ⟨Nat.le_refl 0, Nat.le_refl 0⟩ dX1_grow_83 (fun r u hr_2 => ?_)
                subst hr_2
                have hov := overN_lt (D := D) (cl := cl) hcv (hcol i c_56).2
                refine kw_ior C dX1_grow_86 (kw_top (n_or _ _) ?_)
                refine kw_istore C [(6, .int (nI (cv ||| (overN D cl cv i)))), (5, .int (nI i)), (0, .ref (a 0)), (1, .ref (a2 0)), (2, .int (nI sr.length)), (3, .int (nI U)), (4, .int (nI cv))] dX1_grow_87 (by decide) rfl ?_
                refine kw_aload_n C 2 dX1_grow_89 rfl ?_
                refine kw_aload_n C 3 dX1_grow_90 rfl ?_
                refine kw_iload_n C 4 dX1_grow_91 rfl ?_
                refine kw_iconst (v := nI 1) C dX1_grow_92 (by decide) ?_
                refine kw_iadd C dX1_grow_93 (kw_top (nI_add _ _) ?_)
                refine kw_iload_n C 5 dX1_grow_94 rfl ?_
                refine kw_iconst (v := nI 1) C dX1_grow_95 (by decide) ?_
                refine kw_iload C 1 dX1_grow_96 rfl ?_
                refine kw_ishl C dX1_grow_98 (kw_top (n_shl1 (by omega)) ?_)
                refine kw_ior C dX1_grow_99 (kw_top (n_or _ _) ?_)
                refine kw_iload C 0 dX1_grow_100 rfl ?_
                refine KW.ass (congrArg (fun zz => ([.int (nI (cv ||| (overN D cl cv i))), .int (nI (U ||| (2 ^ i))), .int zz, .ref (a2 0), .ref (a 0)] : List Value)) (show (nI (sr.length + 1)) = (nI (sr ++ [i]).length) from by rw [List.length_append]; rfl)) ?_
                refine kS_v (As := [.ref (a 0), .ref (a2 0), .int (nI (sr ++ [i]).length), .int (nI (U ||| (2 ^ i))), .int (nI (cv ||| (overN D cl cv i)))]) (rest := []) (ws' := fun (u : Bool × Nat × Int32 × (Nat → Int32)) => kSearch y a (nI Pl, bI u.1, nI u.2.1, u.2.2.1, u.2.2.2) ++ kWork y a2 (nI W, nI H, nI N, nI D, p1, p2, p3, col, od, blk, slp)) C (ihd (d - 1) (by omega) a Pl f1 f2 f3 (upd f4 sr.length (nI i)) a2 W H N D p1 p2 p3 col od blk slp o cl kk (sr ++ [i]) (U ||| (2 ^ i)) (cv ||| (overN D cl cv i)) (by rw [List.length_append]; simp only [List.length_cons, List.length_nil]; omega) (by intro j hj; rw [List.length_append] at hj; simp only [List.length_cons, List.length_nil] at hj; rcases Nat.lt_or_ge j sr.length with h | h; rw [pk_un (by omega), hf4 j h, gD_l h]; exact hsr j h; rw [show j = sr.length from by omega, pk_us, gD_r]; exact ⟨rfl, by omega⟩) (by first | assumption | omega | decide) (by exact Nat.or_lt_two_pow (n := 6) hU (pw2lt (by omega))) (by first | assumption | omega | decide) (by first | assumption | omega | decide) (by first | assumption | omega | decide) (by exact Nat.or_lt_two_pow (n := 8) hcv hov) (by first | assumption | omega | decide) (by rw [List.length_append]; simp only [List.length_cons, List.length_nil]; omega)) (va_cwS 5 C.2.2.2.2.1 (goodS cT wd_506 wd_504 wd_505 wd_47) rfl rfl rfl (by decide +kernel) ⟨by dsimp only; omega, by dsimp only; omega⟩) [0, 1, 2, 3, 4, 5, 6, 7] [] [0, 1, 2, 3, 4, 5, 6, 7] rfl (by decide) rfl (by decide) (by decide) (fun _ => rfl) (by decide) rfl (Nat.le_of_ble_eq_true rfl) ⟨Nat.le_refl 0, Nat.le_refl 0⟩ dX1_grow_102 (fun u hr_7 => ?_)
                obtain ⟨fd1_3, fw1_4, bs1_5, srw1_6⟩ := u
                try dsimp only at hr_7
                have hpo := hr_7
                refine kw_iinc (v := nI (i + 1)) C [(5, .int (nI (i + 1))), (6, .int (nI (cv ||| (overN D cl cv i)))), (0, .ref (a 0)), (1, .ref (a2 0)), (2, .int (nI sr.length)), (3, .int (nI U)), (4, .int (nI cv))] 1 dX1_grow_105 rfl (nI_1 _) (by decide) rfl ?_
                refine kw_goto (tgt := 50) C dX1_grow_108 (by decide) ?_
                refine KW.loc (lv' := [(5, .int (nI (i + 1))), (0, .ref (a 0)), (1, .ref (a2 0)), (2, .int (nI sr.length)), (3, .int (nI U)), (4, .int (nI cv))]) [0, 2, 3, 4, 5, 6] rfl ?_
                exact ih_50 (i + 1) fd1_3 fw1_4 bs1_5 srw1_6 (by first | assumption | omega | (simp; done)) (by rw [fold_s, ← hst]; first | (simp only [grS]; rw [if_pos (tbd_t c_65)]; done) | (simp only [grS]; rw [if_neg (by rw [tbd_f c_65]; decide)]; exact hpo.1)) (by first | assumption | exact hpo.2.1) (by first | assumption | (intro j hj; rw [hpo.2.2 j (by rw [List.length_append]; exact Nat.lt_succ_of_lt hj), pk_un (by omega)]; exact hf4 j hj)) (by omega)
        refine KW.loc (lv' := [(5, .int (nI 0)), (0, .ref (a 0)), (1, .ref (a2 0)), (2, .int (nI sr.length)), (3, .int (nI U)), (4, .int (nI cv))]) [0, 1, 2, 3, 4, 5] rfl ?_
        exact L50_1 (N - 0 + 1) 0 fd fw bs srw (by first | assumption | omega | (simp; done)) (by rfl) (by first | assumption | omega | (simp; done)) (by exact fun _ _ => rfl) (Nat.lt_succ_self _)
      ·
        refine kw_iload_n C 2 dX1_grow_38 rfl ?_
        refine kw_aload_n C 0 dX1_grow_39 rfl ?_
        refine kw_get (v := .int (nI fw)) (T := TX1) C 0 3 rfl rfl (by decide) (fun w h => mT (fwX1 w h)) rfl (mT wd_209) rfl dX1_grow_40 ?_
        refine kw_icmp_lt_N (tgt := 47) C (by omega) (by omega) dX1_grow_43 (by decide) (fun c_43 => ?_) (fun c_43 => ?_)
        ·
          refine kw_iconst (v := nI 0) C dX1_grow_47 (by decide) ?_
          have hd0 : d = (d - 1) + 1 := by omega
          have hnst : ¬ (N ≤ sr.length ∨ (fd = true ∧ fw ≤ sr.length)) := by
            intro h
            rcases h with h | h
            · omega
            · first | (rw [c_35] at h; exact absurd h.1 (by decide)) | omega
          refine kw_istore C [(5, .int (nI 0)), (0, .ref (a 0)), (1, .ref (a2 0)), (2, .int (nI sr.length)), (3, .int (nI U)), (4, .int (nI cv))] dX1_grow_48 (by decide) rfl ?_
          have L50_8 : ∀ (nn : Nat) (i : Nat) (f1 : Bool) (f2 : Nat) (f3 : Int32) (f4 : Nat → Int32) (hi : i ≤ N) (hst : (f1, f2, f3) = (List.range i).foldl (grS N D Pl cl (d - 1) sr U cv) (fd, fw, bs)) (hf2 : f2 ≤ 6) (hf4 : ∀ j, j < sr.length → f4 j = srw j) (hms : N - i < nn), KW p l e ({ frames := d + 2, cells := 0, slots := 0, locals := 26 * d + 60 }) s m ([.ref (a 0), .ref (a2 0), .int (nI sr.length), .int (nI U), .int (nI cv)] : List Value).toArray below meth c 0 0 (MQ below (va_Qv (fun (u : Bool × Nat × Int32 × (Nat → Int32)) => (u.1, u.2.1, u.2.2.1) = grF N D Pl cl d (sr) (U) (cv) (fd, fw, bs) ∧ u.2.1 ≤ 6 ∧ ∀ j, j < sr.length → u.2.2.2 j = srw j) (fun (u : Bool × Nat × Int32 × (Nat → Int32)) t => PO G A (kSearch y a (nI Pl, bI u.1, nI u.2.1, u.2.2.1, u.2.2.2) ++ kWork y a2 (nI W, nI H, nI N, nI D, p1, p2, p3, col, od, blk, slp)) t) A) ([.ref (a 0), .ref (a2 0), .int (nI sr.length), .int (nI U), .int (nI cv)] : List Value).toArray s 0 0 A) G A 7 (kSearch y a (nI Pl, bI f1, nI f2, f3, f4) ++ kWork y a2 (nI W, nI H, nI N, nI D, p1, p2, p3, col, od, blk, slp)) [(5, .int (nI i)), (0, .ref (a 0)), (1, .ref (a2 0)), (2, .int (nI sr.length)), (3, .int (nI U)), (4, .int (nI cv))] 50 [] := by
            intro nn
            induction nn with
            | zero => intro i f1 f2 f3 f4 hi hst hf2 hf4 hms; exact absurd hms (Nat.not_lt_zero _)
            | succ nn ih_50 =>
              intro i f1 f2 f3 f4 hi hst hf2 hf4 hms
              refine kw_iload C 0 dX1_grow_50 rfl ?_
              refine kw_aload_n C 2 dX1_grow_52 rfl ?_
              refine kw_getN (v := .int (nI N)) (T := TX5) C 2 2 rfl rfl (by decide) (fun w h => mT (fwX5 w h)) rfl (List.mem_of_getElem? (i := 7) rfl) rfl dX1_grow_53 ?_
              refine kw_icmp_ge_N (tgt := 111) C (by omega) (by omega) dX1_grow_56 (by decide) (fun c_56 => ?_) (fun c_56 => ?_)
              ·
                refine kR_v C (f1, f2, f3, f4) dX1_grow_111 ?_ rfl
                refine ⟨?_, hf2, hf4⟩
                rw [hst, hd0, grF_loop c_9 hnst, show i = N from by omega]
                rfl
              ·
                refine kw_iload_n C 4 dX1_grow_59 rfl ?_
                refine kw_iload C 0 dX1_grow_60 rfl ?_
                refine kw_ishr C dX1_grow_62 (kw_top (n_shr (by omega) (by omega)) ?_)
                refine kw_iconst (v := nI 1) C dX1_grow_63 (by decide) ?_
                refine kw_iand C dX1_grow_64 (kw_top (n_and _ _) ?_)
                refine kw_if_ne_N (tgt := 105) C (by exact Nat.lt_of_le_of_lt Nat.and_le_right (by omega)) dX1_grow_65 (by decide) (fun c_65 => ?_) (fun c_65 => ?_)
                ·
                  refine kw_iinc (v := nI (i + 1)) C [(5, .int (nI (i + 1))), (0, .ref (a 0)), (1, .ref (a2 0)), (2, .int (nI sr.length)), (3, .int (nI U)), (4, .int (nI cv))] 0 dX1_grow_105 rfl (nI_1 _) (by decide) rfl ?_
                  refine kw_goto (tgt := 50) C dX1_grow_108 (by decide) ?_
                  refine KW.loc (lv' := [(5, .int (nI (i + 1))), (0, .ref (a 0)), (1, .ref (a2 0)), (2, .int (nI sr.length)), (3, .int (nI U)), (4, .int (nI cv))]) [0, 1, 2, 3, 4, 5] rfl ?_
                  exact ih_50 (i + 1) f1 f2 f3 f4 (by first | assumption | omega | (simp; done)) (by rw [fold_s, ← hst]; first | (simp only [grS]; rw [if_pos (tbd_t c_65)]; done) | (simp only [grS]; rw [if_neg (by rw [tbd_f c_65]; decide)]; exact hpo.1)) (by first | assumption | exact hpo.2.1) (by first | assumption | (intro j hj; rw [hpo.2.2 j (by rw [List.length_append]; exact Nat.lt_succ_of_lt hj), pk_un (by omega)]; exact hf4 j hj)) (by omega)
                ·
                  refine kw_aload_n C 1 dX1_grow_68 rfl ?_
                  refine kw_get (v := .ref (a 1)) (T := TX1) C 0 0 rfl rfl (by decide) (fun w h => mT (fwX1 w h)) rfl (mT wd_205) rfl dX1_grow_69 ?_
                  refine kw_iload_n C 3 dX1_grow_72 rfl ?_
                  refine kw_iload C 0 dX1_grow_73 rfl ?_
                  refine kw_iast C 1 (kSearch y a (nI Pl, bI f1, nI f2, f3, upd f4 sr.length (nI i)) ++ kWork y a2 (nI W, nI H, nI N, nI D, p1, p2, p3, col, od, blk, slp)) rfl (by omega) (by decide) dX1_grow_75 rfl ?_
                  refine kw_iload C 5 dX1_grow_76 rfl ?_
                  refine kw_aload_n C 2 dX1_grow_78 rfl ?_
                  refine kw_iload C 5 dX1_grow_79 rfl ?_
                  refine kw_iload C 0 dX1_grow_81 rfl ?_
                  refine kV_i (As := [.int (nI cv), .int (nI i)]) (rest := [.int (nI cv)]) (ws' := fun (u : Unit) => kSearch y a (nI Pl, bI f1, nI f2, f3, upd f4 sr.length (nI i)) ++ kWork y a2 (nI W, nI H, nI N, nI D, p1, p2, p3, col, od, blk, slp)) C (c_X5_coloursOver l G y t a2 W H N D p1 p2 p3 col od blk slp o cl kk cv i (by first | assumption | omega | decide) (by first | assumption | omega | decide) (by first | assumption | omega | decide) (by first | assumption | omega | decide) (by first | assumption | omega | decide)) (cwV 2 C.2.2.2.2.1 (goodV cT wd_372 wd_515 wd_370 wd_371 wd_42) rfl rfl rfl (by decide +kernel) ⟨by dsimp only; omega, by dsimp only; omega⟩) [2, 3, 4, 5, 6, 7] [0, 1] [0, 1, 2, 3, 4, 5, 6, 7] rfl (by decide) rfl (by decide) (by decide) (fun _ => rfl) (by decide) 2 rfl rfl rfl (Nat.le_of_ble_eq_true rfl) ⟨Nat.le_refl 0, Nat.le_refl 0⟩ dX1_grow_83 (fun r u hr_9 => ?_)
                  subst hr_9
                  have hov := overN_lt (D := D) (cl := cl) hcv (hcol i c_56).2
                  refine kw_ior C dX1_grow_86 (kw_top (n_or _ _) ?_)
                  refine kw_istore C [(6, .int (nI (cv ||| (overN D cl cv i)))), (5, .int (nI i)), (0, .ref (a 0)), (1, .ref (a2 0)), (2, .int (nI sr.length)), (3, .int (nI U)), (4, .int (nI cv))] dX1_grow_87 (by decide) rfl ?_
                  refine kw_aload_n C 2 dX1_grow_89 rfl ?_
                  refine kw_aload_n C 3 dX1_grow_90 rfl ?_
                  refine kw_iload_n C 4 dX1_grow_91 rfl ?_
                  refine kw_iconst (v := nI 1) C dX1_grow_92 (by decide) ?_
                  refine kw_iadd C dX1_grow_93 (kw_top (nI_add _ _) ?_)
                  refine kw_iload_n C 5 dX1_grow_94 rfl ?_
                  refine kw_iconst (v := nI 1) C dX1_grow_95 (by decide) ?_
                  refine kw_iload C 1 dX1_grow_96 rfl ?_
                  refine kw_ishl C dX1_grow_98 (kw_top (n_shl1 (by omega)) ?_)
                  refine kw_ior C dX1_grow_99 (kw_top (n_or _ _) ?_)
                  refine kw_iload C 0 dX1_grow_100 rfl ?_
                  refine KW.ass (congrArg (fun zz => ([.int (nI (cv ||| (overN D cl cv i))), .int (nI (U ||| (2 ^ i))), .int zz, .ref (a2 0), .ref (a 0)] : List Value)) (show (nI (sr.length + 1)) = (nI (sr ++ [i]).length) from by rw [List.length_append]; rfl)) ?_
                  refine kS_v (As := [.ref (a 0), .ref (a2 0), .int (nI (sr ++ [i]).length), .int (nI (U ||| (2 ^ i))), .int (nI (cv ||| (overN D cl cv i)))]) (rest := []) (ws' := fun (u : Bool × Nat × Int32 × (Nat → Int32)) => kSearch y a (nI Pl, bI u.1, nI u.2.1, u.2.2.1, u.2.2.2) ++ kWork y a2 (nI W, nI H, nI N, nI D, p1, p2, p3, col, od, blk, slp)) C (ihd (d - 1) (by omega) a Pl f1 f2 f3 (upd f4 sr.length (nI i)) a2 W H N D p1 p2 p3 col od blk slp o cl kk (sr ++ [i]) (U ||| (2 ^ i)) (cv ||| (overN D cl cv i)) (by rw [List.length_append]; simp only [List.length_cons, List.length_nil]; omega) (by intro j hj; rw [List.length_append] at hj; simp only [List.length_cons, List.length_nil] at hj; rcases Nat.lt_or_ge j sr.length with h | h; rw [pk_un (by omega), hf4 j h, gD_l h]; exact hsr j h; rw [show j = sr.length from by omega, pk_us, gD_r]; exact ⟨rfl, by omega⟩) (by first | assumption | omega | decide) (by exact Nat.or_lt_two_pow (n := 6) hU (pw2lt (by omega))) (by first | assumption | omega | decide) (by first | assumption | omega | decide) (by first | assumption | omega | decide) (by exact Nat.or_lt_two_pow (n := 8) hcv hov) (by first | assumption | omega | decide) (by rw [List.length_append]; simp only [List.length_cons, List.length_nil]; omega)) (va_cwS 5 C.2.2.2.2.1 (goodS cT wd_506 wd_504 wd_505 wd_47) rfl rfl rfl (by decide +kernel) ⟨by dsimp only; omega, by dsimp only; omega⟩) [0, 1, 2, 3, 4, 5, 6, 7] [] [0, 1, 2, 3, 4, 5, 6, 7] rfl (by decide) rfl (by decide) (by decide) (fun _ => rfl) (by decide) rfl (Nat.le_of_ble_eq_true rfl) ⟨Nat.le_refl 0, Nat.le_refl 0⟩ dX1_grow_102 (fun u hr_14 => ?_)
                  obtain ⟨fd1_10, fw1_11, bs1_12, srw1_13⟩ := u
                  try dsimp only at hr_14
                  have hpo := hr_14
                  refine kw_iinc (v := nI (i + 1)) C [(5, .int (nI (i + 1))), (6, .int (nI (cv ||| (overN D cl cv i)))), (0, .ref (a 0)), (1, .ref (a2 0)), (2, .int (nI sr.length)), (3, .int (nI U)), (4, .int (nI cv))] 1 dX1_grow_105 rfl (nI_1 _) (by decide) rfl ?_
                  refine kw_goto (tgt := 50) C dX1_grow_108 (by decide) ?_
                  refine KW.loc (lv' := [(5, .int (nI (i + 1))), (0, .ref (a 0)), (1, .ref (a2 0)), (2, .int (nI sr.length)), (3, .int (nI U)), (4, .int (nI cv))]) [0, 2, 3, 4, 5, 6] rfl ?_
                  exact ih_50 (i + 1) fd1_10 fw1_11 bs1_12 srw1_13 (by first | assumption | omega | (simp; done)) (by rw [fold_s, ← hst]; first | (simp only [grS]; rw [if_pos (tbd_t c_65)]; done) | (simp only [grS]; rw [if_neg (by rw [tbd_f c_65]; decide)]; exact hpo.1)) (by first | assumption | exact hpo.2.1) (by first | assumption | (intro j hj; rw [hpo.2.2 j (by rw [List.length_append]; exact Nat.lt_succ_of_lt hj), pk_un (by omega)]; exact hf4 j hj)) (by omega)
          refine KW.loc (lv' := [(5, .int (nI 0)), (0, .ref (a 0)), (1, .ref (a2 0)), (2, .int (nI sr.length)), (3, .int (nI U)), (4, .int (nI cv))]) [0, 1, 2, 3, 4, 5] rfl ?_
          exact L50_8 (N - 0 + 1) 0 fd fw bs srw (by first | assumption | omega | (simp; done)) (by rfl) (by first | assumption | omega | (simp; done)) (by exact fun _ _ => rfl) (Nat.lt_succ_self _)
        ·
          refine kR_v C (fd, fw, bs, srw) dX1_grow_46 ?_ rfl
          refine ⟨?_, hfw, fun _ _ => rfl⟩
          rw [grF_stop c_9]
          first | exact Or.inl c_28 | exact Or.inr (And.intro c_35 c_43)
  ·
    refine kw_aload_n C 0 dX1_grow_12 rfl ?_
    refine kw_aload_n C 1 dX1_grow_13 rfl ?_
    refine kw_getN (v := .int (nI N)) (T := TX5) C 2 2 rfl rfl (by decide) (fun w h => mT (fwX5 w h)) rfl (List.mem_of_getElem? (i := 7) rfl) rfl dX1_grow_14 ?_
    refine kw_iload_n C 2 dX1_grow_17 rfl ?_
    refine kw_iload_n C 3 dX1_grow_18 rfl ?_
    refine kV_v (As := [.int (nI N), .int (nI sr.length), .int (nI U)]) (rest := []) (ws' := fun (u : Bool × Nat × Int32) => kSearch y a (nI Pl, bI u.1, nI u.2.1, u.2.2, srw) ++ kWork y a2 (nI W, nI H, nI N, nI D, p1, p2, p3, col, od, blk, slp)) C (c_X1_settle l G y t a Pl fd fw bs srw N sr U (by first | assumption | omega | decide) (by first | assumption | omega | decide) (by first | assumption | omega | decide) (by first | assumption | omega | decide) (by first | assumption | omega | decide)) (cwV 3 C.2.2.2.2.1 (goodV cT wd_510 wd_507 wd_509 wd_7 wd_47) rfl rfl rfl (by decide +kernel) ⟨by dsimp only; omega, by dsimp only; omega⟩) [0, 1] [2, 3, 4, 5, 6, 7] [6, 7, 0, 1, 2, 3, 4, 5] rfl (by decide) rfl (by decide) (by decide) (fun _ => rfl) (by decide) 0 rfl rfl rfl (Nat.le_of_ble_eq_true rfl) ⟨Nat.le_refl 0, Nat.le_refl 0⟩ dX1_grow_19 (fun u hr_18 => ?_)
    obtain ⟨fd1_15, fw1_16, bs1_17⟩ := u
    try dsimp only at hr_18
    have hpo := hr_18
    refine kR_v C (fd1_15, fw1_16, bs1_17, srw) dX1_grow_22 ?_ rfl
    exact ⟨by rw [hpo, grF_done c_9], by have h := congrArg (fun z : SrS => z.2.1) hpo; exact Nat.le_trans (Nat.le_of_eq h) (stlF_le hfw hlen), fun _ _ => rfl⟩
theorem c_X1_grow (l : Launch) (G : va_G) (y : Nat → ClassId) (t : Nat) (d : Nat) : ∀ (a : Nat → Nat) (Pl : Nat) (fd : Bool) (fw : Nat) (bs : Int32) (srw : Nat → Int32) (a2 : Nat → Nat) (W : Nat) (H : Nat) (N : Nat) (D : Nat) (p1 : Int64) (p2 : Int64) (p3 : Int64) (col : Nat → Int32) (od : Nat → Int32) (blk : Nat → Int64) (slp : Nat → Int32) (o : Nat → Nat) (cl : Nat → Nat) (kk : Nat → Nat) (sr : List Nat) (U : Nat) (cv : Nat) (hlen : sr.length ≤ 6) (hsr : ∀ j, j < sr.length → srw j = nI (sr.getD j 0) ∧ sr.getD j 0 < 8) (hN : N ≤ 6) (hU : U < 64) (hD : D < 64) (hod : ∀ q, q < N → od q = nI (o q) ∧ o q < N) (hcol : ∀ i, i < N → col i = nI (cl i) ∧ cl i < 8) (hcv : cv < 256) (hfw : fw ≤ 6) (hdd : N ≤ sr.length + d) (sz : Nat), Met l yX1_grow (Cond.code yX1_grow cX1_grow 7 (none) :: TG) ({ frames := d + 2, cells := 0, slots := 0, locals := 26 * d + 60 }) (va_Pc [.ref (a 0), .ref (a2 0), .int (nI sr.length), .int (nI U), .int (nI cv)] (PR G y t (kSearch y a (nI Pl, bI fd, nI fw, bs, srw) ++ kWork y a2 (nI W, nI H, nI N, nI D, p1, p2, p3, col, od, blk, slp)) sz)) (va_Qv (fun (u : Bool × Nat × Int32 × (Nat → Int32)) => (u.1, u.2.1, u.2.2.1) = grF N D Pl cl d (sr) (U) (cv) (fd, fw, bs) ∧ u.2.1 ≤ 6 ∧ ∀ j, j < sr.length → u.2.2.2 j = srw j) (fun (u : Bool × Nat × Int32 × (Nat → Int32)) t => PO G (va_A (kSearch y a (nI Pl, bI fd, nI fw, bs, srw) ++ kWork y a2 (nI W, nI H, nI N, nI D, p1, p2, p3, col, od, blk, slp)) sz) (kSearch y a (nI Pl, bI u.1, nI u.2.1, u.2.2.1, u.2.2.2) ++ kWork y a2 (nI W, nI H, nI N, nI D, p1, p2, p3, col, od, blk, slp)) t) (va_A (kSearch y a (nI Pl, bI fd, nI fw, bs, srw) ++ kWork y a2 (nI W, nI H, nI N, nI D, p1, p2, p3, col, od, blk, slp)) sz)) 0 0 (va_A (kSearch y a (nI Pl, bI fd, nI fw, bs, srw) ++ kWork y a2 (nI W, nI H, nI N, nI D, p1, p2, p3, col, od, blk, slp)) sz) := by
  induction d using Nat.strongRecOn with
  | ind d ih => exact c_X1_grow_step l G y t d ih

set_option maxHeartbeats 4000000 in
set_option maxRecDepth 100000 in
theorem c_X1_run (l : Launch) (G : va_G) (y : Nat → ClassId) (t : Nat) (a : Nat → Nat) (pal : Int32) (fnd : Bool) (few : Int32) (bst : Int32) (srw : Nat → Int32) (a2 : Nat → Nat) (W : Nat) (H : Nat) (N : Nat) (D : Nat) (p1 : Int64) (p2 : Int64) (p3 : Int64) (col : Nat → Int32) (od : Nat → Int32) (blk : Nat → Int64) (slp : Nat → Int32) (o : Nat → Nat) (cl : Nat → Nat) (kk : Nat → Nat) (hW : W ≤ 6) (hH : H ≤ 6) (hN : N ≤ 6) (hD : D < 64) (hod : ∀ q, q < N → od q = nI (o q) ∧ o q < N) (hcol : ∀ i, i < N → col i = nI (cl i) ∧ cl i < 8) (sz : Nat) : Met l yX1_run (Cond.code yX1_run cX1_run 2 (none) :: TG) ({ frames := 9, cells := 0, slots := 0, locals := 242 }) (va_Pc [.ref (a 0), .ref (a2 0)] (PR G y t (kSearch y a (pal, bI fnd, few, bst, srw) ++ kWork y a2 (nI W, nI H, nI N, nI D, p1, p2, p3, col, od, blk, slp)) sz)) (va_Qv (fun (u : Bool × Nat × Int32 × (Nat → Int32)) => (u.1, u.2.1, u.2.2.1) = grF N D (palN p1 p2 p3 (papL W H) 8) cl 6 [] 0 1 (false, 0, nI 0) ∧ u.2.1 ≤ 6) (fun (u : Bool × Nat × Int32 × (Nat → Int32)) t => PO G (va_A (kSearch y a (pal, bI fnd, few, bst, srw) ++ kWork y a2 (nI W, nI H, nI N, nI D, p1, p2, p3, col, od, blk, slp)) sz) (kSearch y a (nI (palN p1 p2 p3 (papL W H) 8), bI u.1, nI u.2.1, u.2.2.1, u.2.2.2) ++ kWork y a2 (nI W, nI H, nI N, nI D, p1, p2, p3, col, od, blk, slp)) t) (va_A (kSearch y a (pal, bI fnd, few, bst, srw) ++ kWork y a2 (nI W, nI H, nI N, nI D, p1, p2, p3, col, od, blk, slp)) sz)) 0 0 (va_A (kSearch y a (pal, bI fnd, few, bst, srw) ++ kWork y a2 (nI W, nI H, nI N, nI D, p1, p2, p3, col, od, blk, slp)) sz) := by
  refine kMet (cc := cX1_run) (maxL := 2) (ret := none) (Qc := fun A => va_Qv (fun (u : Bool × Nat × Int32 × (Nat → Int32)) => (u.1, u.2.1, u.2.2.1) = grF N D (palN p1 p2 p3 (papL W H) 8) cl 6 [] 0 1 (false, 0, nI 0) ∧ u.2.1 ≤ 6) (fun (u : Bool × Nat × Int32 × (Nat → Int32)) t => PO G A (kSearch y a (nI (palN p1 p2 p3 (papL W H) 8), bI u.1, nI u.2.1, u.2.2.1, u.2.2.2) ++ kWork y a2 (nI W, nI H, nI N, nI D, p1, p2, p3, col, od, blk, slp)) t) A) (by decide) rfl (Nat.le_of_ble_eq_true rfl) (fun p e s m below meth c A hsz C hin => ?_)
  refine KW.loc (lv' := [(0, .ref (a 0)), (1, .ref (a2 0))]) [0, 1] rfl ?_
  refine kw_aload_n C 0 dX1_run_0 rfl ?_
  refine kw_iconst (v := nI 0) C dX1_run_1 (by decide) ?_
  refine kw_put (T := TX1) (ty := .boolean) C 0 2 (kSearch y a (pal, nI 0, few, bst, srw) ++ kWork y a2 (nI W, nI H, nI N, nI D, p1, p2, p3, col, od, blk, slp)) rfl rfl (by decide) (fun w h => mT (fwX1 w h)) tyX1 tyX1_ok nmX1 rfl (mT wd_207) rfl (by decide +kernel) (by first | decide | exact bI_z _ | rfl) (by first | decide | exact bI_fit _ | rfl) (Nat.le_of_ble_eq_true rfl) dX1_run_2 rfl ?_
  refine kw_aload_n C 0 dX1_run_5 rfl ?_
  refine kw_iconst (v := nI 0) C dX1_run_6 (by decide) ?_
  refine kw_put (T := TX1) (ty := .int) C 0 3 (kSearch y a (pal, nI 0, nI 0, bst, srw) ++ kWork y a2 (nI W, nI H, nI N, nI D, p1, p2, p3, col, od, blk, slp)) rfl rfl (by decide) (fun w h => mT (fwX1 w h)) tyX1 tyX1_ok nmX1 rfl (mT wd_209) rfl (by decide +kernel) rfl rfl (Nat.le_of_ble_eq_true rfl) dX1_run_7 rfl ?_
  refine kw_aload_n C 0 dX1_run_10 rfl ?_
  refine kw_iconst (v := nI 0) C dX1_run_11 (by decide) ?_
  refine kw_put (T := TX1) (ty := .int) C 0 4 (kSearch y a (pal, nI 0, nI 0, nI 0, srw) ++ kWork y a2 (nI W, nI H, nI N, nI D, p1, p2, p3, col, od, blk, slp)) rfl rfl (by decide) (fun w h => mT (fwX1 w h)) tyX1 tyX1_ok nmX1 rfl (mT wd_211) rfl (by decide +kernel) rfl rfl (Nat.le_of_ble_eq_true rfl) dX1_run_12 rfl ?_
  refine kw_aload_n C 0 dX1_run_15 rfl ?_
  refine kw_aload_n C 1 dX1_run_16 rfl ?_
  refine kV_i (As := []) (rest := [.ref (a 0)]) (ws' := fun (u : Unit) => kSearch y a (pal, nI 0, nI 0, nI 0, srw) ++ kWork y a2 (nI W, nI H, nI N, nI D, p1, p2, p3, col, od, blk, slp)) C (c_X5_palette l G y t a2 W H N D p1 p2 p3 col od blk slp (by first | assumption | omega | decide) (by first | assumption | omega | decide)) (cwV 0 C.2.2.2.2.1 (goodV cT wd_346 wd_503 wd_344 wd_345 wd_42) rfl rfl rfl (by decide +kernel) ⟨by decide, by decide⟩) [2, 3, 4, 5, 6, 7] [0, 1] [0, 1, 2, 3, 4, 5, 6, 7] rfl (by decide) rfl (by decide) (by decide) (fun _ => rfl) (by decide) 2 rfl rfl rfl (Nat.le_of_ble_eq_true rfl) ⟨by decide, by decide⟩ dX1_run_17 (fun r u hr_1 => ?_)
  subst hr_1
  refine kw_put (T := TX1) (ty := .int) C 0 1 (kSearch y a (nI (palN p1 p2 p3 (papL W H) 8), nI 0, nI 0, nI 0, srw) ++ kWork y a2 (nI W, nI H, nI N, nI D, p1, p2, p3, col, od, blk, slp)) rfl rfl (by decide) (fun w h => mT (fwX1 w h)) tyX1 tyX1_ok nmX1 rfl (mT wd_206) rfl (by decide +kernel) rfl rfl (Nat.le_of_ble_eq_true rfl) dX1_run_20 rfl ?_
  refine kw_aload_n C 0 dX1_run_23 rfl ?_
  refine kw_aload_n C 1 dX1_run_24 rfl ?_
  refine kw_iconst (v := nI 0) C dX1_run_25 (by decide) ?_
  refine kw_iconst (v := nI 0) C dX1_run_26 (by decide) ?_
  refine kw_iconst (v := nI 1) C dX1_run_27 (by decide) ?_
  refine kS_v (As := [.ref (a 0), .ref (a2 0), .int (nI 0), .int (nI 0), .int (nI 1)]) (rest := []) (ws' := fun (u : Bool × Nat × Int32 × (Nat → Int32)) => kSearch y a (nI (palN p1 p2 p3 (papL W H) 8), bI u.1, nI u.2.1, u.2.2.1, u.2.2.2) ++ kWork y a2 (nI W, nI H, nI N, nI D, p1, p2, p3, col, od, blk, slp)) C (c_X1_grow l G y t 6 a (palN p1 p2 p3 (papL W H) 8) false 0 (nI 0) srw a2 W H N D p1 p2 p3 col od blk slp o cl kk ([]) 0 1 (by decide) (by intro j hj; exact absurd hj (Nat.not_lt_zero _)) (by first | assumption | omega | decide) (by decide) (by first | assumption | omega | decide) (by first | assumption | omega | decide) (by first | assumption | omega | decide) (by decide) (by decide) (by exact hN)) (va_cwS 5 C.2.2.2.2.1 (goodS cT wd_506 wd_504 wd_505 wd_47) rfl rfl rfl (by decide +kernel) ⟨by decide, by decide⟩) [0, 1, 2, 3, 4, 5, 6, 7] [] [0, 1, 2, 3, 4, 5, 6, 7] rfl (by decide) rfl (by decide) (by decide) (fun _ => rfl) (by decide) rfl (Nat.le_of_ble_eq_true rfl) ⟨by decide, by decide⟩ dX1_run_28 (fun u hr_6 => ?_)
  obtain ⟨fd1_2, fw1_3, bs1_4, srw1_5⟩ := u
  try dsimp only at hr_6
  have hpo := hr_6
  refine kR_v C (fd1_2, fw1_3, bs1_4, srw1_5) dX1_run_31 ?_ rfl
  exact ⟨hpo.1, hpo.2.1⟩

set_option maxHeartbeats 4000000 in
set_option maxRecDepth 100000 in
theorem c_X1_inkAt (l : Launch) (G : va_G) (y : Nat → ClassId) (t : Nat) (a : Nat → Nat) (Pl : Nat) (fd : Bool) (fw : Nat) (bs : Int32) (srw : Nat → Int32) (N : Nat) (i : Nat) (hi : i < N) (hN : N ≤ 6) (sz : Nat) : Met l yX1_inkAt (Cond.code yX1_inkAt cX1_inkAt 3 (some .int) :: TG) ({ frames := 0, cells := 0, slots := 0, locals := 0 }) (va_Pc [.ref (a 0), .int (nI i), .int (nI N)] (PR G y t (kSearch y a (nI Pl, bI fd, nI fw, bs, srw)) sz)) (va_Qi (fun (r : Int32) (u : Unit) => r = ((bs >>> (nI (3 * (N - 1 - i)) &&& 31)) &&& nI 7)) (fun (u : Unit) t => PO G (va_A (kSearch y a (nI Pl, bI fd, nI fw, bs, srw)) sz) (kSearch y a (nI Pl, bI fd, nI fw, bs, srw)) t) (va_A (kSearch y a (nI Pl, bI fd, nI fw, bs, srw)) sz)) 0 0 (va_A (kSearch y a (nI Pl, bI fd, nI fw, bs, srw)) sz) := by
  refine kMet (cc := cX1_inkAt) (maxL := 3) (ret := some .int) (Qc := fun A => va_Qi (fun (r : Int32) (u : Unit) => r = ((bs >>> (nI (3 * (N - 1 - i)) &&& 31)) &&& nI 7)) (fun (u : Unit) t => PO G A (kSearch y a (nI Pl, bI fd, nI fw, bs, srw)) t) A) (by decide) rfl (Nat.le_of_ble_eq_true rfl) (fun p e s m below meth c A hsz C hin => ?_)
  refine KW.loc (lv' := [(0, .ref (a 0)), (1, .int (nI i)), (2, .int (nI N))]) [0, 1, 2] rfl ?_
  refine kw_aload_n C 0 dX1_inkAt_0 rfl ?_
  refine kw_get (v := .int bs) (T := TX1) C 0 4 rfl rfl (by decide) (fun w h => mT (fwX1 w h)) rfl (mT wd_211) rfl dX1_inkAt_1 ?_
  refine kw_iconst (v := nI 3) C dX1_inkAt_4 (by decide) ?_
  refine kw_iload_n C 2 dX1_inkAt_5 rfl ?_
  refine kw_iconst (v := nI 1) C dX1_inkAt_6 (by decide) ?_
  refine kw_isub C dX1_inkAt_7 (kw_top (pk_sub (by omega)) ?_)
  refine kw_iload_n C 1 dX1_inkAt_8 rfl ?_
  refine kw_isub C dX1_inkAt_9 (kw_top (pk_sub (by omega)) ?_)
  refine kw_imul C dX1_inkAt_10 (kw_top (pk_mul _ _) ?_)
  refine kw_ishr C dX1_inkAt_11 ?_
  refine kw_bipush (v := nI 7) C dX1_inkAt_12 (by decide) ?_
  refine kw_iand C dX1_inkAt_14 ?_
  refine kR_i C () dX1_inkAt_15 ?_ rfl
  first | rfl | trivial | (simp; done) | omega
