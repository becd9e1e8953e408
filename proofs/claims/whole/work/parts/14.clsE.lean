set_option maxHeartbeats 4000000 in
set_option maxRecDepth 100000 in
theorem c_X3_add (l : Launch) (G : va_G) (y : Nat → ClassId) (t : Nat) (a : Nat → Nat) (M : Nat) (q1 : Int64) (q2 : Int64) (q3 : Int64) (xs : Nat → Int32) (ys : Nat → Int32) (cs : Nat → Int32) (tal : Nat → Int32) (x0 : Nat) (z0 : Nat) (q0 : Nat) (hM : M ≤ 6) (sz : Nat) : Met l yX3_add (Cond.code yX3_add cX3_add 4 (some .boolean) :: TG) ({ frames := 0, cells := 0, slots := 0, locals := 0 }) (va_Pc [.ref (a 0), .int (nI x0), .int (nI z0), .int (nI q0)] (PR G y t (kSight y a (nI M, q1, q2, q3, xs, ys, cs, tal)) sz)) (va_Qi (fun (r : Int32) (u : Nat × (Nat → Int32) × (Nat → Int32) × (Nat → Int32)) => r = (bI (decide (M < 6))) ∧ (M < 6 → u.1 = M + 1 ∧ u.2.1 = upd xs M (nI x0) ∧ u.2.2.1 = upd ys M (nI z0) ∧ u.2.2.2 = upd cs M (nI q0)) ∧ (¬ M < 6 → u.1 = M ∧ u.2.1 = xs ∧ u.2.2.1 = ys ∧ u.2.2.2 = cs)) (fun (u : Nat × (Nat → Int32) × (Nat → Int32) × (Nat → Int32)) t => PO G (va_A (kSight y a (nI M, q1, q2, q3, xs, ys, cs, tal)) sz) (kSight y a (nI u.1, q1, q2, q3, u.2.1, u.2.2.1, u.2.2.2, tal)) t) (va_A (kSight y a (nI M, q1, q2, q3, xs, ys, cs, tal)) sz)) 0 0 (va_A (kSight y a (nI M, q1, q2, q3, xs, ys, cs, tal)) sz) := by
  refine kMet (cc := cX3_add) (maxL := 4) (ret := some .boolean) (Qc := fun A => va_Qi (fun (r : Int32) (u : Nat × (Nat → Int32) × (Nat → Int32) × (Nat → Int32)) => r = (bI (decide (M < 6))) ∧ (M < 6 → u.1 = M + 1 ∧ u.2.1 = upd xs M (nI x0) ∧ u.2.2.1 = upd ys M (nI z0) ∧ u.2.2.2 = upd cs M (nI q0)) ∧ (¬ M < 6 → u.1 = M ∧ u.2.1 = xs ∧ u.2.2.1 = ys ∧ u.2.2.2 = cs)) (fun (u : Nat × (Nat → Int32) × (Nat → Int32) × (Nat → Int32)) t => PO G A (kSight y a (nI u.1, q1, q2, q3, u.2.1, u.2.2.1, u.2.2.2, tal)) t) A) (by decide) rfl (Nat.le_of_ble_eq_true rfl) (fun p e s m below meth c A hsz C hin => ?_)
  refine KW.loc (lv' := [(0, .ref (a 0)), (1, .int (nI x0)), (2, .int (nI z0)), (3, .int (nI q0))]) [0, 1, 2, 3] rfl ?_
  refine kw_aload_n C 0 dX3_add_0 rfl ?_
  refine kw_get (v := .int (nI M)) (T := TX3) C 0 3 rfl rfl (by decide) (fun w h => mT (fwX3 w h)) rfl (mT wd_181) rfl dX3_add_1 ?_
  refine kw_bipush (v := nI 6) C dX3_add_4 (by decide) ?_
  refine kw_icmp_lt_N (tgt := 11) C (by omega) (by omega) dX3_add_6 (by decide) (fun c_6 => ?_) (fun c_6 => ?_)
  ·
    refine kw_aload_n C 0 dX3_add_11 rfl ?_
    refine kw_get (v := .ref (a 1)) (T := TX3) C 0 0 rfl rfl (by decide) (fun w h => mT (fwX3 w h)) rfl (mT wd_178) rfl dX3_add_12 ?_
    refine kw_aload_n C 0 dX3_add_15 rfl ?_
    refine kw_get (v := .int (nI M)) (T := TX3) C 0 3 rfl rfl (by decide) (fun w h => mT (fwX3 w h)) rfl (mT wd_181) rfl dX3_add_16 ?_
    refine kw_iload_n C 1 dX3_add_19 rfl ?_
    refine kw_iast C 1 (kSight y a (nI M, q1, q2, q3, upd xs M (nI x0), ys, cs, tal)) rfl (by omega) (by decide) dX3_add_20 rfl ?_
    refine kw_aload_n C 0 dX3_add_21 rfl ?_
    refine kw_get (v := .ref (a 2)) (T := TX3) C 0 1 rfl rfl (by decide) (fun w h => mT (fwX3 w h)) rfl (mT wd_179) rfl dX3_add_22 ?_
    refine kw_aload_n C 0 dX3_add_25 rfl ?_
    refine kw_get (v := .int (nI M)) (T := TX3) C 0 3 rfl rfl (by decide) (fun w h => mT (fwX3 w h)) rfl (mT wd_181) rfl dX3_add_26 ?_
    refine kw_iload_n C 2 dX3_add_29 rfl ?_
    refine kw_iast C 2 (kSight y a (nI M, q1, q2, q3, upd xs M (nI x0), upd ys M (nI z0), cs, tal)) rfl (by omega) (by decide) dX3_add_30 rfl ?_
    refine kw_aload_n C 0 dX3_add_31 rfl ?_
    refine kw_get (v := .ref (a 3)) (T := TX3) C 0 2 rfl rfl (by decide) (fun w h => mT (fwX3 w h)) rfl (mT wd_180) rfl dX3_add_32 ?_
    refine kw_aload_n C 0 dX3_add_35 rfl ?_
    refine kw_get (v := .int (nI M)) (T := TX3) C 0 3 rfl rfl (by decide) (fun w h => mT (fwX3 w h)) rfl (mT wd_181) rfl dX3_add_36 ?_
    refine kw_iload_n C 3 dX3_add_39 rfl ?_
    refine kw_iast C 3 (kSight y a (nI M, q1, q2, q3, upd xs M (nI x0), upd ys M (nI z0), upd cs M (nI q0), tal)) rfl (by omega) (by decide) dX3_add_40 rfl ?_
    refine kw_aload_n C 0 dX3_add_41 rfl ?_
    refine kw_dup C dX3_add_42 rfl ?_
    refine kw_get (v := .int (nI M)) (T := TX3) C 0 3 rfl rfl (by decide) (fun w h => mT (fwX3 w h)) rfl (mT wd_181) rfl dX3_add_43 ?_
    refine kw_iconst (v := nI 1) C dX3_add_46 (by decide) ?_
    refine kw_iadd C dX3_add_47 (kw_top (nI_add _ _) ?_)
    refine kw_put (T := TX3) (ty := .int) C 0 3 (kSight y a (nI (M + 1), q1, q2, q3, upd xs M (nI x0), upd ys M (nI z0), upd cs M (nI q0), tal)) rfl rfl (by decide) (fun w h => mT (fwX3 w h)) tyX3 tyX3_ok nmX3 rfl (mT wd_181) rfl (by decide +kernel) rfl rfl (Nat.le_of_ble_eq_true rfl) dX3_add_48 rfl ?_
    refine kw_iconst (v := nI 1) C dX3_add_51 (by decide) ?_
    refine kR_z C (M + 1, upd xs M (nI x0), upd ys M (nI z0), upd cs M (nI q0)) dX3_add_52 (by first | decide | exact bI_z _ | rfl) ?_ rfl
    exact ⟨(bI_t (by omega)).symm, fun _ => ⟨rfl, rfl, rfl, rfl⟩, fun h => absurd c_6 h⟩
  ·
    refine kw_iconst (v := nI 0) C dX3_add_9 (by decide) ?_
    refine kR_z C (M, xs, ys, cs) dX3_add_10 (by first | decide | exact bI_z _ | rfl) ?_ rfl
    exact ⟨(bI_f (by omega)).symm, fun h => absurd h (by omega), fun _ => ⟨rfl, rfl, rfl, rfl⟩⟩

set_option maxHeartbeats 4000000 in
set_option maxRecDepth 100000 in
theorem c_X3_explains (l : Launch) (G : va_G) (y : Nat → ClassId) (t : Nat) (a : Nat → Nat) (M : Nat) (q1 : Int64) (q2 : Int64) (q3 : Int64) (xs : Nat → Int32) (ys : Nat → Int32) (cs : Nat → Int32) (tal : Nat → Int32) (a2 : Nat → Nat) (W : Nat) (H : Nat) (N : Nat) (D : Nat) (p1 : Int64) (p2 : Int64) (p3 : Int64) (col : Nat → Int32) (od : Nat → Int32) (blk : Nat → Int64) (slp : Nat → Int32) (o : Nat → Nat) (cl : Nat → Nat) (kk : Nat → Nat) (sx : Nat → Nat) (sy : Nat → Nat) (sc : Nat → Nat) (g : Nat) (hW : W ≤ 6) (hH : H ≤ 6) (hN : N ≤ 6) (hD : D < 64) (hod : ∀ q, q < N → od q = nI (o q) ∧ o q < N) (hcol : ∀ i, i < N → col i = nI (cl i) ∧ cl i < 8) (hsl : ∀ i, i < N → slp i = nI (kk i) ∧ kk i < 9) (hM : M ≤ 6) (hse : ∀ i, i < M → xs i = nI (sx i) ∧ ys i = nI (sy i) ∧ cs i = nI (sc i) ∧ sx i < 6 ∧ sy i < 6 ∧ sc i < 8) (hg : g ≤ 9 * N) (sz : Nat) : Met l yX3_explains (Cond.code yX3_explains cX3_explains 6 (some .boolean) :: TG) ({ frames := 3, cells := 0, slots := 0, locals := 78 }) (va_Pc [.ref (a 0), .ref (a2 0), .int (gs g)] (PR G y t (kSight y a (nI M, q1, q2, q3, xs, ys, cs, tal) ++ kWork y a2 (nI W, nI H, nI N, nI D, p1, p2, p3, col, od, blk, slp)) sz)) (va_Qi (fun (r : Int32) (u : Int64 × Int64 × Int64) => r = (bI (exB W H N D blk o cl kk M sx sy sc g)) ∧ (exB W H N D blk o cl kk M sx sy sc g = true → u.1 = PG W H N D blk o cl kk 0 g ∧ u.2.1 = PG W H N D blk o cl kk 1 g ∧ u.2.2 = PG W H N D blk o cl kk 2 g)) (fun (u : Int64 × Int64 × Int64) t => PO G (va_A (kSight y a (nI M, q1, q2, q3, xs, ys, cs, tal) ++ kWork y a2 (nI W, nI H, nI N, nI D, p1, p2, p3, col, od, blk, slp)) sz) (kSight y a (nI M, u.1, u.2.1, u.2.2, xs, ys, cs, tal) ++ kWork y a2 (nI W, nI H, nI N, nI D, p1, p2, p3, col, od, blk, slp)) t) (va_A (kSight y a (nI M, q1, q2, q3, xs, ys, cs, tal) ++ kWork y a2 (nI W, nI H, nI N, nI D, p1, p2, p3, col, od, blk, slp)) sz)) 0 0 (va_A (kSight y a (nI M, q1, q2, q3, xs, ys, cs, tal) ++ kWork y a2 (nI W, nI H, nI N, nI D, p1, p2, p3, col, od, blk, slp)) sz) := by
  refine kMet (cc := cX3_explains) (maxL := 6) (ret := some .boolean) (Qc := fun A => va_Qi (fun (r : Int32) (u : Int64 × Int64 × Int64) => r = (bI (exB W H N D blk o cl kk M sx sy sc g)) ∧ (exB W H N D blk o cl kk M sx sy sc g = true → u.1 = PG W H N D blk o cl kk 0 g ∧ u.2.1 = PG W H N D blk o cl kk 1 g ∧ u.2.2 = PG W H N D blk o cl kk 2 g)) (fun (u : Int64 × Int64 × Int64) t => PO G A (kSight y a (nI M, u.1, u.2.1, u.2.2, xs, ys, cs, tal) ++ kWork y a2 (nI W, nI H, nI N, nI D, p1, p2, p3, col, od, blk, slp)) t) A) (by decide) rfl (Nat.le_of_ble_eq_true rfl) (fun p e s m below meth c A hsz C hin => ?_)
  refine KW.loc (lv' := [(0, .ref (a 0)), (1, .ref (a2 0)), (2, .int (gs g))]) [0, 1, 2] rfl ?_
  refine kw_iload_n C 2 dX3_explains_0 rfl ?_
  have J12_1 : ∀ (_ : Unit), KW p l e ({ frames := 3, cells := 0, slots := 0, locals := 78 }) s m ([.ref (a 0), .ref (a2 0), .int (gs g)] : List Value).toArray below meth c 0 0 (MQ below (va_Qi (fun (r : Int32) (u : Int64 × Int64 × Int64) => r = (bI (exB W H N D blk o cl kk M sx sy sc g)) ∧ (exB W H N D blk o cl kk M sx sy sc g = true → u.1 = PG W H N D blk o cl kk 0 g ∧ u.2.1 = PG W H N D blk o cl kk 1 g ∧ u.2.2 = PG W H N D blk o cl kk 2 g)) (fun (u : Int64 × Int64 × Int64) t => PO G A (kSight y a (nI M, u.1, u.2.1, u.2.2, xs, ys, cs, tal) ++ kWork y a2 (nI W, nI H, nI N, nI D, p1, p2, p3, col, od, blk, slp)) t) A) ([.ref (a 0), .ref (a2 0), .int (gs g)] : List Value).toArray s 0 0 A) G A 6 (kSight y a (nI M, q1, q2, q3, xs, ys, cs, tal) ++ kWork y a2 (nI W, nI H, nI N, nI D, p1, p2, p3, col, od, blk, slp)) [(0, .ref (a 0)), (1, .ref (a2 0)), (2, .int (gs g))] 12 [.int (oxG g)] := by
    intro _
    refine kw_istore_n C [(3, .int (oxG g)), (0, .ref (a 0)), (1, .ref (a2 0)), (2, .int (gs g))] dX3_explains_12 rfl (by decide) rfl ?_
    refine kw_iload_n C 3 dX3_explains_13 rfl ?_
    have J25_2 : ∀ (_ : Unit), KW p l e ({ frames := 3, cells := 0, slots := 0, locals := 78 }) s m ([.ref (a 0), .ref (a2 0), .int (gs g)] : List Value).toArray below meth c 0 0 (MQ below (va_Qi (fun (r : Int32) (u : Int64 × Int64 × Int64) => r = (bI (exB W H N D blk o cl kk M sx sy sc g)) ∧ (exB W H N D blk o cl kk M sx sy sc g = true → u.1 = PG W H N D blk o cl kk 0 g ∧ u.2.1 = PG W H N D blk o cl kk 1 g ∧ u.2.2 = PG W H N D blk o cl kk 2 g)) (fun (u : Int64 × Int64 × Int64) t => PO G A (kSight y a (nI M, u.1, u.2.1, u.2.2, xs, ys, cs, tal) ++ kWork y a2 (nI W, nI H, nI N, nI D, p1, p2, p3, col, od, blk, slp)) t) A) ([.ref (a 0), .ref (a2 0), .int (gs g)] : List Value).toArray s 0 0 A) G A 6 (kSight y a (nI M, q1, q2, q3, xs, ys, cs, tal) ++ kWork y a2 (nI W, nI H, nI N, nI D, p1, p2, p3, col, od, blk, slp)) [(3, .int (oxG g)), (0, .ref (a 0)), (1, .ref (a2 0)), (2, .int (gs g))] 25 [.int (nI (skG g))] := by
      intro _
      have hsk := skG_lt g
      refine kw_istore C [(4, .int (nI (skG g))), (3, .int (oxG g)), (0, .ref (a 0)), (1, .ref (a2 0)), (2, .int (gs g))] dX3_explains_25 (by decide) rfl ?_
      refine kw_aload_n C 3 dX3_explains_27 rfl ?_
      refine kw_iload_n C 1 dX3_explains_28 rfl ?_
      refine kV_i (As := [.int (oxG g)]) (rest := []) (ws' := fun (u : Unit) => kSight y a (nI M, q1, q2, q3, xs, ys, cs, tal) ++ kWork y a2 (nI W, nI H, nI N, nI D, p1, p2, p3, col, od, blk, slp)) C (c_X5_hasInk l G y t a2 W H N D p1 p2 p3 col od blk slp (oxG g) (by first | assumption | omega | decide)) (cwV 1 C.2.2.2.2.1 (goodV cT wd_403 wd_555 wd_401 wd_402 wd_42) rfl rfl rfl (by decide +kernel) ⟨by decide, by decide⟩) [6, 7, 8, 9, 10, 11] [0, 1, 2, 3, 4, 5] [0, 1, 2, 3, 4, 5, 6, 7, 8, 9, 10, 11] rfl (by decide) rfl (by decide) (by decide) (fun _ => rfl) (by decide) 6 rfl rfl rfl (Nat.le_of_ble_eq_true rfl) ⟨by decide, by decide⟩ dX3_explains_29 (fun r u hr_3 => ?_)
      subst hr_3
      refine kw_if_eq_D (tgt := 48) C dX3_explains_32 (by decide) (fun c_32 => ?_) (fun c_32 => ?_)
      ·
        have hsk3 : ¬ (g ≠ 0 ∧ kk ((g - 1) / 9) = (g - 1) % 9) := by
          intro h
          apply c_32
          have hox : oxG g = nI ((g - 1) / 9) := by unfold oxG; rw [if_neg h.1]
          rw [hox]
          exact inR_of (by omega) (by omega)
        refine kw_aload_n C 3 dX3_explains_48 rfl ?_
        refine kw_aload_n C 2 dX3_explains_49 rfl ?_
        refine kw_get (v := .ref (a 4)) (T := TX3) C 0 4 rfl rfl (by decide) (fun w h => mT (fwX3 w h)) rfl (mT wd_183) rfl dX3_explains_50 ?_
        refine kw_iload_n C 1 dX3_explains_53 rfl ?_
        refine kw_iload C 0 dX3_explains_54 rfl ?_
        refine kV_v (As := [.ref (a 4), .int (oxG g), .int (nI (skG g))]) (rest := []) (ws' := fun (u : Unit) => kSight y a (nI M, pfP W H D blk o cl kk (oxG g) (skG g) 0 N, pfP W H D blk o cl kk (oxG g) (skG g) 1 N, pfP W H D blk o cl kk (oxG g) (skG g) 2 N, xs, ys, cs, tal) ++ kWork y a2 (nI W, nI H, nI N, nI D, p1, p2, p3, col, od, blk, slp)) C (c_X5_proofInto l G y t a2 W H N D p1 p2 p3 col od blk slp o cl kk (a 4) q1 q2 q3 (oxG g) (skG g) (by first | assumption | omega | decide) (by first | assumption | omega | decide) (by first | assumption | omega | decide) (by first | assumption | omega | decide) (by first | assumption | omega | decide) (by first | assumption | omega | decide) (by first | assumption | omega | decide) (by assumption)) (cwV 3 C.2.2.2.2.1 (goodV cT wd_435 wd_556 wd_433 wd_434 wd_42) rfl rfl rfl (by decide +kernel) ⟨by decide, by decide⟩) [6, 7, 8, 9, 10, 11, 4] [0, 1, 2, 3, 5] [0, 1, 2, 3, 11, 4, 5, 6, 7, 8, 9, 10] rfl (by decide) rfl (by decide) (by decide) (fun _ => rfl) (by decide) 6 rfl rfl rfl (Nat.le_of_ble_eq_true rfl) ⟨by decide, by decide⟩ dX3_explains_56 (fun u hr_4 => ?_)
        refine kw_iconst (v := nI 0) C dX3_explains_59 (by decide) ?_
        refine kw_istore C [(5, .int (nI 0)), (4, .int (nI (skG g))), (3, .int (oxG g)), (0, .ref (a 0)), (1, .ref (a2 0)), (2, .int (gs g))] dX3_explains_60 (by decide) rfl ?_
        have L62_5 : ∀ (nn : Nat) (i : Nat) (hi : i ≤ M) (hsb : seenB (PG W H N D blk o cl kk 0 g) (PG W H N D blk o cl kk 1 g) (PG W H N D blk o cl kk 2 g) W H sx sy sc i = true) (hms : M - i < nn), KW p l e ({ frames := 3, cells := 0, slots := 0, locals := 78 }) s m ([.ref (a 0), .ref (a2 0), .int (gs g)] : List Value).toArray below meth c 0 0 (MQ below (va_Qi (fun (r : Int32) (u : Int64 × Int64 × Int64) => r = (bI (exB W H N D blk o cl kk M sx sy sc g)) ∧ (exB W H N D blk o cl kk M sx sy sc g = true → u.1 = PG W H N D blk o cl kk 0 g ∧ u.2.1 = PG W H N D blk o cl kk 1 g ∧ u.2.2 = PG W H N D blk o cl kk 2 g)) (fun (u : Int64 × Int64 × Int64) t => PO G A (kSight y a (nI M, u.1, u.2.1, u.2.2, xs, ys, cs, tal) ++ kWork y a2 (nI W, nI H, nI N, nI D, p1, p2, p3, col, od, blk, slp)) t) A) ([.ref (a 0), .ref (a2 0), .int (gs g)] : List Value).toArray s 0 0 A) G A 6 (kSight y a (nI M, PG W H N D blk o cl kk 0 g, PG W H N D blk o cl kk 1 g, PG W H N D blk o cl kk 2 g, xs, ys, cs, tal) ++ kWork y a2 (nI W, nI H, nI N, nI D, p1, p2, p3, col, od, blk, slp)) [(5, .int (nI i)), (4, .int (nI (skG g))), (3, .int (oxG g)), (0, .ref (a 0)), (1, .ref (a2 0)), (2, .int (gs g))] 62 [] := by
          intro nn
          induction nn with
          | zero => intro i hi hsb hms; exact absurd hms (Nat.not_lt_zero _)
          | succ nn ih_62 =>
            intro i hi hsb hms
            refine kw_iload C 0 dX3_explains_62 rfl ?_
            refine kw_aload_n C 3 dX3_explains_64 rfl ?_
            refine kw_get (v := .int (nI M)) (T := TX3) C 0 3 rfl rfl (by decide) (fun w h => mT (fwX3 w h)) rfl (mT wd_181) rfl dX3_explains_65 ?_
            refine kw_icmp_ge_N (tgt := 131) C (by omega) (by omega) dX3_explains_68 (by decide) (fun c_68 => ?_) (fun c_68 => ?_)
            ·
              refine kw_iconst (v := nI 1) C dX3_explains_131 (by decide) ?_
              refine kR_z C (PG W H N D blk o cl kk 0 g, PG W H N D blk o cl kk 1 g, PG W H N D blk o cl kk 2 g) dX3_explains_132 (by first | decide | exact bI_z _ | rfl) ?_ rfl
              have e : exB W H N D blk o cl kk M sx sy sc g = true := by unfold exB; rw [decide_eq_false hsk3, ← show i = M from by omega, hsb]; rfl
              rw [e]; exact ⟨rfl, fun _ => ⟨rfl, rfl, rfl⟩⟩
            ·
              refine kw_aload_n C 4 dX3_explains_71 rfl ?_
              refine kw_aload_n C 3 dX3_explains_72 rfl ?_
              refine kw_get (v := .ref (a 1)) (T := TX3) C 0 0 rfl rfl (by decide) (fun w h => mT (fwX3 w h)) rfl (mT wd_178) rfl dX3_explains_73 ?_
              refine kw_iload C 0 dX3_explains_76 rfl ?_
              refine kw_iald (f := xs) C 1 rfl (by omega) (by decide) dX3_explains_78 ?_
              have hs1 := hse i (by omega)
              refine kw_aload_n C 3 dX3_explains_79 rfl ?_
              refine kw_get (v := .ref (a 2)) (T := TX3) C 0 1 rfl rfl (by decide) (fun w h => mT (fwX3 w h)) rfl (mT wd_179) rfl dX3_explains_80 ?_
              refine kw_iload C 0 dX3_explains_83 rfl ?_
              refine kw_iald (f := ys) C 2 rfl (by omega) (by decide) dX3_explains_85 ?_
              refine kV_i (As := [.int (xs i), .int (ys i)]) (rest := []) (ws' := fun (u : Unit) => kSight y a (nI M, PG W H N D blk o cl kk 0 g, PG W H N D blk o cl kk 1 g, PG W H N D blk o cl kk 2 g, xs, ys, cs, tal) ++ kWork y a2 (nI W, nI H, nI N, nI D, p1, p2, p3, col, od, blk, slp)) C (c_X5_hasCell l G y t a2 W H N D p1 p2 p3 col od blk slp (xs i) (ys i) (by first | assumption | omega | decide) (by first | assumption | omega | decide)) (cwV 2 C.2.2.2.2.1 (goodV cT wd_407 wd_557 wd_405 wd_406 wd_42) rfl rfl rfl (by decide +kernel) ⟨by decide, by decide⟩) [6, 7, 8, 9, 10, 11] [0, 1, 2, 3, 4, 5] [0, 1, 2, 3, 4, 5, 6, 7, 8, 9, 10, 11] rfl (by decide) rfl (by decide) (by decide) (fun _ => rfl) (by decide) 6 rfl rfl rfl (Nat.le_of_ble_eq_true rfl) ⟨by decide, by decide⟩ dX3_explains_86 (fun r u hr_6 => ?_)
              subst hr_6
              refine kw_if_eq_D (tgt := 123) C dX3_explains_89 (by decide) (fun c_89 => ?_) (fun c_89 => ?_)
              ·
                refine kw_iconst (v := nI 0) C dX3_explains_123 (by decide) ?_
                refine kR_z C (PG W H N D blk o cl kk 0 g, PG W H N D blk o cl kk 1 g, PG W H N D blk o cl kk 2 g) dX3_explains_124 (by first | decide | exact bI_z _ | rfl) ?_ rfl
                have e : exB W H N D blk o cl kk M sx sy sc g = false := by
                  unfold exB
                  rw [seenB_f (i := i) (by first | (intro h; apply c_89; rw [hs1.1, hs1.2.1]; exact ⟨inR_of h.1 (by omega), inR_of h.2.1 (by omega)⟩) | (intro h; exact c_120 h.2.2)) (by omega)]
                  exact Bool.and_false _
                rw [e]; exact ⟨rfl, fun h => absurd h (by decide)⟩
              ·
                have hx2 : inR (nI (sx i)) W ∧ inR (nI (sy i)) H := by rw [← hs1.1, ← hs1.2.1]; exact c_89
                refine kw_aload_n C 3 dX3_explains_92 rfl ?_
                refine kw_get (v := .ref (a 4)) (T := TX3) C 0 4 rfl rfl (by decide) (fun w h => mT (fwX3 w h)) rfl (mT wd_183) rfl dX3_explains_93 ?_
                refine kw_aload_n C 3 dX3_explains_96 rfl ?_
                refine kw_get (v := .ref (a 1)) (T := TX3) C 0 0 rfl rfl (by decide) (fun w h => mT (fwX3 w h)) rfl (mT wd_178) rfl dX3_explains_97 ?_
                refine kw_iload C 0 dX3_explains_100 rfl ?_
                refine kw_iald (f := xs) C 1 rfl (by omega) (by decide) dX3_explains_102 ?_
                refine kw_top (show (xs i) = (nI (sx i)) from by exact hs1.1) ?_
                refine kw_aload_n C 3 dX3_explains_103 rfl ?_
                refine kw_get (v := .ref (a 2)) (T := TX3) C 0 1 rfl rfl (by decide) (fun w h => mT (fwX3 w h)) rfl (mT wd_179) rfl dX3_explains_104 ?_
                refine kw_iload C 0 dX3_explains_107 rfl ?_
                refine kw_iald (f := ys) C 2 rfl (by omega) (by decide) dX3_explains_109 ?_
                refine kw_top (show (ys i) = (nI (sy i)) from by exact hs1.2.1) ?_
                refine kV_i (As := [.int (nI (sx i)), .int (nI (sy i))]) (rest := []) (ws' := fun (u : Unit) => kSight y a (nI M, PG W H N D blk o cl kk 0 g, PG W H N D blk o cl kk 1 g, PG W H N D blk o cl kk 2 g, xs, ys, cs, tal) ++ kWork y a2 (nI W, nI H, nI N, nI D, p1, p2, p3, col, od, blk, slp)) C (c_X2_at l G y t (a 4) (PG W H N D blk o cl kk 0 g) (PG W H N D blk o cl kk 1 g) (PG W H N D blk o cl kk 2 g) (sx i) (sy i)) (cwV 2 C.2.2.2.2.1 (goodV cT wd_471 wd_558 wd_469 wd_470 wd_43) rfl rfl rfl (by decide +kernel) ⟨by decide, by decide⟩) [4] [0, 1, 2, 3, 5, 6, 7, 8, 9, 10, 11] [0, 1, 2, 3, 11, 4, 5, 6, 7, 8, 9, 10] rfl (by decide) rfl (by decide) (by decide) (fun _ => rfl) (by decide) 4 rfl rfl rfl (Nat.le_of_ble_eq_true rfl) ⟨by decide, by decide⟩ dX3_explains_110 (fun r u hr_7 => ?_)
                subst hr_7
                refine kw_aload_n C 3 dX3_explains_113 rfl ?_
                refine kw_get (v := .ref (a 3)) (T := TX3) C 0 2 rfl rfl (by decide) (fun w h => mT (fwX3 w h)) rfl (mT wd_180) rfl dX3_explains_114 ?_
                refine kw_iload C 0 dX3_explains_117 rfl ?_
                refine kw_iald (f := cs) C 3 rfl (by omega) (by decide) dX3_explains_119 ?_
                refine kw_top (show (cs i) = (nI (sc i)) from by exact hs1.2.2.1) ?_
                refine kw_icmp_eq_N (tgt := 125) C (by first | (have := hs1.2.2.2.2.2; omega) | exact Nat.lt_trans (atL_lt _ _ _ _) (by decide)) (by first | (have := hs1.2.2.2.2.2; omega) | exact Nat.lt_trans (atL_lt _ _ _ _) (by decide)) dX3_explains_120 (by decide) (fun c_120 => ?_) (fun c_120 => ?_)
                ·
                  refine kw_iinc (v := nI (i + 1)) C [(5, .int (nI (i + 1))), (4, .int (nI (skG g))), (3, .int (oxG g)), (0, .ref (a 0)), (1, .ref (a2 0)), (2, .int (gs g))] 0 dX3_explains_125 rfl (nI_1 _) (by decide) rfl ?_
                  refine kw_goto (tgt := 62) C dX3_explains_128 (by decide) ?_
                  refine KW.loc (lv' := [(5, .int (nI (i + 1))), (4, .int (nI (skG g))), (3, .int (oxG g)), (0, .ref (a 0)), (1, .ref (a2 0)), (2, .int (gs g))]) [0, 1, 2, 3, 4, 5] rfl ?_
                  exact ih_62 (i + 1) (by first | assumption | omega | (simp; done)) (by simp only [seenB]; rw [hsb, decide_eq_true (And.intro ((inR_iff (by omega)).mp hx2.1) (And.intro ((inR_iff (by omega)).mp hx2.2) c_120))]; rfl) (by omega)
                ·
                  refine kw_iconst (v := nI 0) C dX3_explains_123 (by decide) ?_
                  refine kR_z C (PG W H N D blk o cl kk 0 g, PG W H N D blk o cl kk 1 g, PG W H N D blk o cl kk 2 g) dX3_explains_124 (by first | decide | exact bI_z _ | rfl) ?_ rfl
                  have e : exB W H N D blk o cl kk M sx sy sc g = false := by
                    unfold exB
                    rw [seenB_f (i := i) (by first | (intro h; apply c_89; rw [hs1.1, hs1.2.1]; exact ⟨inR_of h.1 (by omega), inR_of h.2.1 (by omega)⟩) | (intro h; exact c_120 h.2.2)) (by omega)]
                    exact Bool.and_false _
                  rw [e]; exact ⟨rfl, fun h => absurd h (by decide)⟩
        refine KW.loc (lv' := [(5, .int (nI 0)), (4, .int (nI (skG g))), (3, .int (oxG g)), (0, .ref (a 0)), (1, .ref (a2 0)), (2, .int (gs g))]) [0, 1, 2, 3, 4, 5] rfl ?_
        refine KW.asw (congrArg (fun zz => (kSight y a (nI M, zz, pfP W H D blk o cl kk (oxG g) (skG g) 1 N, pfP W H D blk o cl kk (oxG g) (skG g) 2 N, xs, ys, cs, tal) ++ kWork y a2 (nI W, nI H, nI N, nI D, p1, p2, p3, col, od, blk, slp) : va_W)) (show (pfP W H D blk o cl kk (oxG g) (skG g) 0 N) = (PG W H N D blk o cl kk 0 g) from by rfl)) ?_
        refine KW.asw (congrArg (fun zz => (kSight y a (nI M, PG W H N D blk o cl kk 0 g, zz, pfP W H D blk o cl kk (oxG g) (skG g) 2 N, xs, ys, cs, tal) ++ kWork y a2 (nI W, nI H, nI N, nI D, p1, p2, p3, col, od, blk, slp) : va_W)) (show (pfP W H D blk o cl kk (oxG g) (skG g) 1 N) = (PG W H N D blk o cl kk 1 g) from by rfl)) ?_
        refine KW.asw (congrArg (fun zz => (kSight y a (nI M, PG W H N D blk o cl kk 0 g, PG W H N D blk o cl kk 1 g, zz, xs, ys, cs, tal) ++ kWork y a2 (nI W, nI H, nI N, nI D, p1, p2, p3, col, od, blk, slp) : va_W)) (show (pfP W H D blk o cl kk (oxG g) (skG g) 2 N) = (PG W H N D blk o cl kk 2 g) from by rfl)) ?_
        exact L62_5 (M - 0 + 1) 0 (by first | assumption | omega | (simp; done)) (by rfl) (Nat.lt_succ_self _)
      ·
        have hg0 : g ≠ 0 := by
          intro h
          rw [h] at c_32
          exact absurd c_32.1 (by decide)
        have hox : oxG g = nI ((g - 1) / 9) := by unfold oxG; rw [if_neg hg0]
        have hsk2 : skG g = (g - 1) % 9 := by unfold skG; rw [if_neg hg0]
        have hlt : (g - 1) / 9 < N := by omega
        have hks := hsl _ hlt
        refine kw_aload_n C 3 dX3_explains_35 rfl ?_
        refine kw_getN (v := .ref (a2 5)) (T := TX5) C 6 8 rfl rfl (by decide) (fun w h => mT (fwX5 w h)) rfl (List.mem_of_getElem? (i := 14) rfl) rfl dX3_explains_36 ?_
        refine kw_iload_n C 1 dX3_explains_39 rfl ?_
        refine kw_top (show (oxG g) = (nI ((g - 1) / 9)) from by exact hox) ?_
        refine kw_iald (f := slp) C 11 rfl (by omega) (by decide) dX3_explains_40 ?_
        refine kw_top (show (slp ((g - 1) / 9)) = (nI (kk ((g - 1) / 9))) from by exact hks.1) ?_
        refine kw_iload C 0 dX3_explains_41 rfl ?_
        refine kw_icmp_ne_N (tgt := 48) C (by have := hks.2; omega) (by have := hks.2; omega) dX3_explains_43 (by decide) (fun c_43 => ?_) (fun c_43 => ?_)
        ·
          have hsk3 : ¬ (g ≠ 0 ∧ kk ((g - 1) / 9) = (g - 1) % 9) := by intro h; apply c_43; rw [hsk2]; exact h.2
          refine kw_aload_n C 3 dX3_explains_48 rfl ?_
          refine kw_aload_n C 2 dX3_explains_49 rfl ?_
          refine kw_get (v := .ref (a 4)) (T := TX3) C 0 4 rfl rfl (by decide) (fun w h => mT (fwX3 w h)) rfl (mT wd_183) rfl dX3_explains_50 ?_
          refine kw_iload_n C 1 dX3_explains_53 rfl ?_
          refine kw_iload C 0 dX3_explains_54 rfl ?_
          refine kV_v (As := [.ref (a 4), .int (oxG g), .int (nI (skG g))]) (rest := []) (ws' := fun (u : Unit) => kSight y a (nI M, pfP W H D blk o cl kk (oxG g) (skG g) 0 N, pfP W H D blk o cl kk (oxG g) (skG g) 1 N, pfP W H D blk o cl kk (oxG g) (skG g) 2 N, xs, ys, cs, tal) ++ kWork y a2 (nI W, nI H, nI N, nI D, p1, p2, p3, col, od, blk, slp)) C (c_X5_proofInto l G y t a2 W H N D p1 p2 p3 col od blk slp o cl kk (a 4) q1 q2 q3 (oxG g) (skG g) (by first | assumption | omega | decide) (by first | assumption | omega | decide) (by first | assumption | omega | decide) (by first | assumption | omega | decide) (by first | assumption | omega | decide) (by first | assumption | omega | decide) (by first | assumption | omega | decide) (by assumption)) (cwV 3 C.2.2.2.2.1 (goodV cT wd_435 wd_556 wd_433 wd_434 wd_42) rfl rfl rfl (by decide +kernel) ⟨by decide, by decide⟩) [6, 7, 8, 9, 10, 11, 4] [0, 1, 2, 3, 5] [0, 1, 2, 3, 11, 4, 5, 6, 7, 8, 9, 10] rfl (by decide) rfl (by decide) (by decide) (fun _ => rfl) (by decide) 6 rfl rfl rfl (Nat.le_of_ble_eq_true rfl) ⟨by decide, by decide⟩ dX3_explains_56 (fun u hr_8 => ?_)
          refine kw_iconst (v := nI 0) C dX3_explains_59 (by decide) ?_
          refine kw_istore C [(5, .int (nI 0)), (4, .int (nI (skG g))), (3, .int (oxG g)), (0, .ref (a 0)), (1, .ref (a2 0)), (2, .int (gs g))] dX3_explains_60 (by decide) rfl ?_
          have L62_9 : ∀ (nn : Nat) (i : Nat) (hi : i ≤ M) (hsb : seenB (PG W H N D blk o cl kk 0 g) (PG W H N D blk o cl kk 1 g) (PG W H N D blk o cl kk 2 g) W H sx sy sc i = true) (hms : M - i < nn), KW p l e ({ frames := 3, cells := 0, slots := 0, locals := 78 }) s m ([.ref (a 0), .ref (a2 0), .int (gs g)] : List Value).toArray below meth c 0 0 (MQ below (va_Qi (fun (r : Int32) (u : Int64 × Int64 × Int64) => r = (bI (exB W H N D blk o cl kk M sx sy sc g)) ∧ (exB W H N D blk o cl kk M sx sy sc g = true → u.1 = PG W H N D blk o cl kk 0 g ∧ u.2.1 = PG W H N D blk o cl kk 1 g ∧ u.2.2 = PG W H N D blk o cl kk 2 g)) (fun (u : Int64 × Int64 × Int64) t => PO G A (kSight y a (nI M, u.1, u.2.1, u.2.2, xs, ys, cs, tal) ++ kWork y a2 (nI W, nI H, nI N, nI D, p1, p2, p3, col, od, blk, slp)) t) A) ([.ref (a 0), .ref (a2 0), .int (gs g)] : List Value).toArray s 0 0 A) G A 6 (kSight y a (nI M, PG W H N D blk o cl kk 0 g, PG W H N D blk o cl kk 1 g, PG W H N D blk o cl kk 2 g, xs, ys, cs, tal) ++ kWork y a2 (nI W, nI H, nI N, nI D, p1, p2, p3, col, od, blk, slp)) [(5, .int (nI i)), (4, .int (nI (skG g))), (3, .int (oxG g)), (0, .ref (a 0)), (1, .ref (a2 0)), (2, .int (gs g))] 62 [] := by
            intro nn
            induction nn with
            | zero => intro i hi hsb hms; exact absurd hms (Nat.not_lt_zero _)
            | succ nn ih_62 =>
              intro i hi hsb hms
              refine kw_iload C 0 dX3_explains_62 rfl ?_
              refine kw_aload_n C 3 dX3_explains_64 rfl ?_
              refine kw_get (v := .int (nI M)) (T := TX3) C 0 3 rfl rfl (by decide) (fun w h => mT (fwX3 w h)) rfl (mT wd_181) rfl dX3_explains_65 ?_
              refine kw_icmp_ge_N (tgt := 131) C (by omega) (by omega) dX3_explains_68 (by decide) (fun c_68 => ?_) (fun c_68 => ?_)
              ·
                refine kw_iconst (v := nI 1) C dX3_explains_131 (by decide) ?_
                refine kR_z C (PG W H N D blk o cl kk 0 g, PG W H N D blk o cl kk 1 g, PG W H N D blk o cl kk 2 g) dX3_explains_132 (by first | decide | exact bI_z _ | rfl) ?_ rfl
                have e : exB W H N D blk o cl kk M sx sy sc g = true := by unfold exB; rw [decide_eq_false hsk3, ← show i = M from by omega, hsb]; rfl
                rw [e]; exact ⟨rfl, fun _ => ⟨rfl, rfl, rfl⟩⟩
              ·
                refine kw_aload_n C 4 dX3_explains_71 rfl ?_
                refine kw_aload_n C 3 dX3_explains_72 rfl ?_
                refine kw_get (v := .ref (a 1)) (T := TX3) C 0 0 rfl rfl (by decide) (fun w h => mT (fwX3 w h)) rfl (mT wd_178) rfl dX3_explains_73 ?_
                refine kw_iload C 0 dX3_explains_76 rfl ?_
                refine kw_iald (f := xs) C 1 rfl (by omega) (by decide) dX3_explains_78 ?_
                have hs1 := hse i (by omega)
                refine kw_aload_n C 3 dX3_explains_79 rfl ?_
                refine kw_get (v := .ref (a 2)) (T := TX3) C 0 1 rfl rfl (by decide) (fun w h => mT (fwX3 w h)) rfl (mT wd_179) rfl dX3_explains_80 ?_
                refine kw_iload C 0 dX3_explains_83 rfl ?_
                refine kw_iald (f := ys) C 2 rfl (by omega) (by decide) dX3_explains_85 ?_
                refine kV_i (As := [.int (xs i), .int (ys i)]) (rest := []) (ws' := fun (u : Unit) => kSight y a (nI M, PG W H N D blk o cl kk 0 g, PG W H N D blk o cl kk 1 g, PG W H N D blk o cl kk 2 g, xs, ys, cs, tal) ++ kWork y a2 (nI W, nI H, nI N, nI D, p1, p2, p3, col, od, blk, slp)) C (c_X5_hasCell l G y t a2 W H N D p1 p2 p3 col od blk slp (xs i) (ys i) (by first | assumption | omega | decide) (by first | assumption | omega | decide)) (cwV 2 C.2.2.2.2.1 (goodV cT wd_407 wd_557 wd_405 wd_406 wd_42) rfl rfl rfl (by decide +kernel) ⟨by decide, by decide⟩) [6, 7, 8, 9, 10, 11] [0, 1, 2, 3, 4, 5] [0, 1, 2, 3, 4, 5, 6, 7, 8, 9, 10, 11] rfl (by decide) rfl (by decide) (by decide) (fun _ => rfl) (by decide) 6 rfl rfl rfl (Nat.le_of_ble_eq_true rfl) ⟨by decide, by decide⟩ dX3_explains_86 (fun r u hr_10 => ?_)
                subst hr_10
                refine kw_if_eq_D (tgt := 123) C dX3_explains_89 (by decide) (fun c_89 => ?_) (fun c_89 => ?_)
                ·
                  refine kw_iconst (v := nI 0) C dX3_explains_123 (by decide) ?_
                  refine kR_z C (PG W H N D blk o cl kk 0 g, PG W H N D blk o cl kk 1 g, PG W H N D blk o cl kk 2 g) dX3_explains_124 (by first | decide | exact bI_z _ | rfl) ?_ rfl
                  have e : exB W H N D blk o cl kk M sx sy sc g = false := by
                    unfold exB
                    rw [seenB_f (i := i) (by first | (intro h; apply c_89; rw [hs1.1, hs1.2.1]; exact ⟨inR_of h.1 (by omega), inR_of h.2.1 (by omega)⟩) | (intro h; exact c_120 h.2.2)) (by omega)]
                    exact Bool.and_false _
                  rw [e]; exact ⟨rfl, fun h => absurd h (by decide)⟩
                ·
                  have hx2 : inR (nI (sx i)) W ∧ inR (nI (sy i)) H := by rw [← hs1.1, ← hs1.2.1]; exact c_89
                  refine kw_aload_n C 3 dX3_explains_92 rfl ?_
                  refine kw_get (v := .ref (a 4)) (T := TX3) C 0 4 rfl rfl (by decide) (fun w h => mT (fwX3 w h)) rfl (mT wd_183) rfl dX3_explains_93 ?_
                  refine kw_aload_n C 3 dX3_explains_96 rfl ?_
                  refine kw_get (v := .ref (a 1)) (T := TX3) C 0 0 rfl rfl (by decide) (fun w h => mT (fwX3 w h)) rfl (mT wd_178) rfl dX3_explains_97 ?_
                  refine kw_iload C 0 dX3_explains_100 rfl ?_
                  refine kw_iald (f := xs) C 1 rfl (by omega) (by decide) dX3_explains_102 ?_
                  refine kw_top (show (xs i) = (nI (sx i)) from by exact hs1.1) ?_
                  refine kw_aload_n C 3 dX3_explains_103 rfl ?_
                  refine kw_get (v := .ref (a 2)) (T := TX3) C 0 1 rfl rfl (by decide) (fun w h => mT (fwX3 w h)) rfl (mT wd_179) rfl dX3_explains_104 ?_
                  refine kw_iload C 0 dX3_explains_107 rfl ?_
                  refine kw_iald (f := ys) C 2 rfl (by omega) (by decide) dX3_explains_109 ?_
                  refine kw_top (show (ys i) = (nI (sy i)) from by exact hs1.2.1) ?_
                  refine kV_i (As := [.int (nI (sx i)), .int (nI (sy i))]) (rest := []) (ws' := fun (u : Unit) => kSight y a (nI M, PG W H N D blk o cl kk 0 g, PG W H N D blk o cl kk 1 g, PG W H N D blk o cl kk 2 g, xs, ys, cs, tal) ++ kWork y a2 (nI W, nI H, nI N, nI D, p1, p2, p3, col, od, blk, slp)) C (c_X2_at l G y t (a 4) (PG W H N D blk o cl kk 0 g) (PG W H N D blk o cl kk 1 g) (PG W H N D blk o cl kk 2 g) (sx i) (sy i)) (cwV 2 C.2.2.2.2.1 (goodV cT wd_471 wd_558 wd_469 wd_470 wd_43) rfl rfl rfl (by decide +kernel) ⟨by decide, by decide⟩) [4] [0, 1, 2, 3, 5, 6, 7, 8, 9, 10, 11] [0, 1, 2, 3, 11, 4, 5, 6, 7, 8, 9, 10] rfl (by decide) rfl (by decide) (by decide) (fun _ => rfl) (by decide) 4 rfl rfl rfl (Nat.le_of_ble_eq_true rfl) ⟨by decide, by decide⟩ dX3_explains_110 (fun r u hr_11 => ?_)
                  subst hr_11
                  refine kw_aload_n C 3 dX3_explains_113 rfl ?_
                  refine kw_get (v := .ref (a 3)) (T := TX3) C 0 2 rfl rfl (by decide) (fun w h => mT (fwX3 w h)) rfl (mT wd_180) rfl dX3_explains_114 ?_
                  refine kw_iload C 0 dX3_explains_117 rfl ?_
                  refine kw_iald (f := cs) C 3 rfl (by omega) (by decide) dX3_explains_119 ?_
                  refine kw_top (show (cs i) = (nI (sc i)) from by exact hs1.2.2.1) ?_
                  refine kw_icmp_eq_N (tgt := 125) C (by first | (have := hs1.2.2.2.2.2; omega) | exact Nat.lt_trans (atL_lt _ _ _ _) (by decide)) (by first | (have := hs1.2.2.2.2.2; omega) | exact Nat.lt_trans (atL_lt _ _ _ _) (by decide)) dX3_explains_120 (by decide) (fun c_120 => ?_) (fun c_120 => ?_)
                  ·
                    refine kw_iinc (v := nI (i + 1)) C [(5, .int (nI (i + 1))), (4, .int (nI (skG g))), (3, .int (oxG g)), (0, .ref (a 0)), (1, .ref (a2 0)), (2, .int (gs g))] 0 dX3_explains_125 rfl (nI_1 _) (by decide) rfl ?_
                    refine kw_goto (tgt := 62) C dX3_explains_128 (by decide) ?_
                    refine KW.loc (lv' := [(5, .int (nI (i + 1))), (4, .int (nI (skG g))), (3, .int (oxG g)), (0, .ref (a 0)), (1, .ref (a2 0)), (2, .int (gs g))]) [0, 1, 2, 3, 4, 5] rfl ?_
                    exact ih_62 (i + 1) (by first | assumption | omega | (simp; done)) (by simp only [seenB]; rw [hsb, decide_eq_true (And.intro ((inR_iff (by omega)).mp hx2.1) (And.intro ((inR_iff (by omega)).mp hx2.2) c_120))]; rfl) (by omega)
                  ·
                    refine kw_iconst (v := nI 0) C dX3_explains_123 (by decide) ?_
                    refine kR_z C (PG W H N D blk o cl kk 0 g, PG W H N D blk o cl kk 1 g, PG W H N D blk o cl kk 2 g) dX3_explains_124 (by first | decide | exact bI_z _ | rfl) ?_ rfl
                    have e : exB W H N D blk o cl kk M sx sy sc g = false := by
                      unfold exB
                      rw [seenB_f (i := i) (by first | (intro h; apply c_89; rw [hs1.1, hs1.2.1]; exact ⟨inR_of h.1 (by omega), inR_of h.2.1 (by omega)⟩) | (intro h; exact c_120 h.2.2)) (by omega)]
                      exact Bool.and_false _
                    rw [e]; exact ⟨rfl, fun h => absurd h (by decide)⟩
          refine KW.loc (lv' := [(5, .int (nI 0)), (4, .int (nI (skG g))), (3, .int (oxG g)), (0, .ref (a 0)), (1, .ref (a2 0)), (2, .int (gs g))]) [0, 1, 2, 3, 4, 5] rfl ?_
          refine KW.asw (congrArg (fun zz => (kSight y a (nI M, zz, pfP W H D blk o cl kk (oxG g) (skG g) 1 N, pfP W H D blk o cl kk (oxG g) (skG g) 2 N, xs, ys, cs, tal) ++ kWork y a2 (nI W, nI H, nI N, nI D, p1, p2, p3, col, od, blk, slp) : va_W)) (show (pfP W H D blk o cl kk (oxG g) (skG g) 0 N) = (PG W H N D blk o cl kk 0 g) from by rfl)) ?_
          refine KW.asw (congrArg (fun zz => (kSight y a (nI M, PG W H N D blk o cl kk 0 g, zz, pfP W H D blk o cl kk (oxG g) (skG g) 2 N, xs, ys, cs, tal) ++ kWork y a2 (nI W, nI H, nI N, nI D, p1, p2, p3, col, od, blk, slp) : va_W)) (show (pfP W H D blk o cl kk (oxG g) (skG g) 1 N) = (PG W H N D blk o cl kk 1 g) from by rfl)) ?_
          refine KW.asw (congrArg (fun zz => (kSight y a (nI M, PG W H N D blk o cl kk 0 g, PG W H N D blk o cl kk 1 g, zz, xs, ys, cs, tal) ++ kWork y a2 (nI W, nI H, nI N, nI D, p1, p2, p3, col, od, blk, slp) : va_W)) (show (pfP W H D blk o cl kk (oxG g) (skG g) 2 N) = (PG W H N D blk o cl kk 2 g) from by rfl)) ?_
          exact L62_9 (M - 0 + 1) 0 (by first | assumption | omega | (simp; done)) (by rfl) (Nat.lt_succ_self _)
        ·
          refine kw_iconst (v := nI 0) C dX3_explains_46 (by decide) ?_
          refine kR_z C (q1, q2, q3) dX3_explains_47 (by first | decide | exact bI_z _ | rfl) ?_ rfl
          have e : exB W H N D blk o cl kk M sx sy sc g = false := by unfold exB; rw [decide_eq_true (show g ≠ 0 ∧ kk ((g - 1) / 9) = (g - 1) % 9 from ⟨hg0, by omega⟩)]; rfl
          rw [e]; exact ⟨rfl, fun h => absurd h (by decide)⟩
    refine kw_if_ge (tgt := 21) C dX3_explains_14 (by decide) (fun c_14 => ?_) (fun c_14 => ?_)
    ·
      refine kw_iload_n C 3 dX3_explains_21 rfl ?_
      refine kw_top (show (gs g) = (nI (g - 1)) from by have hp := (gs_pos (g := g) (by omega)).mp c_14; rw [show g = (g - 1) + 1 from by omega, gs_s]; rfl) ?_
      refine kw_bipush (v := nI 9) C dX3_explains_22 (by decide) ?_
      refine kw_irem C dX3_explains_24 (by decide) (kw_top (pk_rem (by omega) (by decide) (by decide)) ?_)
      refine KW.loc (lv' := [(3, .int (oxG g)), (0, .ref (a 0)), (1, .ref (a2 0)), (2, .int (gs g))]) [0, 1, 2, 3] rfl ?_
      refine KW.ass (congrArg (fun zz => ([.int zz] : List Value)) (show (nI ((g - 1) % 9)) = (nI (skG g)) from by first | (unfold skG; rw [if_pos (Nat.eq_zero_of_not_pos (fun h => c_14 ((gs_pos (by omega)).mpr h)))]; done) | (have hp := (gs_pos (g := g) (by omega)).mp c_14; unfold skG; rw [if_neg (by omega)]))) ?_
      exact J25_2 ()
    ·
      refine kw_iconst (v := nI 4) C dX3_explains_17 (by decide) ?_
      refine kw_goto (tgt := 25) C dX3_explains_18 (by decide) ?_
      refine KW.loc (lv' := [(3, .int (oxG g)), (0, .ref (a 0)), (1, .ref (a2 0)), (2, .int (gs g))]) [0, 1, 2, 3] rfl ?_
      refine KW.ass (congrArg (fun zz => ([.int zz] : List Value)) (show (nI 4) = (nI (skG g)) from by first | (unfold skG; rw [if_pos (Nat.eq_zero_of_not_pos (fun h => c_14 ((gs_pos (by omega)).mpr h)))]; done) | (have hp := (gs_pos (g := g) (by omega)).mp c_14; unfold skG; rw [if_neg (by omega)]))) ?_
      exact J25_2 ()
  refine kw_if_ge (tgt := 8) C dX3_explains_1 (by decide) (fun c_1 => ?_) (fun c_1 => ?_)
  ·
    refine kw_iload_n C 2 dX3_explains_8 rfl ?_
    refine kw_top (show (gs g) = (nI (g - 1)) from by have hp := (gs_pos (g := g) (by omega)).mp c_1; rw [show g = (g - 1) + 1 from by omega, gs_s]; rfl) ?_
    refine kw_bipush (v := nI 9) C dX3_explains_9 (by decide) ?_
    refine kw_idiv C dX3_explains_11 (by decide) (kw_top (pk_div (by omega) (by decide) (by decide)) ?_)
    refine KW.loc (lv' := [(0, .ref (a 0)), (1, .ref (a2 0)), (2, .int (gs g))]) [0, 1, 2] rfl ?_
    refine KW.ass (congrArg (fun zz => ([.int zz] : List Value)) (show (nI ((g - 1) / 9)) = (oxG g) from by first | (unfold oxG; rw [if_pos (Nat.eq_zero_of_not_pos (fun h => c_1 ((gs_pos (by omega)).mpr h)))]; done) | (have hp := (gs_pos (g := g) (by omega)).mp c_1; unfold oxG; rw [if_neg (by omega)]))) ?_
    exact J12_1 ()
  ·
    refine kw_iconst (v := (-1)) C dX3_explains_4 (by decide) ?_
    refine kw_goto (tgt := 12) C dX3_explains_5 (by decide) ?_
    refine KW.loc (lv' := [(0, .ref (a 0)), (1, .ref (a2 0)), (2, .int (gs g))]) [0, 1, 2] rfl ?_
    refine KW.ass (congrArg (fun zz => ([.int zz] : List Value)) (show (-1) = (oxG g) from by first | (unfold oxG; rw [if_pos (Nat.eq_zero_of_not_pos (fun h => c_1 ((gs_pos (by omega)).mpr h)))]; done) | (have hp := (gs_pos (g := g) (by omega)).mp c_1; unfold oxG; rw [if_neg (by omega)]))) ?_
    exact J12_1 ()

set_option maxHeartbeats 4000000 in
set_option maxRecDepth 100000 in
theorem c_X3_howManyExplain (l : Launch) (G : va_G) (y : Nat → ClassId) (t : Nat) (a : Nat → Nat) (M : Nat) (q1 : Int64) (q2 : Int64) (q3 : Int64) (xs : Nat → Int32) (ys : Nat → Int32) (cs : Nat → Int32) (tal : Nat → Int32) (a2 : Nat → Nat) (W : Nat) (H : Nat) (N : Nat) (D : Nat) (p1 : Int64) (p2 : Int64) (p3 : Int64) (col : Nat → Int32) (od : Nat → Int32) (blk : Nat → Int64) (slp : Nat → Int32) (o : Nat → Nat) (cl : Nat → Nat) (kk : Nat → Nat) (sx : Nat → Nat) (sy : Nat → Nat) (sc : Nat → Nat) (hW : W ≤ 6) (hH : H ≤ 6) (hN : N ≤ 6) (hD : D < 64) (hod : ∀ q, q < N → od q = nI (o q) ∧ o q < N) (hcol : ∀ i, i < N → col i = nI (cl i) ∧ cl i < 8) (hsl : ∀ i, i < N → slp i = nI (kk i) ∧ kk i < 9) (hM : M ≤ 6) (hse : ∀ i, i < M → xs i = nI (sx i) ∧ ys i = nI (sy i) ∧ cs i = nI (sc i) ∧ sx i < 6 ∧ sy i < 6 ∧ sc i < 8) (sz : Nat) : Met l yX3_howManyExplain (Cond.code yX3_howManyExplain cX3_howManyExplain 4 (some .int) :: TG) ({ frames := 4, cells := 0, slots := 0, locals := 103 }) (va_Pc [.ref (a 0), .ref (a2 0)] (PR G y t (kSight y a (nI M, q1, q2, q3, xs, ys, cs, tal) ++ kWork y a2 (nI W, nI H, nI N, nI D, p1, p2, p3, col, od, blk, slp)) sz)) (va_Qi (fun (r : Int32) (u : Int64 × Int64 × Int64) => r = (nI (cntG (exB W H N D blk o cl kk M sx sy sc) (9 * N + 1)))) (fun (u : Int64 × Int64 × Int64) t => PO G (va_A (kSight y a (nI M, q1, q2, q3, xs, ys, cs, tal) ++ kWork y a2 (nI W, nI H, nI N, nI D, p1, p2, p3, col, od, blk, slp)) sz) (kSight y a (nI M, u.1, u.2.1, u.2.2, xs, ys, cs, tal) ++ kWork y a2 (nI W, nI H, nI N, nI D, p1, p2, p3, col, od, blk, slp)) t) (va_A (kSight y a (nI M, q1, q2, q3, xs, ys, cs, tal) ++ kWork y a2 (nI W, nI H, nI N, nI D, p1, p2, p3, col, od, blk, slp)) sz)) 0 0 (va_A (kSight y a (nI M, q1, q2, q3, xs, ys, cs, tal) ++ kWork y a2 (nI W, nI H, nI N, nI D, p1, p2, p3, col, od, blk, slp)) sz) := by
  refine kMet (cc := cX3_howManyExplain) (maxL := 4) (ret := some .int) (Qc := fun A => va_Qi (fun (r : Int32) (u : Int64 × Int64 × Int64) => r = (nI (cntG (exB W H N D blk o cl kk M sx sy sc) (9 * N + 1)))) (fun (u : Int64 × Int64 × Int64) t => PO G A (kSight y a (nI M, u.1, u.2.1, u.2.2, xs, ys, cs, tal) ++ kWork y a2 (nI W, nI H, nI N, nI D, p1, p2, p3, col, od, blk, slp)) t) A) (by decide) rfl (Nat.le_of_ble_eq_true rfl) (fun p e s m below meth c A hsz C hin => ?_)
  refine KW.loc (lv' := [(0, .ref (a 0)), (1, .ref (a2 0))]) [0, 1] rfl ?_
  refine kw_iconst (v := nI 0) C dX3_howManyExplain_0 (by decide) ?_
  refine kw_istore_n C [(2, .int (nI 0)), (0, .ref (a 0)), (1, .ref (a2 0))] dX3_howManyExplain_1 rfl (by decide) rfl ?_
  refine kw_iconst (v := (-1)) C dX3_howManyExplain_2 (by decide) ?_
  refine kw_istore_n C [(3, .int (-1)), (2, .int (nI 0)), (0, .ref (a 0)), (1, .ref (a2 0))] dX3_howManyExplain_3 rfl (by decide) rfl ?_
  have L4_1 : ∀ (nn : Nat) (g : Nat) (s1 : Int64) (s2 : Int64) (s3 : Int64) (hgg : g ≤ 9 * N + 1) (hms : 9 * N + 1 - g < nn), KW p l e ({ frames := 4, cells := 0, slots := 0, locals := 103 }) s m ([.ref (a 0), .ref (a2 0)] : List Value).toArray below meth c 0 0 (MQ below (va_Qi (fun (r : Int32) (u : Int64 × Int64 × Int64) => r = (nI (cntG (exB W H N D blk o cl kk M sx sy sc) (9 * N + 1)))) (fun (u : Int64 × Int64 × Int64) t => PO G A (kSight y a (nI M, u.1, u.2.1, u.2.2, xs, ys, cs, tal) ++ kWork y a2 (nI W, nI H, nI N, nI D, p1, p2, p3, col, od, blk, slp)) t) A) ([.ref (a 0), .ref (a2 0)] : List Value).toArray s 0 0 A) G A 4 (kSight y a (nI M, s1, s2, s3, xs, ys, cs, tal) ++ kWork y a2 (nI W, nI H, nI N, nI D, p1, p2, p3, col, od, blk, slp)) [(3, .int (gs g)), (2, .int (nI (cntG (exB W H N D blk o cl kk M sx sy sc) g))), (0, .ref (a 0)), (1, .ref (a2 0))] 4 [] := by
    intro nn
    induction nn with
    | zero => intro g s1 s2 s3 hgg hms; exact absurd hms (Nat.not_lt_zero _)
    | succ nn ih_4 =>
      intro g s1 s2 s3 hgg hms
      refine kw_iload_n C 0 dX3_howManyExplain_4 rfl ?_
      refine kw_bipush (v := nI 9) C dX3_howManyExplain_5 (by decide) ?_
      refine kw_aload_n C 3 dX3_howManyExplain_7 rfl ?_
      refine kw_getN (v := .int (nI N)) (T := TX5) C 6 2 rfl rfl (by decide) (fun w h => mT (fwX5 w h)) rfl (List.mem_of_getElem? (i := 6) rfl) rfl dX3_howManyExplain_8 ?_
      refine kw_imul C dX3_howManyExplain_11 (kw_top (pk_mul _ _) ?_)
      refine kw_icmp_ge (tgt := 33) C dX3_howManyExplain_12 (by decide) (fun c_12 => ?_) (fun c_12 => ?_)
      ·
        have hgE : g = 9 * N + 1 := by
          have := (gs_ge (g := g) (n := 9 * N) (by omega) (by omega)).mp c_12
          omega
        refine kw_iload_n C 1 dX3_howManyExplain_33 rfl ?_
        refine kR_i C (s1, s2, s3) dX3_howManyExplain_34 ?_ rfl
        rw [hgE]
      ·
        have hgN : g ≤ 9 * N := by
          rcases Nat.lt_or_ge (9 * N) g with h | h
          · exact absurd ((gs_ge (by omega) (by omega)).mpr h) c_12
          · exact h
        refine kw_aload_n C 2 dX3_howManyExplain_15 rfl ?_
        refine kw_aload_n C 3 dX3_howManyExplain_16 rfl ?_
        refine kw_iload_n C 0 dX3_howManyExplain_17 rfl ?_
        refine kV_i (As := [.ref (a2 0), .int (gs g)]) (rest := []) (ws' := fun (u : Int64 × Int64 × Int64) => kSight y a (nI M, u.1, u.2.1, u.2.2, xs, ys, cs, tal) ++ kWork y a2 (nI W, nI H, nI N, nI D, p1, p2, p3, col, od, blk, slp)) C (c_X3_explains l G y t a M s1 s2 s3 xs ys cs tal a2 W H N D p1 p2 p3 col od blk slp o cl kk sx sy sc g (by first | assumption | omega | decide) (by first | assumption | omega | decide) (by first | assumption | omega | decide) (by first | assumption | omega | decide) (by first | assumption | omega | decide) (by first | assumption | omega | decide) (by first | assumption | omega | decide) (by first | assumption | omega | decide) (by first | assumption | omega | decide) (by exact hgN)) (cwV 2 C.2.2.2.2.1 (goodV cT wd_554 wd_551 wd_553 wd_9 wd_46) rfl rfl rfl (by decide +kernel) ⟨by decide, by decide⟩) [0, 1, 2, 3, 4, 5, 6, 7, 8, 9, 10, 11] [] [0, 1, 2, 3, 4, 5, 6, 7, 8, 9, 10, 11] rfl (by decide) rfl (by decide) (by decide) (fun _ => rfl) (by decide) 0 rfl rfl rfl (Nat.le_of_ble_eq_true rfl) ⟨by decide, by decide⟩ dX3_howManyExplain_18 (fun r u hr_5 => ?_)
        obtain ⟨r1_2, r2_3, r3_4⟩ := u
        try dsimp only at hr_5
        obtain ⟨hq, hr_5⟩ := hr_5
        subst hq
        refine kw_if_eq_B (tgt := 27) C dX3_howManyExplain_21 (by decide) (fun c_21 => ?_) (fun c_21 => ?_)
        ·
          refine kw_iinc (v := gs (g + 1)) C [(3, .int (gs (g + 1))), (2, .int (nI (cntG (exB W H N D blk o cl kk M sx sy sc) g))), (0, .ref (a 0)), (1, .ref (a2 0))] 0 dX3_howManyExplain_27 rfl (by exact gs_inc g) (by decide) rfl ?_
          refine kw_goto (tgt := 4) C dX3_howManyExplain_30 (by decide) ?_
          refine KW.loc (lv' := [(3, .int (gs (g + 1))), (2, .int (nI (cntG (exB W H N D blk o cl kk M sx sy sc) g))), (0, .ref (a 0)), (1, .ref (a2 0))]) [0, 1, 2, 3] rfl ?_
          refine KW.asl (congrArg (fun zz => ([(3, .int (gs (g + 1))), (2, .int zz), (0, .ref (a 0)), (1, .ref (a2 0))] : List (Nat × Value))) (show (nI (cntG (exB W H N D blk o cl kk M sx sy sc) g)) = (nI (cntG (exB W H N D blk o cl kk M sx sy sc) (g + 1))) from by simp [cntG, c_21])) ?_
          exact ih_4 (g + 1) r1_2 r2_3 r3_4 (by first | assumption | omega | (simp; done)) (by omega)
        ·
          refine kw_iinc (v := nI ((cntG (exB W H N D blk o cl kk M sx sy sc) g) + 1)) C [(2, .int (nI ((cntG (exB W H N D blk o cl kk M sx sy sc) g) + 1))), (3, .int (gs g)), (0, .ref (a 0)), (1, .ref (a2 0))] 1 dX3_howManyExplain_24 rfl (nI_1 _) (by decide) rfl ?_
          refine kw_iinc (v := gs (g + 1)) C [(3, .int (gs (g + 1))), (2, .int (nI ((cntG (exB W H N D blk o cl kk M sx sy sc) g) + 1))), (0, .ref (a 0)), (1, .ref (a2 0))] 1 dX3_howManyExplain_27 rfl (by exact gs_inc g) (by decide) rfl ?_
          refine kw_goto (tgt := 4) C dX3_howManyExplain_30 (by decide) ?_
          refine KW.loc (lv' := [(3, .int (gs (g + 1))), (2, .int (nI ((cntG (exB W H N D blk o cl kk M sx sy sc) g) + 1))), (0, .ref (a 0)), (1, .ref (a2 0))]) [0, 1, 2, 3] rfl ?_
          refine KW.asl (congrArg (fun zz => ([(3, .int (gs (g + 1))), (2, .int zz), (0, .ref (a 0)), (1, .ref (a2 0))] : List (Nat × Value))) (show (nI ((cntG (exB W H N D blk o cl kk M sx sy sc) g) + 1)) = (nI (cntG (exB W H N D blk o cl kk M sx sy sc) (g + 1))) from by simp [cntG, c_21])) ?_
          exact ih_4 (g + 1) r1_2 r2_3 r3_4 (by first | assumption | omega | (simp; done)) (by omega)
  refine KW.loc (lv' := [(3, .int (-1)), (2, .int (nI 0)), (0, .ref (a 0)), (1, .ref (a2 0))]) [0, 1, 2, 3] rfl ?_
  refine KW.asl (congrArg (fun zz => ([(3, .int zz), (2, .int (nI 0)), (0, .ref (a 0)), (1, .ref (a2 0))] : List (Nat × Value))) (show (-1) = (gs 0) from by rfl)) ?_
  refine KW.asl (congrArg (fun zz => ([(3, .int (gs 0)), (2, .int zz), (0, .ref (a 0)), (1, .ref (a2 0))] : List (Nat × Value))) (show (nI 0) = (nI (cntG (exB W H N D blk o cl kk M sx sy sc) 0)) from by rfl)) ?_
  exact L4_1 (9 * N + 1 - 0 + 1) 0 q1 q2 q3 (by first | assumption | omega | (simp; done)) (Nat.lt_succ_self _)

set_option maxHeartbeats 4000000 in
set_option maxRecDepth 100000 in
theorem c_X3_firstExplaining (l : Launch) (G : va_G) (y : Nat → ClassId) (t : Nat) (a : Nat → Nat) (M : Nat) (q1 : Int64) (q2 : Int64) (q3 : Int64) (xs : Nat → Int32) (ys : Nat → Int32) (cs : Nat → Int32) (tal : Nat → Int32) (a2 : Nat → Nat) (W : Nat) (H : Nat) (N : Nat) (D : Nat) (p1 : Int64) (p2 : Int64) (p3 : Int64) (col : Nat → Int32) (od : Nat → Int32) (blk : Nat → Int64) (slp : Nat → Int32) (o : Nat → Nat) (cl : Nat → Nat) (kk : Nat → Nat) (sx : Nat → Nat) (sy : Nat → Nat) (sc : Nat → Nat) (hW : W ≤ 6) (hH : H ≤ 6) (hN : N ≤ 6) (hD : D < 64) (hod : ∀ q, q < N → od q = nI (o q) ∧ o q < N) (hcol : ∀ i, i < N → col i = nI (cl i) ∧ cl i < 8) (hsl : ∀ i, i < N → slp i = nI (kk i) ∧ kk i < 9) (hM : M ≤ 6) (hse : ∀ i, i < M → xs i = nI (sx i) ∧ ys i = nI (sy i) ∧ cs i = nI (sc i) ∧ sx i < 6 ∧ sy i < 6 ∧ sc i < 8) (sz : Nat) : Met l yX3_firstExplaining (Cond.code yX3_firstExplaining cX3_firstExplaining 3 (some .int) :: TG) ({ frames := 4, cells := 0, slots := 0, locals := 103 }) (va_Pc [.ref (a 0), .ref (a2 0)] (PR G y t (kSight y a (nI M, q1, q2, q3, xs, ys, cs, tal) ++ kWork y a2 (nI W, nI H, nI N, nI D, p1, p2, p3, col, od, blk, slp)) sz)) (va_Qi (fun (r : Int32) (u : Int64 × Int64 × Int64) => r = (frG (exB W H N D blk o cl kk M sx sy sc) (9 * N + 1) 0)) (fun (u : Int64 × Int64 × Int64) t => PO G (va_A (kSight y a (nI M, q1, q2, q3, xs, ys, cs, tal) ++ kWork y a2 (nI W, nI H, nI N, nI D, p1, p2, p3, col, od, blk, slp)) sz) (kSight y a (nI M, u.1, u.2.1, u.2.2, xs, ys, cs, tal) ++ kWork y a2 (nI W, nI H, nI N, nI D, p1, p2, p3, col, od, blk, slp)) t) (va_A (kSight y a (nI M, q1, q2, q3, xs, ys, cs, tal) ++ kWork y a2 (nI W, nI H, nI N, nI D, p1, p2, p3, col, od, blk, slp)) sz)) 0 0 (va_A (kSight y a (nI M, q1, q2, q3, xs, ys, cs, tal) ++ kWork y a2 (nI W, nI H, nI N, nI D, p1, p2, p3, col, od, blk, slp)) sz) := by
  refine kMet (cc := cX3_firstExplaining) (maxL := 3) (ret := some .int) (Qc := fun A => va_Qi (fun (r : Int32) (u : Int64 × Int64 × Int64) => r = (frG (exB W H N D blk o cl kk M sx sy sc) (9 * N + 1) 0)) (fun (u : Int64 × Int64 × Int64) t => PO G A (kSight y a (nI M, u.1, u.2.1, u.2.2, xs, ys, cs, tal) ++ kWork y a2 (nI W, nI H, nI N, nI D, p1, p2, p3, col, od, blk, slp)) t) A) (by decide) rfl (Nat.le_of_ble_eq_true rfl) (fun p e s m below meth c A hsz C hin => ?_)
  refine KW.loc (lv' := [(0, .ref (a 0)), (1, .ref (a2 0))]) [0, 1] rfl ?_
  refine kw_iconst (v := (-1)) C dX3_firstExplaining_0 (by decide) ?_
  refine kw_istore_n C [(2, .int (-1)), (0, .ref (a 0)), (1, .ref (a2 0))] dX3_firstExplaining_1 rfl (by decide) rfl ?_
  have L2_1 : ∀ (nn : Nat) (g : Nat) (s1 : Int64) (s2 : Int64) (s3 : Int64) (hgg : g ≤ 9 * N + 1) (hfr : frG (exB W H N D blk o cl kk M sx sy sc) (9 * N + 1 - g) g = frG (exB W H N D blk o cl kk M sx sy sc) (9 * N + 1) 0) (hms : 9 * N + 1 - g < nn), KW p l e ({ frames := 4, cells := 0, slots := 0, locals := 103 }) s m ([.ref (a 0), .ref (a2 0)] : List Value).toArray below meth c 0 0 (MQ below (va_Qi (fun (r : Int32) (u : Int64 × Int64 × Int64) => r = (frG (exB W H N D blk o cl kk M sx sy sc) (9 * N + 1) 0)) (fun (u : Int64 × Int64 × Int64) t => PO G A (kSight y a (nI M, u.1, u.2.1, u.2.2, xs, ys, cs, tal) ++ kWork y a2 (nI W, nI H, nI N, nI D, p1, p2, p3, col, od, blk, slp)) t) A) ([.ref (a 0), .ref (a2 0)] : List Value).toArray s 0 0 A) G A 3 (kSight y a (nI M, s1, s2, s3, xs, ys, cs, tal) ++ kWork y a2 (nI W, nI H, nI N, nI D, p1, p2, p3, col, od, blk, slp)) [(2, .int (gs g)), (0, .ref (a 0)), (1, .ref (a2 0))] 2 [] := by
    intro nn
    induction nn with
    | zero => intro g s1 s2 s3 hgg hfr hms; exact absurd hms (Nat.not_lt_zero _)
    | succ nn ih_2 =>
      intro g s1 s2 s3 hgg hfr hms
      refine kw_iload_n C 0 dX3_firstExplaining_2 rfl ?_
      refine kw_bipush (v := nI 9) C dX3_firstExplaining_3 (by decide) ?_
      refine kw_aload_n C 2 dX3_firstExplaining_5 rfl ?_
      refine kw_getN (v := .int (nI N)) (T := TX5) C 6 2 rfl rfl (by decide) (fun w h => mT (fwX5 w h)) rfl (List.mem_of_getElem? (i := 6) rfl) rfl dX3_firstExplaining_6 ?_
      refine kw_imul C dX3_firstExplaining_9 (kw_top (pk_mul _ _) ?_)
      refine kw_icmp_ge (tgt := 30) C dX3_firstExplaining_10 (by decide) (fun c_10 => ?_) (fun c_10 => ?_)
      ·
        have hgE : g = 9 * N + 1 := by
          have := (gs_ge (g := g) (n := 9 * N) (by omega) (by omega)).mp c_10
          omega
        refine kw_ldc (v := (-2000000)) C (mT wd_563) dX3_firstExplaining_30 ?_
        refine kR_i C (s1, s2, s3) dX3_firstExplaining_32 ?_ rfl
        rw [← hfr, hgE, Nat.sub_self]; rfl
      ·
        have hgN : g ≤ 9 * N := by
          rcases Nat.lt_or_ge (9 * N) g with h | h
          · exact absurd ((gs_ge (by omega) (by omega)).mpr h) c_10
          · exact h
        refine kw_aload_n C 1 dX3_firstExplaining_13 rfl ?_
        refine kw_aload_n C 2 dX3_firstExplaining_14 rfl ?_
        refine kw_iload_n C 0 dX3_firstExplaining_15 rfl ?_
        refine kV_i (As := [.ref (a2 0), .int (gs g)]) (rest := []) (ws' := fun (u : Int64 × Int64 × Int64) => kSight y a (nI M, u.1, u.2.1, u.2.2, xs, ys, cs, tal) ++ kWork y a2 (nI W, nI H, nI N, nI D, p1, p2, p3, col, od, blk, slp)) C (c_X3_explains l G y t a M s1 s2 s3 xs ys cs tal a2 W H N D p1 p2 p3 col od blk slp o cl kk sx sy sc g (by first | assumption | omega | decide) (by first | assumption | omega | decide) (by first | assumption | omega | decide) (by first | assumption | omega | decide) (by first | assumption | omega | decide) (by first | assumption | omega | decide) (by first | assumption | omega | decide) (by first | assumption | omega | decide) (by first | assumption | omega | decide) (by exact hgN)) (cwV 2 C.2.2.2.2.1 (goodV cT wd_554 wd_551 wd_553 wd_9 wd_46) rfl rfl rfl (by decide +kernel) ⟨by decide, by decide⟩) [0, 1, 2, 3, 4, 5, 6, 7, 8, 9, 10, 11] [] [0, 1, 2, 3, 4, 5, 6, 7, 8, 9, 10, 11] rfl (by decide) rfl (by decide) (by decide) (fun _ => rfl) (by decide) 0 rfl rfl rfl (Nat.le_of_ble_eq_true rfl) ⟨by decide, by decide⟩ dX3_firstExplaining_16 (fun r u hr_5 => ?_)
        obtain ⟨r1_2, r2_3, r3_4⟩ := u
        try dsimp only at hr_5
        obtain ⟨hq, hr_5⟩ := hr_5
        subst hq
        refine kw_if_eq_B (tgt := 24) C dX3_firstExplaining_19 (by decide) (fun c_19 => ?_) (fun c_19 => ?_)
        ·
          refine kw_iinc (v := gs (g + 1)) C [(2, .int (gs (g + 1))), (0, .ref (a 0)), (1, .ref (a2 0))] 0 dX3_firstExplaining_24 rfl (by exact gs_inc g) (by decide) rfl ?_
          refine kw_goto (tgt := 2) C dX3_firstExplaining_27 (by decide) ?_
          refine KW.loc (lv' := [(2, .int (gs (g + 1))), (0, .ref (a 0)), (1, .ref (a2 0))]) [0, 1, 2] rfl ?_
          exact ih_2 (g + 1) r1_2 r2_3 r3_4 (by first | assumption | omega | (simp; done)) (by rw [← hfr, show 9 * N + 1 - g = (9 * N + 1 - (g + 1)) + 1 from by omega]; simp only [frG]; rw [if_neg (by rw [c_19]; decide)]) (by omega)
        ·
          refine kw_iload_n C 0 dX3_firstExplaining_22 rfl ?_
          refine kR_i C (r1_2, r2_3, r3_4) dX3_firstExplaining_23 ?_ rfl
          rw [← hfr, show 9 * N + 1 - g = (9 * N + 1 - (g + 1)) + 1 from by omega]; simp only [frG]; rw [if_pos c_19]
  refine KW.loc (lv' := [(2, .int (-1)), (0, .ref (a 0)), (1, .ref (a2 0))]) [0, 1, 2] rfl ?_
  refine KW.asl (congrArg (fun zz => ([(2, .int zz), (0, .ref (a 0)), (1, .ref (a2 0))] : List (Nat × Value))) (show (-1) = (gs 0) from by rfl)) ?_
  exact L2_1 (9 * N + 1 - 0 + 1) 0 q1 q2 q3 (by first | assumption | omega | (simp; done)) (by rfl) (Nat.lt_succ_self _)

set_option maxHeartbeats 4000000 in
set_option maxRecDepth 100000 in
theorem c_X3_greatestTally (l : Launch) (G : va_G) (y : Nat → ClassId) (t : Nat) (a : Nat → Nat) (M : Nat) (q1 : Int64) (q2 : Int64) (q3 : Int64) (xs : Nat → Int32) (ys : Nat → Int32) (cs : Nat → Int32) (tal : Nat → Int32) (k0 : Nat) (hk0 : k0 < 36) (sz : Nat) : Met l yX3_greatestTally (Cond.code yX3_greatestTally cX3_greatestTally 4 (some .int) :: TG) ({ frames := 1, cells := 0, slots := 0, locals := 21 }) (va_Pc [.ref (a 0), .int (nI k0)] (PR G y t (kSight y a (nI M, q1, q2, q3, xs, ys, cs, tal)) sz)) (va_Qi (fun (r : Int32) (u : Unit) => r = (gtF tal k0 8)) (fun (u : Unit) t => PO G (va_A (kSight y a (nI M, q1, q2, q3, xs, ys, cs, tal)) sz) (kSight y a (nI M, q1, q2, q3, xs, ys, cs, tal)) t) (va_A (kSight y a (nI M, q1, q2, q3, xs, ys, cs, tal)) sz)) 0 0 (va_A (kSight y a (nI M, q1, q2, q3, xs, ys, cs, tal)) sz) := by
  refine kMet (cc := cX3_greatestTally) (maxL := 4) (ret := some .int) (Qc := fun A => va_Qi (fun (r : Int32) (u : Unit) => r = (gtF tal k0 8)) (fun (u : Unit) t => PO G A (kSight y a (nI M, q1, q2, q3, xs, ys, cs, tal)) t) A) (by decide) rfl (Nat.le_of_ble_eq_true rfl) (fun p e s m below meth c A hsz C hin => ?_)
  refine KW.loc (lv' := [(0, .ref (a 0)), (1, .int (nI k0))]) [0, 1] rfl ?_
  refine kw_iconst (v := nI 0) C dX3_greatestTally_0 (by decide) ?_
  refine kw_istore_n C [(2, .int (nI 0)), (0, .ref (a 0)), (1, .int (nI k0))] dX3_greatestTally_1 rfl (by decide) rfl ?_
  refine kw_iconst (v := nI 0) C dX3_greatestTally_2 (by decide) ?_
  refine kw_istore_n C [(3, .int (nI 0)), (2, .int (nI 0)), (0, .ref (a 0)), (1, .int (nI k0))] dX3_greatestTally_3 rfl (by decide) rfl ?_
  have L4_1 : ∀ (nn : Nat) (i : Nat) (hi : i ≤ 8) (hms : 8 - i < nn), KW p l e ({ frames := 1, cells := 0, slots := 0, locals := 21 }) s m ([.ref (a 0), .int (nI k0)] : List Value).toArray below meth c 0 0 (MQ below (va_Qi (fun (r : Int32) (u : Unit) => r = (gtF tal k0 8)) (fun (u : Unit) t => PO G A (kSight y a (nI M, q1, q2, q3, xs, ys, cs, tal)) t) A) ([.ref (a 0), .int (nI k0)] : List Value).toArray s 0 0 A) G A 4 (kSight y a (nI M, q1, q2, q3, xs, ys, cs, tal)) [(3, .int (nI i)), (2, .int (gtF tal k0 i)), (0, .ref (a 0)), (1, .int (nI k0))] 4 [] := by
    intro nn
    induction nn with
    | zero => intro i hi hms; exact absurd hms (Nat.not_lt_zero _)
    | succ nn ih_4 =>
      intro i hi hms
      refine kw_iload_n C 0 dX3_greatestTally_4 rfl ?_
      refine kw_bipush (v := nI 8) C dX3_greatestTally_5 (by decide) ?_
      refine kw_icmp_ge_N (tgt := 32) C (by omega) (by omega) dX3_greatestTally_7 (by decide) (fun c_7 => ?_) (fun c_7 => ?_)
      ·
        refine kw_iload_n C 1 dX3_greatestTally_32 rfl ?_
        refine kR_i C () dX3_greatestTally_33 ?_ rfl
        rw [show i = 8 from by omega]
      ·
        refine kw_iload_n C 1 dX3_greatestTally_10 rfl ?_
        refine kw_aload_n C 2 dX3_greatestTally_11 rfl ?_
        refine kw_get (v := .ref (a 5)) (T := TX3) C 0 5 rfl rfl (by decide) (fun w h => mT (fwX3 w h)) rfl (mT wd_184) rfl dX3_greatestTally_12 ?_
        refine kw_iload_n C 3 dX3_greatestTally_15 rfl ?_
        refine kw_bipush (v := nI 8) C dX3_greatestTally_16 (by decide) ?_
        refine kw_imul C dX3_greatestTally_18 (kw_top (pk_mul _ _) ?_)
        refine kw_iload_n C 0 dX3_greatestTally_19 rfl ?_
        refine kw_iadd C dX3_greatestTally_20 (kw_top (nI_add _ _) ?_)
        refine kw_iald (f := tal) C 5 rfl (by omega) (by decide) dX3_greatestTally_21 ?_
        refine kw_mmax C (mT wd_584) (mT wd_585) (mT wd_50) (mT wd_586) (by decide) (Nat.le_of_ble_eq_true rfl) (by decide) (by decide) dX3_greatestTally_22 ?_
        refine kw_istore_n C [(2, .int (if gtF tal k0 i < tal ((k0 * 8) + i) then tal ((k0 * 8) + i) else gtF tal k0 i)), (3, .int (nI i)), (0, .ref (a 0)), (1, .int (nI k0))] dX3_greatestTally_25 rfl (by decide) rfl ?_
        refine kw_iinc (v := nI (i + 1)) C [(3, .int (nI (i + 1))), (2, .int (if gtF tal k0 i < tal ((k0 * 8) + i) then tal ((k0 * 8) + i) else gtF tal k0 i)), (0, .ref (a 0)), (1, .int (nI k0))] 1 dX3_greatestTally_26 rfl (nI_1 _) (by decide) rfl ?_
        refine kw_goto (tgt := 4) C dX3_greatestTally_29 (by decide) ?_
        refine KW.loc (lv' := [(3, .int (nI (i + 1))), (2, .int (if gtF tal k0 i < tal ((k0 * 8) + i) then tal ((k0 * 8) + i) else gtF tal k0 i)), (0, .ref (a 0)), (1, .int (nI k0))]) [0, 1, 2, 3] rfl ?_
        refine KW.asl (congrArg (fun zz => ([(3, .int (nI (i + 1))), (2, .int zz), (0, .ref (a 0)), (1, .int (nI k0))] : List (Nat × Value))) (show (if gtF tal k0 i < tal ((k0 * 8) + i) then tal ((k0 * 8) + i) else gtF tal k0 i) = (gtF tal k0 (i + 1)) from by rfl)) ?_
        exact ih_4 (i + 1) (by first | assumption | omega | (simp; done)) (by omega)
  refine KW.loc (lv' := [(3, .int (nI 0)), (2, .int (nI 0)), (0, .ref (a 0)), (1, .int (nI k0))]) [0, 1, 2, 3] rfl ?_
  refine KW.asl (congrArg (fun zz => ([(3, .int (nI 0)), (2, .int zz), (0, .ref (a 0)), (1, .int (nI k0))] : List (Nat × Value))) (show (nI 0) = (gtF tal k0 0) from by rfl)) ?_
  exact L4_1 (8 - 0 + 1) 0 (by first | assumption | omega | (simp; done)) (Nat.lt_succ_self _)

set_option maxHeartbeats 4000000 in
set_option maxRecDepth 100000 in
theorem c_X3_addToTally (l : Launch) (G : va_G) (y : Nat → ClassId) (t : Nat) (a : Nat → Nat) (M : Nat) (q1 : Int64) (q2 : Int64) (q3 : Int64) (xs : Nat → Int32) (ys : Nat → Int32) (cs : Nat → Int32) (tal : Nat → Int32) (a2 : Nat → Nat) (W : Nat) (H : Nat) (N : Nat) (D : Nat) (p1 : Int64) (p2 : Int64) (p3 : Int64) (col : Nat → Int32) (od : Nat → Int32) (blk : Nat → Int64) (slp : Nat → Int32) (hW : W ≤ 6) (hH : H ≤ 6) (sz : Nat) : Met l yX3_addToTally (Cond.code yX3_addToTally cX3_addToTally 4 (none) :: TG) ({ frames := 2, cells := 0, slots := 0, locals := 45 }) (va_Pc [.ref (a 0), .ref (a2 0)] (PR G y t (kSight y a (nI M, q1, q2, q3, xs, ys, cs, tal) ++ kWork y a2 (nI W, nI H, nI N, nI D, p1, p2, p3, col, od, blk, slp)) sz)) (va_Qv (fun (u : Unit) => True) (fun (u : Unit) t => PO G (va_A (kSight y a (nI M, q1, q2, q3, xs, ys, cs, tal) ++ kWork y a2 (nI W, nI H, nI N, nI D, p1, p2, p3, col, od, blk, slp)) sz) (kSight y a (nI M, q1, q2, q3, xs, ys, cs, talY q1 q2 q3 W H tal) ++ kWork y a2 (nI W, nI H, nI N, nI D, p1, p2, p3, col, od, blk, slp)) t) (va_A (kSight y a (nI M, q1, q2, q3, xs, ys, cs, tal) ++ kWork y a2 (nI W, nI H, nI N, nI D, p1, p2, p3, col, od, blk, slp)) sz)) 0 0 (va_A (kSight y a (nI M, q1, q2, q3, xs, ys, cs, tal) ++ kWork y a2 (nI W, nI H, nI N, nI D, p1, p2, p3, col, od, blk, slp)) sz) := by
  refine kMet (cc := cX3_addToTally) (maxL := 4) (ret := none) (Qc := fun A => va_Qv (fun (u : Unit) => True) (fun (u : Unit) t => PO G A (kSight y a (nI M, q1, q2, q3, xs, ys, cs, talY q1 q2 q3 W H tal) ++ kWork y a2 (nI W, nI H, nI N, nI D, p1, p2, p3, col, od, blk, slp)) t) A) (by decide) rfl (Nat.le_of_ble_eq_true rfl) (fun p e s m below meth c A hsz C hin => ?_)
  refine KW.loc (lv' := [(0, .ref (a 0)), (1, .ref (a2 0))]) [0, 1] rfl ?_
  refine kw_iconst (v := nI 0) C dX3_addToTally_0 (by decide) ?_
  refine kw_istore_n C [(2, .int (nI 0)), (0, .ref (a 0)), (1, .ref (a2 0))] dX3_addToTally_1 rfl (by decide) rfl ?_
  have L2_1 : ∀ (nn : Nat) (yy : Nat) (hyy : yy ≤ H) (hms : H - yy < nn), KW p l e ({ frames := 2, cells := 0, slots := 0, locals := 45 }) s m ([.ref (a 0), .ref (a2 0)] : List Value).toArray below meth c 0 0 (MQ below (va_Qv (fun (u : Unit) => True) (fun (u : Unit) t => PO G A (kSight y a (nI M, q1, q2, q3, xs, ys, cs, talY q1 q2 q3 W H tal) ++ kWork y a2 (nI W, nI H, nI N, nI D, p1, p2, p3, col, od, blk, slp)) t) A) ([.ref (a 0), .ref (a2 0)] : List Value).toArray s 0 0 A) G A 4 (kSight y a (nI M, q1, q2, q3, xs, ys, cs, talY q1 q2 q3 W yy tal) ++ kWork y a2 (nI W, nI H, nI N, nI D, p1, p2, p3, col, od, blk, slp)) [(2, .int (nI yy)), (0, .ref (a 0)), (1, .ref (a2 0))] 2 [] := by
    intro nn
    induction nn with
    | zero => intro yy hyy hms; exact absurd hms (Nat.not_lt_zero _)
    | succ nn ih_2 =>
      intro yy hyy hms
      refine kw_iload_n C 0 dX3_addToTally_2 rfl ?_
      refine kw_aload_n C 2 dX3_addToTally_3 rfl ?_
      refine kw_getN (v := .int (nI H)) (T := TX5) C 6 1 rfl rfl (by decide) (fun w h => mT (fwX5 w h)) rfl (List.mem_of_getElem? (i := 5) rfl) rfl dX3_addToTally_4 ?_
      refine kw_icmp_ge_N (tgt := 60) C (by omega) (by omega) dX3_addToTally_7 (by decide) (fun c_7 => ?_) (fun c_7 => ?_)
      ·
        rw [show yy = H from by omega]
        refine kR_v C () dX3_addToTally_60 ?_ rfl
        first | rfl | trivial | (simp; done) | omega
      ·
        refine kw_iconst (v := nI 0) C dX3_addToTally_10 (by decide) ?_
        refine kw_istore_n C [(3, .int (nI 0)), (2, .int (nI yy)), (0, .ref (a 0)), (1, .ref (a2 0))] dX3_addToTally_11 rfl (by decide) rfl ?_
        have L12_2 : ∀ (nn : Nat) (xx : Nat) (hxx : xx ≤ W) (hms : W - xx < nn), KW p l e ({ frames := 2, cells := 0, slots := 0, locals := 45 }) s m ([.ref (a 0), .ref (a2 0)] : List Value).toArray below meth c 0 0 (MQ below (va_Qv (fun (u : Unit) => True) (fun (u : Unit) t => PO G A (kSight y a (nI M, q1, q2, q3, xs, ys, cs, talY q1 q2 q3 W H tal) ++ kWork y a2 (nI W, nI H, nI N, nI D, p1, p2, p3, col, od, blk, slp)) t) A) ([.ref (a 0), .ref (a2 0)] : List Value).toArray s 0 0 A) G A 4 (kSight y a (nI M, q1, q2, q3, xs, ys, cs, talX q1 q2 q3 yy xx (talY q1 q2 q3 W yy tal)) ++ kWork y a2 (nI W, nI H, nI N, nI D, p1, p2, p3, col, od, blk, slp)) [(3, .int (nI xx)), (2, .int (nI yy)), (0, .ref (a 0)), (1, .ref (a2 0))] 12 [] := by
          intro nn
          induction nn with
          | zero => intro xx hxx hms; exact absurd hms (Nat.not_lt_zero _)
          | succ nn ih_12 =>
            intro xx hxx hms
            refine kw_iload_n C 0 dX3_addToTally_12 rfl ?_
            refine kw_aload_n C 3 dX3_addToTally_13 rfl ?_
            refine kw_getN (v := .int (nI W)) (T := TX5) C 6 0 rfl rfl (by decide) (fun w h => mT (fwX5 w h)) rfl (List.mem_of_getElem? (i := 1) rfl) rfl dX3_addToTally_14 ?_
            refine kw_icmp_ge_N (tgt := 54) C (by omega) (by omega) dX3_addToTally_17 (by decide) (fun c_17 => ?_) (fun c_17 => ?_)
            ·
              refine kw_iinc (v := nI (yy + 1)) C [(2, .int (nI (yy + 1))), (3, .int (nI xx)), (0, .ref (a 0)), (1, .ref (a2 0))] 1 dX3_addToTally_54 rfl (nI_1 _) (by decide) rfl ?_
              refine kw_goto (tgt := 2) C dX3_addToTally_57 (by decide) ?_
              refine KW.loc (lv' := [(2, .int (nI (yy + 1))), (0, .ref (a 0)), (1, .ref (a2 0))]) [0, 2, 3] rfl ?_
              refine KW.asw (congrArg (fun zz => (kSight y a (nI M, q1, q2, q3, xs, ys, cs, zz) ++ kWork y a2 (nI W, nI H, nI N, nI D, p1, p2, p3, col, od, blk, slp) : va_W)) (show (talX q1 q2 q3 yy xx (talY q1 q2 q3 W yy tal)) = (talY q1 q2 q3 W (yy + 1) tal) from by rw [show xx = W from by omega]; rfl)) ?_
              exact ih_2 (yy + 1) (by first | assumption | omega | (simp; done)) (by omega)
            ·
              refine kw_aload_n C 2 dX3_addToTally_20 rfl ?_
              refine kw_get (v := .ref (a 5)) (T := TX3) C 0 5 rfl rfl (by decide) (fun w h => mT (fwX3 w h)) rfl (mT wd_184) rfl dX3_addToTally_21 ?_
              refine kw_bipush (v := nI 6) C dX3_addToTally_24 (by decide) ?_
              refine kw_iload_n C 1 dX3_addToTally_26 rfl ?_
              refine kw_imul C dX3_addToTally_27 (kw_top (pk_mul _ _) ?_)
              refine kw_iload_n C 0 dX3_addToTally_28 rfl ?_
              refine kw_iadd C dX3_addToTally_29 (kw_top (nI_add _ _) ?_)
              refine kw_bipush (v := nI 8) C dX3_addToTally_30 (by decide) ?_
              refine kw_imul C dX3_addToTally_32 (kw_top (pk_mul _ _) ?_)
              refine kw_aload_n C 2 dX3_addToTally_33 rfl ?_
              refine kw_get (v := .ref (a 4)) (T := TX3) C 0 4 rfl rfl (by decide) (fun w h => mT (fwX3 w h)) rfl (mT wd_183) rfl dX3_addToTally_34 ?_
              refine kw_iload_n C 0 dX3_addToTally_37 rfl ?_
              refine kw_iload_n C 1 dX3_addToTally_38 rfl ?_
              refine kV_i (As := [.int (nI xx), .int (nI yy)]) (rest := [.int (nI (((6 * yy) + xx) * 8)), .ref (a 5)]) (ws' := fun (u : Unit) => kSight y a (nI M, q1, q2, q3, xs, ys, cs, talX q1 q2 q3 yy xx (talY q1 q2 q3 W yy tal)) ++ kWork y a2 (nI W, nI H, nI N, nI D, p1, p2, p3, col, od, blk, slp)) C (c_X2_at l G y t (a 4) q1 q2 q3 xx yy) (cwV 2 C.2.2.2.2.1 (goodV cT wd_471 wd_558 wd_469 wd_470 wd_43) rfl rfl rfl (by decide +kernel) ⟨by decide, by decide⟩) [4] [0, 1, 2, 3, 5, 6, 7, 8, 9, 10, 11] [0, 1, 2, 3, 11, 4, 5, 6, 7, 8, 9, 10] rfl (by decide) rfl (by decide) (by decide) (fun _ => rfl) (by decide) 4 rfl rfl rfl (Nat.le_of_ble_eq_true rfl) ⟨by decide, by decide⟩ dX3_addToTally_39 (fun r u hr_3 => ?_)
              subst hr_3
              have hat := atL_lt q1 q2 q3 (8 * yy + xx)
              refine kw_iadd C dX3_addToTally_42 (kw_top (nI_add _ _) ?_)
              refine kw_dup2_11 C dX3_addToTally_43 rfl rfl ?_
              refine kw_iald (f := talX q1 q2 q3 yy xx (talY q1 q2 q3 W yy tal)) C 5 rfl (by omega) (by decide) dX3_addToTally_44 ?_
              refine kw_iconst (v := nI 1) C dX3_addToTally_45 (by decide) ?_
              refine kw_iadd C dX3_addToTally_46 ?_
              refine kw_iast C 5 (kSight y a (nI M, q1, q2, q3, xs, ys, cs, upd (talX q1 q2 q3 yy xx (talY q1 q2 q3 W yy tal)) ((((6 * yy) + xx) * 8) + (atL q1 q2 q3 (8 * yy + xx))) (((talX q1 q2 q3 yy xx (talY q1 q2 q3 W yy tal)) ((((6 * yy) + xx) * 8) + (atL q1 q2 q3 (8 * yy + xx)))) + (nI 1))) ++ kWork y a2 (nI W, nI H, nI N, nI D, p1, p2, p3, col, od, blk, slp)) rfl (by omega) (by decide) dX3_addToTally_47 rfl ?_
              refine kw_iinc (v := nI (xx + 1)) C [(3, .int (nI (xx + 1))), (2, .int (nI yy)), (0, .ref (a 0)), (1, .ref (a2 0))] 0 dX3_addToTally_48 rfl (nI_1 _) (by decide) rfl ?_
              refine kw_goto (tgt := 12) C dX3_addToTally_51 (by decide) ?_
              refine KW.loc (lv' := [(3, .int (nI (xx + 1))), (2, .int (nI yy)), (0, .ref (a 0)), (1, .ref (a2 0))]) [0, 1, 2, 3] rfl ?_
              refine KW.asw (congrArg (fun zz => (kSight y a (nI M, q1, q2, q3, xs, ys, cs, zz) ++ kWork y a2 (nI W, nI H, nI N, nI D, p1, p2, p3, col, od, blk, slp) : va_W)) (show (upd (talX q1 q2 q3 yy xx (talY q1 q2 q3 W yy tal)) ((((6 * yy) + xx) * 8) + (atL q1 q2 q3 (8 * yy + xx))) (((talX q1 q2 q3 yy xx (talY q1 q2 q3 W yy tal)) ((((6 * yy) + xx) * 8) + (atL q1 q2 q3 (8 * yy + xx)))) + (nI 1))) = (talX q1 q2 q3 yy (xx + 1) (talY q1 q2 q3 W yy tal)) from by rfl)) ?_
              exact ih_12 (xx + 1) (by first | assumption | omega | (simp; done)) (by omega)
        refine KW.loc (lv' := [(3, .int (nI 0)), (2, .int (nI yy)), (0, .ref (a 0)), (1, .ref (a2 0))]) [0, 1, 2, 3] rfl ?_
        refine KW.asw (congrArg (fun zz => (kSight y a (nI M, q1, q2, q3, xs, ys, cs, zz) ++ kWork y a2 (nI W, nI H, nI N, nI D, p1, p2, p3, col, od, blk, slp) : va_W)) (show (talY q1 q2 q3 W yy tal) = (talX q1 q2 q3 yy 0 (talY q1 q2 q3 W yy tal)) from by rfl)) ?_
        exact L12_2 (W - 0 + 1) 0 (by first | assumption | omega | (simp; done)) (Nat.lt_succ_self _)
  refine KW.loc (lv' := [(2, .int (nI 0)), (0, .ref (a 0)), (1, .ref (a2 0))]) [0, 1, 2] rfl ?_
  refine KW.asw (congrArg (fun zz => (kSight y a (nI M, q1, q2, q3, xs, ys, cs, zz) ++ kWork y a2 (nI W, nI H, nI N, nI D, p1, p2, p3, col, od, blk, slp) : va_W)) (show tal = (talY q1 q2 q3 W 0 tal) from by rfl)) ?_
  exact L2_1 (H - 0 + 1) 0 (by first | assumption | omega | (simp; done)) (Nat.lt_succ_self _)

set_option maxHeartbeats 4000000 in
set_option maxRecDepth 100000 in
theorem c_X3_mostTellingCell (l : Launch) (G : va_G) (y : Nat → ClassId) (t : Nat) (a : Nat → Nat) (M : Nat) (q1 : Int64) (q2 : Int64) (q3 : Int64) (xs : Nat → Int32) (ys : Nat → Int32) (cs : Nat → Int32) (tal : Nat → Int32) (a2 : Nat → Nat) (W : Nat) (H : Nat) (N : Nat) (D : Nat) (p1 : Int64) (p2 : Int64) (p3 : Int64) (col : Nat → Int32) (od : Nat → Int32) (blk : Nat → Int64) (slp : Nat → Int32) (hW : W ≤ 6) (hH : H ≤ 6) (sz : Nat) : Met l yX3_mostTellingCell (Cond.code yX3_mostTellingCell cX3_mostTellingCell 8 (some .int) :: TG) ({ frames := 2, cells := 0, slots := 0, locals := 44 }) (va_Pc [.ref (a 0), .ref (a2 0)] (PR G y t (kSight y a (nI M, q1, q2, q3, xs, ys, cs, tal) ++ kWork y a2 (nI W, nI H, nI N, nI D, p1, p2, p3, col, od, blk, slp)) sz)) (va_Qi (fun (r : Int32) (u : Unit) => r = ((mtY tal W H).1)) (fun (u : Unit) t => PO G (va_A (kSight y a (nI M, q1, q2, q3, xs, ys, cs, tal) ++ kWork y a2 (nI W, nI H, nI N, nI D, p1, p2, p3, col, od, blk, slp)) sz) (kSight y a (nI M, q1, q2, q3, xs, ys, cs, tal) ++ kWork y a2 (nI W, nI H, nI N, nI D, p1, p2, p3, col, od, blk, slp)) t) (va_A (kSight y a (nI M, q1, q2, q3, xs, ys, cs, tal) ++ kWork y a2 (nI W, nI H, nI N, nI D, p1, p2, p3, col, od, blk, slp)) sz)) 0 0 (va_A (kSight y a (nI M, q1, q2, q3, xs, ys, cs, tal) ++ kWork y a2 (nI W, nI H, nI N, nI D, p1, p2, p3, col, od, blk, slp)) sz) := by
  refine kMet (cc := cX3_mostTellingCell) (maxL := 8) (ret := some .int) (Qc := fun A => va_Qi (fun (r : Int32) (u : Unit) => r = ((mtY tal W H).1)) (fun (u : Unit) t => PO G A (kSight y a (nI M, q1, q2, q3, xs, ys, cs, tal) ++ kWork y a2 (nI W, nI H, nI N, nI D, p1, p2, p3, col, od, blk, slp)) t) A) (by decide) rfl (Nat.le_of_ble_eq_true rfl) (fun p e s m below meth c A hsz C hin => ?_)
  refine KW.loc (lv' := [(0, .ref (a 0)), (1, .ref (a2 0))]) [0, 1] rfl ?_
  refine kw_bipush (v := (-9)) C dX3_mostTellingCell_0 (by decide) ?_
  refine kw_istore_n C [(2, .int (-9)), (0, .ref (a 0)), (1, .ref (a2 0))] dX3_mostTellingCell_2 rfl (by decide) rfl ?_
  refine kw_iconst (v := nI 0) C dX3_mostTellingCell_3 (by decide) ?_
  refine kw_istore_n C [(3, .int (nI 0)), (2, .int (-9)), (0, .ref (a 0)), (1, .ref (a2 0))] dX3_mostTellingCell_4 rfl (by decide) rfl ?_
  refine kw_iconst (v := nI 0) C dX3_mostTellingCell_5 (by decide) ?_
  refine kw_istore C [(4, .int (nI 0)), (3, .int (nI 0)), (2, .int (-9)), (0, .ref (a 0)), (1, .ref (a2 0))] dX3_mostTellingCell_6 (by decide) rfl ?_
  have L8_1 : ∀ (nn : Nat) (yy : Nat) (hyy : yy ≤ H) (hms : H - yy < nn), KW p l e ({ frames := 2, cells := 0, slots := 0, locals := 44 }) s m ([.ref (a 0), .ref (a2 0)] : List Value).toArray below meth c 0 0 (MQ below (va_Qi (fun (r : Int32) (u : Unit) => r = ((mtY tal W H).1)) (fun (u : Unit) t => PO G A (kSight y a (nI M, q1, q2, q3, xs, ys, cs, tal) ++ kWork y a2 (nI W, nI H, nI N, nI D, p1, p2, p3, col, od, blk, slp)) t) A) ([.ref (a 0), .ref (a2 0)] : List Value).toArray s 0 0 A) G A 8 (kSight y a (nI M, q1, q2, q3, xs, ys, cs, tal) ++ kWork y a2 (nI W, nI H, nI N, nI D, p1, p2, p3, col, od, blk, slp)) [(4, .int (nI yy)), (3, .int ((mtY tal W yy).2)), (2, .int ((mtY tal W yy).1)), (0, .ref (a 0)), (1, .ref (a2 0))] 8 [] := by
    intro nn
    induction nn with
    | zero => intro yy hyy hms; exact absurd hms (Nat.not_lt_zero _)
    | succ nn ih_8 =>
      intro yy hyy hms
      refine kw_iload C 0 dX3_mostTellingCell_8 rfl ?_
      refine kw_aload_n C 4 dX3_mostTellingCell_10 rfl ?_
      refine kw_getN (v := .int (nI H)) (T := TX5) C 6 1 rfl rfl (by decide) (fun w h => mT (fwX5 w h)) rfl (List.mem_of_getElem? (i := 5) rfl) rfl dX3_mostTellingCell_11 ?_
      refine kw_icmp_ge_N (tgt := 77) C (by omega) (by omega) dX3_mostTellingCell_14 (by decide) (fun c_14 => ?_) (fun c_14 => ?_)
      ·
        refine kw_iload_n C 2 dX3_mostTellingCell_77 rfl ?_
        refine kR_i C () dX3_mostTellingCell_78 ?_ rfl
        rw [show yy = H from by omega]
      ·
        refine kw_iconst (v := nI 0) C dX3_mostTellingCell_17 (by decide) ?_
        refine kw_istore C [(5, .int (nI 0)), (4, .int (nI yy)), (3, .int ((mtY tal W yy).2)), (2, .int ((mtY tal W yy).1)), (0, .ref (a 0)), (1, .ref (a2 0))] dX3_mostTellingCell_18 (by decide) rfl ?_
        have L20_2 : ∀ (nn : Nat) (xx : Nat) (hxx : xx ≤ W) (hms : W - xx < nn), KW p l e ({ frames := 2, cells := 0, slots := 0, locals := 44 }) s m ([.ref (a 0), .ref (a2 0)] : List Value).toArray below meth c 0 0 (MQ below (va_Qi (fun (r : Int32) (u : Unit) => r = ((mtY tal W H).1)) (fun (u : Unit) t => PO G A (kSight y a (nI M, q1, q2, q3, xs, ys, cs, tal) ++ kWork y a2 (nI W, nI H, nI N, nI D, p1, p2, p3, col, od, blk, slp)) t) A) ([.ref (a 0), .ref (a2 0)] : List Value).toArray s 0 0 A) G A 8 (kSight y a (nI M, q1, q2, q3, xs, ys, cs, tal) ++ kWork y a2 (nI W, nI H, nI N, nI D, p1, p2, p3, col, od, blk, slp)) [(5, .int (nI xx)), (4, .int (nI yy)), (3, .int ((mtX tal yy xx (mtY tal W yy)).2)), (2, .int ((mtX tal yy xx (mtY tal W yy)).1)), (0, .ref (a 0)), (1, .ref (a2 0))] 20 [] := by
          intro nn
          induction nn with
          | zero => intro xx hxx hms; exact absurd hms (Nat.not_lt_zero _)
          | succ nn ih_20 =>
            intro xx hxx hms
            refine kw_iload C 0 dX3_mostTellingCell_20 rfl ?_
            refine kw_aload_n C 5 dX3_mostTellingCell_22 rfl ?_
            refine kw_getN (v := .int (nI W)) (T := TX5) C 6 0 rfl rfl (by decide) (fun w h => mT (fwX5 w h)) rfl (List.mem_of_getElem? (i := 1) rfl) rfl dX3_mostTellingCell_23 ?_
            refine kw_icmp_ge_N (tgt := 71) C (by omega) (by omega) dX3_mostTellingCell_26 (by decide) (fun c_26 => ?_) (fun c_26 => ?_)
            ·
              refine kw_iinc (v := nI (yy + 1)) C [(4, .int (nI (yy + 1))), (5, .int (nI xx)), (3, .int ((mtX tal yy xx (mtY tal W yy)).2)), (2, .int ((mtX tal yy xx (mtY tal W yy)).1)), (0, .ref (a 0)), (1, .ref (a2 0))] 1 dX3_mostTellingCell_71 rfl (nI_1 _) (by decide) rfl ?_
              refine kw_goto (tgt := 8) C dX3_mostTellingCell_74 (by decide) ?_
              refine KW.loc (lv' := [(4, .int (nI (yy + 1))), (3, .int ((mtX tal yy xx (mtY tal W yy)).2)), (2, .int ((mtX tal yy xx (mtY tal W yy)).1)), (0, .ref (a 0)), (1, .ref (a2 0))]) [0, 2, 3, 4, 5] rfl ?_
              refine KW.asl (congrArg (fun zz => ([(4, .int (nI (yy + 1))), (3, .int zz), (2, .int ((mtX tal yy xx (mtY tal W yy)).1)), (0, .ref (a 0)), (1, .ref (a2 0))] : List (Nat × Value))) (show ((mtX tal yy xx (mtY tal W yy)).2) = ((mtY tal W (yy + 1)).2) from by rw [show xx = W from by omega]; rfl)) ?_
              refine KW.asl (congrArg (fun zz => ([(4, .int (nI (yy + 1))), (3, .int ((mtY tal W (yy + 1)).2)), (2, .int zz), (0, .ref (a 0)), (1, .ref (a2 0))] : List (Nat × Value))) (show ((mtX tal yy xx (mtY tal W yy)).1) = ((mtY tal W (yy + 1)).1) from by rw [show xx = W from by omega]; rfl)) ?_
              exact ih_8 (yy + 1) (by first | assumption | omega | (simp; done)) (by omega)
            ·
              refine kw_bipush (v := nI 6) C dX3_mostTellingCell_29 (by decide) ?_
              refine kw_iload C 1 dX3_mostTellingCell_31 rfl ?_
              refine kw_imul C dX3_mostTellingCell_33 (kw_top (pk_mul _ _) ?_)
              refine kw_iload C 0 dX3_mostTellingCell_34 rfl ?_
              refine kw_iadd C dX3_mostTellingCell_36 (kw_top (nI_add _ _) ?_)
              refine kw_istore C [(6, .int (nI ((6 * yy) + xx))), (5, .int (nI xx)), (4, .int (nI yy)), (3, .int ((mtX tal yy xx (mtY tal W yy)).2)), (2, .int ((mtX tal yy xx (mtY tal W yy)).1)), (0, .ref (a 0)), (1, .ref (a2 0))] dX3_mostTellingCell_37 (by decide) rfl ?_
              refine kw_aload_n C 5 dX3_mostTellingCell_39 rfl ?_
              refine kw_iload C 0 dX3_mostTellingCell_40 rfl ?_
              refine kV_i (As := [.int (nI ((6 * yy) + xx))]) (rest := []) (ws' := fun (u : Unit) => kSight y a (nI M, q1, q2, q3, xs, ys, cs, tal) ++ kWork y a2 (nI W, nI H, nI N, nI D, p1, p2, p3, col, od, blk, slp)) C (c_X3_greatestTally l G y t a M q1 q2 q3 xs ys cs tal ((6 * yy) + xx) (by first | assumption | omega | decide)) (cwV 1 C.2.2.2.2.1 (goodV cT wd_583 wd_580 wd_582 wd_12 wd_46) rfl rfl rfl (by decide +kernel) ⟨by decide, by decide⟩) [0, 1, 2, 3, 4, 5] [6, 7, 8, 9, 10, 11] [6, 7, 8, 9, 10, 11, 0, 1, 2, 3, 4, 5] rfl (by decide) rfl (by decide) (by decide) (fun _ => rfl) (by decide) 0 rfl rfl rfl (Nat.le_of_ble_eq_true rfl) ⟨by decide, by decide⟩ dX3_mostTellingCell_42 (fun r u hr_3 => ?_)
              subst hr_3
              refine kw_istore C [(7, .int (gtF tal ((6 * yy) + xx) 8)), (6, .int (nI ((6 * yy) + xx))), (5, .int (nI xx)), (4, .int (nI yy)), (3, .int ((mtX tal yy xx (mtY tal W yy)).2)), (2, .int ((mtX tal yy xx (mtY tal W yy)).1)), (0, .ref (a 0)), (1, .ref (a2 0))] dX3_mostTellingCell_45 (by decide) rfl ?_
              refine kw_iload_n C 5 dX3_mostTellingCell_47 rfl ?_
              refine kw_bipush (v := (-9)) C dX3_mostTellingCell_48 (by decide) ?_
              refine kw_icmp_eq (tgt := 59) C dX3_mostTellingCell_50 (by decide) (fun c_50 => ?_) (fun c_50 => ?_)
              ·
                refine kw_iload C 1 dX3_mostTellingCell_59 rfl ?_
                refine kw_istore_n C [(2, .int (nI ((6 * yy) + xx))), (7, .int (gtF tal ((6 * yy) + xx) 8)), (6, .int (nI ((6 * yy) + xx))), (5, .int (nI xx)), (4, .int (nI yy)), (3, .int ((mtX tal yy xx (mtY tal W yy)).2)), (0, .ref (a 0)), (1, .ref (a2 0))] dX3_mostTellingCell_61 rfl (by decide) rfl ?_
                refine kw_iload C 1 dX3_mostTellingCell_62 rfl ?_
                refine kw_istore_n C [(3, .int (gtF tal ((6 * yy) + xx) 8)), (2, .int (nI ((6 * yy) + xx))), (7, .int (gtF tal ((6 * yy) + xx) 8)), (6, .int (nI ((6 * yy) + xx))), (5, .int (nI xx)), (4, .int (nI yy)), (0, .ref (a 0)), (1, .ref (a2 0))] dX3_mostTellingCell_64 rfl (by decide) rfl ?_
                refine kw_iinc (v := nI (xx + 1)) C [(5, .int (nI (xx + 1))), (3, .int (gtF tal ((6 * yy) + xx) 8)), (2, .int (nI ((6 * yy) + xx))), (7, .int (gtF tal ((6 * yy) + xx) 8)), (6, .int (nI ((6 * yy) + xx))), (4, .int (nI yy)), (0, .ref (a 0)), (1, .ref (a2 0))] 4 dX3_mostTellingCell_65 rfl (nI_1 _) (by decide) rfl ?_
                refine kw_goto (tgt := 20) C dX3_mostTellingCell_68 (by decide) ?_
                refine KW.loc (lv' := [(5, .int (nI (xx + 1))), (4, .int (nI yy)), (3, .int (gtF tal ((6 * yy) + xx) 8)), (2, .int (nI ((6 * yy) + xx))), (0, .ref (a 0)), (1, .ref (a2 0))]) [0, 5, 1, 2, 6, 7] rfl ?_
                refine KW.asl (congrArg (fun zz => ([(5, .int (nI (xx + 1))), (4, .int (nI yy)), (3, .int zz), (2, .int (nI ((6 * yy) + xx))), (0, .ref (a 0)), (1, .ref (a2 0))] : List (Nat × Value))) (show (gtF tal ((6 * yy) + xx) 8) = ((mtX tal yy (xx + 1) (mtY tal W yy)).2) from by first | (simp only [mtX]; rw [if_pos (Or.inl c_50)]) | (simp only [mtX]; rw [if_pos (Or.inr (not_le32 c_56))]) | (simp only [mtX]; rw [if_neg (fun h => h.elim c_50 (fun q => absurd q (Int32.not_lt.mpr c_56)))]))) ?_
                refine KW.asl (congrArg (fun zz => ([(5, .int (nI (xx + 1))), (4, .int (nI yy)), (3, .int ((mtX tal yy (xx + 1) (mtY tal W yy)).2)), (2, .int zz), (0, .ref (a 0)), (1, .ref (a2 0))] : List (Nat × Value))) (show (nI ((6 * yy) + xx)) = ((mtX tal yy (xx + 1) (mtY tal W yy)).1) from by first | (simp only [mtX]; rw [if_pos (Or.inl c_50)]) | (simp only [mtX]; rw [if_pos (Or.inr (not_le32 c_56))]) | (simp only [mtX]; rw [if_neg (fun h => h.elim c_50 (fun q => absurd q (Int32.not_lt.mpr c_56)))]))) ?_
                exact ih_20 (xx + 1) (by first | assumption | omega | (simp; done)) (by omega)
              ·
                refine kw_iload C 0 dX3_mostTellingCell_53 rfl ?_
                refine kw_iload_n C 4 dX3_mostTellingCell_55 rfl ?_
                refine kw_icmp_ge (tgt := 65) C dX3_mostTellingCell_56 (by decide) (fun c_56 => ?_) (fun c_56 => ?_)
                ·
                  refine kw_iinc (v := nI (xx + 1)) C [(5, .int (nI (xx + 1))), (7, .int (gtF tal ((6 * yy) + xx) 8)), (6, .int (nI ((6 * yy) + xx))), (4, .int (nI yy)), (3, .int ((mtX tal yy xx (mtY tal W yy)).2)), (2, .int ((mtX tal yy xx (mtY tal W yy)).1)), (0, .ref (a 0)), (1, .ref (a2 0))] 2 dX3_mostTellingCell_65 rfl (nI_1 _) (by decide) rfl ?_
                  refine kw_goto (tgt := 20) C dX3_mostTellingCell_68 (by decide) ?_
                  refine KW.loc (lv' := [(5, .int (nI (xx + 1))), (4, .int (nI yy)), (3, .int ((mtX tal yy xx (mtY tal W yy)).2)), (2, .int ((mtX tal yy xx (mtY tal W yy)).1)), (0, .ref (a 0)), (1, .ref (a2 0))]) [0, 3, 4, 5, 6, 7] rfl ?_
                  refine KW.asl (congrArg (fun zz => ([(5, .int (nI (xx + 1))), (4, .int (nI yy)), (3, .int zz), (2, .int ((mtX tal yy xx (mtY tal W yy)).1)), (0, .ref (a 0)), (1, .ref (a2 0))] : List (Nat × Value))) (show ((mtX tal yy xx (mtY tal W yy)).2) = ((mtX tal yy (xx + 1) (mtY tal W yy)).2) from by first | (simp only [mtX]; rw [if_pos (Or.inl c_50)]) | (simp only [mtX]; rw [if_pos (Or.inr (not_le32 c_56))]) | (simp only [mtX]; rw [if_neg (fun h => h.elim c_50 (fun q => absurd q (Int32.not_lt.mpr c_56)))]))) ?_
                  refine KW.asl (congrArg (fun zz => ([(5, .int (nI (xx + 1))), (4, .int (nI yy)), (3, .int ((mtX tal yy (xx + 1) (mtY tal W yy)).2)), (2, .int zz), (0, .ref (a 0)), (1, .ref (a2 0))] : List (Nat × Value))) (show ((mtX tal yy xx (mtY tal W yy)).1) = ((mtX tal yy (xx + 1) (mtY tal W yy)).1) from by first | (simp only [mtX]; rw [if_pos (Or.inl c_50)]) | (simp only [mtX]; rw [if_pos (Or.inr (not_le32 c_56))]) | (simp only [mtX]; rw [if_neg (fun h => h.elim c_50 (fun q => absurd q (Int32.not_lt.mpr c_56)))]))) ?_
                  exact ih_20 (xx + 1) (by first | assumption | omega | (simp; done)) (by omega)
                ·
                  refine kw_iload C 1 dX3_mostTellingCell_59 rfl ?_
                  refine kw_istore_n C [(2, .int (nI ((6 * yy) + xx))), (7, .int (gtF tal ((6 * yy) + xx) 8)), (6, .int (nI ((6 * yy) + xx))), (5, .int (nI xx)), (4, .int (nI yy)), (3, .int ((mtX tal yy xx (mtY tal W yy)).2)), (0, .ref (a 0)), (1, .ref (a2 0))] dX3_mostTellingCell_61 rfl (by decide) rfl ?_
                  refine kw_iload C 1 dX3_mostTellingCell_62 rfl ?_
                  refine kw_istore_n C [(3, .int (gtF tal ((6 * yy) + xx) 8)), (2, .int (nI ((6 * yy) + xx))), (7, .int (gtF tal ((6 * yy) + xx) 8)), (6, .int (nI ((6 * yy) + xx))), (5, .int (nI xx)), (4, .int (nI yy)), (0, .ref (a 0)), (1, .ref (a2 0))] dX3_mostTellingCell_64 rfl (by decide) rfl ?_
                  refine kw_iinc (v := nI (xx + 1)) C [(5, .int (nI (xx + 1))), (3, .int (gtF tal ((6 * yy) + xx) 8)), (2, .int (nI ((6 * yy) + xx))), (7, .int (gtF tal ((6 * yy) + xx) 8)), (6, .int (nI ((6 * yy) + xx))), (4, .int (nI yy)), (0, .ref (a 0)), (1, .ref (a2 0))] 4 dX3_mostTellingCell_65 rfl (nI_1 _) (by decide) rfl ?_
                  refine kw_goto (tgt := 20) C dX3_mostTellingCell_68 (by decide) ?_
                  refine KW.loc (lv' := [(5, .int (nI (xx + 1))), (4, .int (nI yy)), (3, .int (gtF tal ((6 * yy) + xx) 8)), (2, .int (nI ((6 * yy) + xx))), (0, .ref (a 0)), (1, .ref (a2 0))]) [0, 5, 1, 2, 6, 7] rfl ?_
                  refine KW.asl (congrArg (fun zz => ([(5, .int (nI (xx + 1))), (4, .int (nI yy)), (3, .int zz), (2, .int (nI ((6 * yy) + xx))), (0, .ref (a 0)), (1, .ref (a2 0))] : List (Nat × Value))) (show (gtF tal ((6 * yy) + xx) 8) = ((mtX tal yy (xx + 1) (mtY tal W yy)).2) from by first | (simp only [mtX]; rw [if_pos (Or.inl c_50)]) | (simp only [mtX]; rw [if_pos (Or.inr (not_le32 c_56))]) | (simp only [mtX]; rw [if_neg (fun h => h.elim c_50 (fun q => absurd q (Int32.not_lt.mpr c_56)))]))) ?_
                  refine KW.asl (congrArg (fun zz => ([(5, .int (nI (xx + 1))), (4, .int (nI yy)), (3, .int ((mtX tal yy (xx + 1) (mtY tal W yy)).2)), (2, .int zz), (0, .ref (a 0)), (1, .ref (a2 0))] : List (Nat × Value))) (show (nI ((6 * yy) + xx)) = ((mtX tal yy (xx + 1) (mtY tal W yy)).1) from by first | (simp only [mtX]; rw [if_pos (Or.inl c_50)]) | (simp only [mtX]; rw [if_pos (Or.inr (not_le32 c_56))]) | (simp only [mtX]; rw [if_neg (fun h => h.elim c_50 (fun q => absurd q (Int32.not_lt.mpr c_56)))]))) ?_
                  exact ih_20 (xx + 1) (by first | assumption | omega | (simp; done)) (by omega)
        refine KW.loc (lv' := [(5, .int (nI 0)), (4, .int (nI yy)), (3, .int ((mtY tal W yy).2)), (2, .int ((mtY tal W yy).1)), (0, .ref (a 0)), (1, .ref (a2 0))]) [0, 1, 2, 3, 4, 5] rfl ?_
        refine KW.asl (congrArg (fun zz => ([(5, .int (nI 0)), (4, .int (nI yy)), (3, .int zz), (2, .int ((mtY tal W yy).1)), (0, .ref (a 0)), (1, .ref (a2 0))] : List (Nat × Value))) (show ((mtY tal W yy).2) = ((mtX tal yy 0 (mtY tal W yy)).2) from by rfl)) ?_
        refine KW.asl (congrArg (fun zz => ([(5, .int (nI 0)), (4, .int (nI yy)), (3, .int ((mtX tal yy 0 (mtY tal W yy)).2)), (2, .int zz), (0, .ref (a 0)), (1, .ref (a2 0))] : List (Nat × Value))) (show ((mtY tal W yy).1) = ((mtX tal yy 0 (mtY tal W yy)).1) from by rfl)) ?_
        exact L20_2 (W - 0 + 1) 0 (by first | assumption | omega | (simp; done)) (Nat.lt_succ_self _)
  refine KW.loc (lv' := [(4, .int (nI 0)), (3, .int (nI 0)), (2, .int (-9)), (0, .ref (a 0)), (1, .ref (a2 0))]) [0, 1, 2, 3, 4] rfl ?_
  refine KW.asl (congrArg (fun zz => ([(4, .int (nI 0)), (3, .int zz), (2, .int (-9)), (0, .ref (a 0)), (1, .ref (a2 0))] : List (Nat × Value))) (show (nI 0) = ((mtY tal W 0).2) from by rfl)) ?_
  refine KW.asl (congrArg (fun zz => ([(4, .int (nI 0)), (3, .int ((mtY tal W 0).2)), (2, .int zz), (0, .ref (a 0)), (1, .ref (a2 0))] : List (Nat × Value))) (show (-9) = ((mtY tal W 0).1) from by rfl)) ?_
  exact L8_1 (H - 0 + 1) 0 (by first | assumption | omega | (simp; done)) (Nat.lt_succ_self _)

set_option maxHeartbeats 4000000 in
set_option maxRecDepth 100000 in
theorem c_X3_bestCell (l : Launch) (G : va_G) (y : Nat → ClassId) (t : Nat) (a : Nat → Nat) (M : Nat) (q1 : Int64) (q2 : Int64) (q3 : Int64) (xs : Nat → Int32) (ys : Nat → Int32) (cs : Nat → Int32) (tal : Nat → Int32) (a2 : Nat → Nat) (W : Nat) (H : Nat) (N : Nat) (D : Nat) (p1 : Int64) (p2 : Int64) (p3 : Int64) (col : Nat → Int32) (od : Nat → Int32) (blk : Nat → Int64) (slp : Nat → Int32) (o : Nat → Nat) (cl : Nat → Nat) (kk : Nat → Nat) (sx : Nat → Nat) (sy : Nat → Nat) (sc : Nat → Nat) (hW : W ≤ 6) (hH : H ≤ 6) (hN : N ≤ 6) (hD : D < 64) (hod : ∀ q, q < N → od q = nI (o q) ∧ o q < N) (hcol : ∀ i, i < N → col i = nI (cl i) ∧ cl i < 8) (hsl : ∀ i, i < N → slp i = nI (kk i) ∧ kk i < 9) (hM : M ≤ 6) (hse : ∀ i, i < M → xs i = nI (sx i) ∧ ys i = nI (sy i) ∧ cs i = nI (sc i) ∧ sx i < 6 ∧ sy i < 6 ∧ sc i < 8) (sz : Nat) : Met l yX3_bestCell (Cond.code yX3_bestCell cX3_bestCell 4 (some .int) :: TG) ({ frames := 4, cells := 0, slots := 0, locals := 103 }) (va_Pc [.ref (a 0), .ref (a2 0)] (PR G y t (kSight y a (nI M, q1, q2, q3, xs, ys, cs, tal) ++ kWork y a2 (nI W, nI H, nI N, nI D, p1, p2, p3, col, od, blk, slp)) sz)) (va_Qi (fun (r : Int32) (u : Int64 × Int64 × Int64 × (Nat → Int32)) => r = (if 1 < cntG (exB W H N D blk o cl kk M sx sy sc) (9 * N + 1) then (mtY (talG (exB W H N D blk o cl kk M sx sy sc) (PG W H N D blk o cl kk) W H (9 * N + 1)) W H).1 else (-9))) (fun (u : Int64 × Int64 × Int64 × (Nat → Int32)) t => PO G (va_A (kSight y a (nI M, q1, q2, q3, xs, ys, cs, tal) ++ kWork y a2 (nI W, nI H, nI N, nI D, p1, p2, p3, col, od, blk, slp)) sz) (kSight y a (nI M, u.1, u.2.1, u.2.2.1, xs, ys, cs, u.2.2.2) ++ kWork y a2 (nI W, nI H, nI N, nI D, p1, p2, p3, col, od, blk, slp)) t) (va_A (kSight y a (nI M, q1, q2, q3, xs, ys, cs, tal) ++ kWork y a2 (nI W, nI H, nI N, nI D, p1, p2, p3, col, od, blk, slp)) sz)) 0 0 (va_A (kSight y a (nI M, q1, q2, q3, xs, ys, cs, tal) ++ kWork y a2 (nI W, nI H, nI N, nI D, p1, p2, p3, col, od, blk, slp)) sz) := by
  refine kMet (cc := cX3_bestCell) (maxL := 4) (ret := some .int) (Qc := fun A => va_Qi (fun (r : Int32) (u : Int64 × Int64 × Int64 × (Nat → Int32)) => r = (if 1 < cntG (exB W H N D blk o cl kk M sx sy sc) (9 * N + 1) then (mtY (talG (exB W H N D blk o cl kk M sx sy sc) (PG W H N D blk o cl kk) W H (9 * N + 1)) W H).1 else (-9))) (fun (u : Int64 × Int64 × Int64 × (Nat → Int32)) t => PO G A (kSight y a (nI M, u.1, u.2.1, u.2.2.1, xs, ys, cs, u.2.2.2) ++ kWork y a2 (nI W, nI H, nI N, nI D, p1, p2, p3, col, od, blk, slp)) t) A) (by decide) rfl (Nat.le_of_ble_eq_true rfl) (fun p e s m below meth c A hsz C hin => ?_)
  refine KW.loc (lv' := [(0, .ref (a 0)), (1, .ref (a2 0))]) [0, 1] rfl ?_
  refine kw_iconst (v := nI 0) C dX3_bestCell_0 (by decide) ?_
  refine kw_istore_n C [(2, .int (nI 0)), (0, .ref (a 0)), (1, .ref (a2 0))] dX3_bestCell_1 rfl (by decide) rfl ?_
  have L2_1 : ∀ (nn : Nat) (i : Nat) (f0 : Nat → Int32) (hi : i ≤ 288) (hf0 : ∀ j, j < i → f0 j = nI 0) (hms : 288 - i < nn), KW p l e ({ frames := 4, cells := 0, slots := 0, locals := 103 }) s m ([.ref (a 0), .ref (a2 0)] : List Value).toArray below meth c 0 0 (MQ below (va_Qi (fun (r : Int32) (u : Int64 × Int64 × Int64 × (Nat → Int32)) => r = (if 1 < cntG (exB W H N D blk o cl kk M sx sy sc) (9 * N + 1) then (mtY (talG (exB W H N D blk o cl kk M sx sy sc) (PG W H N D blk o cl kk) W H (9 * N + 1)) W H).1 else (-9))) (fun (u : Int64 × Int64 × Int64 × (Nat → Int32)) t => PO G A (kSight y a (nI M, u.1, u.2.1, u.2.2.1, xs, ys, cs, u.2.2.2) ++ kWork y a2 (nI W, nI H, nI N, nI D, p1, p2, p3, col, od, blk, slp)) t) A) ([.ref (a 0), .ref (a2 0)] : List Value).toArray s 0 0 A) G A 4 (kSight y a (nI M, q1, q2, q3, xs, ys, cs, f0) ++ kWork y a2 (nI W, nI H, nI N, nI D, p1, p2, p3, col, od, blk, slp)) [(2, .int (nI i)), (0, .ref (a 0)), (1, .ref (a2 0))] 2 [] := by
    intro nn
    induction nn with
    | zero => intro i f0 hi hf0 hms; exact absurd hms (Nat.not_lt_zero _)
    | succ nn ih_2 =>
      intro i f0 hi hf0 hms
      refine kw_iload_n C 0 dX3_bestCell_2 rfl ?_
      refine kw_aload_n C 1 dX3_bestCell_3 rfl ?_
      refine kw_get (v := .ref (a 5)) (T := TX3) C 0 5 rfl rfl (by decide) (fun w h => mT (fwX3 w h)) rfl (mT wd_184) rfl dX3_bestCell_4 ?_
      refine kw_alen C 5 1 rfl rfl dX3_bestCell_7 (kw_top (x' := nI 288) rfl ?_)
      refine kw_icmp_ge_N (tgt := 24) C (by omega) (by omega) dX3_bestCell_8 (by decide) (fun c_8 => ?_) (fun c_8 => ?_)
      ·
        refine kw_iconst (v := nI 0) C dX3_bestCell_24 (by decide) ?_
        refine kw_exti (fun _ => nI 0) 5 (kSight y a (nI M, q1, q2, q3, xs, ys, cs, fun _ => nI 0) ++ kWork y a2 (nI W, nI H, nI N, nI D, p1, p2, p3, col, od, blk, slp)) rfl (by intro j hj; exact hf0 j (by omega)) rfl ?_
        refine kw_istore_n C [(2, .int (nI 0)), (0, .ref (a 0)), (1, .ref (a2 0))] dX3_bestCell_25 rfl (by decide) rfl ?_
        refine kw_iconst (v := (-1)) C dX3_bestCell_26 (by decide) ?_
        refine kw_istore_n C [(3, .int (-1)), (2, .int (nI 0)), (0, .ref (a 0)), (1, .ref (a2 0))] dX3_bestCell_27 rfl (by decide) rfl ?_
        have L28_2 : ∀ (nn : Nat) (g : Nat) (s1 : Int64) (s2 : Int64) (s3 : Int64) (hgg : g ≤ 9 * N + 1) (hms : 9 * N + 1 - g < nn), KW p l e ({ frames := 4, cells := 0, slots := 0, locals := 103 }) s m ([.ref (a 0), .ref (a2 0)] : List Value).toArray below meth c 0 0 (MQ below (va_Qi (fun (r : Int32) (u : Int64 × Int64 × Int64 × (Nat → Int32)) => r = (if 1 < cntG (exB W H N D blk o cl kk M sx sy sc) (9 * N + 1) then (mtY (talG (exB W H N D blk o cl kk M sx sy sc) (PG W H N D blk o cl kk) W H (9 * N + 1)) W H).1 else (-9))) (fun (u : Int64 × Int64 × Int64 × (Nat → Int32)) t => PO G A (kSight y a (nI M, u.1, u.2.1, u.2.2.1, xs, ys, cs, u.2.2.2) ++ kWork y a2 (nI W, nI H, nI N, nI D, p1, p2, p3, col, od, blk, slp)) t) A) ([.ref (a 0), .ref (a2 0)] : List Value).toArray s 0 0 A) G A 4 (kSight y a (nI M, s1, s2, s3, xs, ys, cs, talG (exB W H N D blk o cl kk M sx sy sc) (PG W H N D blk o cl kk) W H g) ++ kWork y a2 (nI W, nI H, nI N, nI D, p1, p2, p3, col, od, blk, slp)) [(3, .int (gs g)), (2, .int (nI (cntG (exB W H N D blk o cl kk M sx sy sc) g))), (0, .ref (a 0)), (1, .ref (a2 0))] 28 [] := by
          intro nn
          induction nn with
          | zero => intro g s1 s2 s3 hgg hms; exact absurd hms (Nat.not_lt_zero _)
          | succ nn ih_28 =>
            intro g s1 s2 s3 hgg hms
            refine kw_iload_n C 0 dX3_bestCell_28 rfl ?_
            refine kw_bipush (v := nI 9) C dX3_bestCell_29 (by decide) ?_
            refine kw_aload_n C 3 dX3_bestCell_31 rfl ?_
            refine kw_getN (v := .int (nI N)) (T := TX5) C 6 2 rfl rfl (by decide) (fun w h => mT (fwX5 w h)) rfl (List.mem_of_getElem? (i := 6) rfl) rfl dX3_bestCell_32 ?_
            refine kw_imul C dX3_bestCell_35 (kw_top (pk_mul _ _) ?_)
            refine kw_icmp_ge (tgt := 62) C dX3_bestCell_36 (by decide) (fun c_36 => ?_) (fun c_36 => ?_)
            ·
              have hgE : g = 9 * N + 1 := by
                have := (gs_ge (g := g) (n := 9 * N) (by omega) (by omega)).mp c_36
                omega
              refine kw_iload_n C 1 dX3_bestCell_62 rfl ?_
              refine kw_iconst (v := nI 1) C dX3_bestCell_63 (by decide) ?_
              refine kw_icmp_le_N (tgt := 75) C (by first | omega | (have := cntG_le (exB W H N D blk o cl kk M sx sy sc) g; omega)) (by first | omega | (have := cntG_le (exB W H N D blk o cl kk M sx sy sc) g; omega)) dX3_bestCell_64 (by decide) (fun c_64 => ?_) (fun c_64 => ?_)
              ·
                refine kw_bipush (v := (-9)) C dX3_bestCell_75 (by decide) ?_
                refine kR_i C (s1, s2, s3, talG (exB W H N D blk o cl kk M sx sy sc) (PG W H N D blk o cl kk) W H g) dX3_bestCell_77 ?_ rfl
                first | (rw [if_neg (by rw [← hgE]; omega)]; done) | (rw [if_pos (by rw [← hgE]; omega), hgE]; done)
              ·
                refine kw_aload_n C 2 dX3_bestCell_67 rfl ?_
                refine kw_aload_n C 3 dX3_bestCell_68 rfl ?_
                refine kV_i (As := [.ref (a2 0)]) (rest := []) (ws' := fun (u : Unit) => kSight y a (nI M, s1, s2, s3, xs, ys, cs, talG (exB W H N D blk o cl kk M sx sy sc) (PG W H N D blk o cl kk) W H g) ++ kWork y a2 (nI W, nI H, nI N, nI D, p1, p2, p3, col, od, blk, slp)) C (c_X3_mostTellingCell l G y t a M s1 s2 s3 xs ys cs (talG (exB W H N D blk o cl kk M sx sy sc) (PG W H N D blk o cl kk) W H g) a2 W H N D p1 p2 p3 col od blk slp (by first | assumption | omega | decide) (by first | assumption | omega | decide)) (cwV 1 C.2.2.2.2.1 (goodV cT wd_579 wd_576 wd_578 wd_11 wd_46) rfl rfl rfl (by decide +kernel) ⟨by decide, by decide⟩) [0, 1, 2, 3, 4, 5, 6, 7, 8, 9, 10, 11] [] [0, 1, 2, 3, 4, 5, 6, 7, 8, 9, 10, 11] rfl (by decide) rfl (by decide) (by decide) (fun _ => rfl) (by decide) 0 rfl rfl rfl (Nat.le_of_ble_eq_true rfl) ⟨by decide, by decide⟩ dX3_bestCell_69 (fun r u hr_3 => ?_)
                subst hr_3
                refine kw_goto (tgt := 77) C dX3_bestCell_72 (by decide) ?_
                refine kR_i C (s1, s2, s3, talG (exB W H N D blk o cl kk M sx sy sc) (PG W H N D blk o cl kk) W H g) dX3_bestCell_77 ?_ rfl
                first | (rw [if_neg (by rw [← hgE]; omega)]; done) | (rw [if_pos (by rw [← hgE]; omega), hgE]; done)
            ·
              have hgN : g ≤ 9 * N := by
                rcases Nat.lt_or_ge (9 * N) g with h | h
                · exact absurd ((gs_ge (by omega) (by omega)).mpr h) c_36
                · exact h
              refine kw_aload_n C 2 dX3_bestCell_39 rfl ?_
              refine kw_aload_n C 3 dX3_bestCell_40 rfl ?_
              refine kw_iload_n C 0 dX3_bestCell_41 rfl ?_
              refine kV_i (As := [.ref (a2 0), .int (gs g)]) (rest := []) (ws' := fun (u : Int64 × Int64 × Int64) => kSight y a (nI M, u.1, u.2.1, u.2.2, xs, ys, cs, talG (exB W H N D blk o cl kk M sx sy sc) (PG W H N D blk o cl kk) W H g) ++ kWork y a2 (nI W, nI H, nI N, nI D, p1, p2, p3, col, od, blk, slp)) C (c_X3_explains l G y t a M s1 s2 s3 xs ys cs (talG (exB W H N D blk o cl kk M sx sy sc) (PG W H N D blk o cl kk) W H g) a2 W H N D p1 p2 p3 col od blk slp o cl kk sx sy sc g (by first | assumption | omega | decide) (by first | assumption | omega | decide) (by first | assumption | omega | decide) (by first | assumption | omega | decide) (by first | assumption | omega | decide) (by first | assumption | omega | decide) (by first | assumption | omega | decide) (by first | assumption | omega | decide) (by first | assumption | omega | decide) (by exact hgN)) (cwV 2 C.2.2.2.2.1 (goodV cT wd_554 wd_551 wd_553 wd_9 wd_46) rfl rfl rfl (by decide +kernel) ⟨by decide, by decide⟩) [0, 1, 2, 3, 4, 5, 6, 7, 8, 9, 10, 11] [] [0, 1, 2, 3, 4, 5, 6, 7, 8, 9, 10, 11] rfl (by decide) rfl (by decide) (by decide) (fun _ => rfl) (by decide) 0 rfl rfl rfl (Nat.le_of_ble_eq_true rfl) ⟨by decide, by decide⟩ dX3_bestCell_42 (fun r u hr_4 => ?_)
              obtain ⟨v1, v2, v3⟩ := u
              try dsimp only at hr_4
              obtain ⟨hq, hpl⟩ := hr_4
              subst hq
              refine kw_if_eq_B (tgt := 56) C dX3_bestCell_45 (by decide) (fun c_45 => ?_) (fun c_45 => ?_)
              ·
                refine kw_iinc (v := gs (g + 1)) C [(3, .int (gs (g + 1))), (2, .int (nI (cntG (exB W H N D blk o cl kk M sx sy sc) g))), (0, .ref (a 0)), (1, .ref (a2 0))] 0 dX3_bestCell_56 rfl (by exact gs_inc g) (by decide) rfl ?_
                refine kw_goto (tgt := 28) C dX3_bestCell_59 (by decide) ?_
                refine KW.loc (lv' := [(3, .int (gs (g + 1))), (2, .int (nI (cntG (exB W H N D blk o cl kk M sx sy sc) g))), (0, .ref (a 0)), (1, .ref (a2 0))]) [0, 1, 2, 3] rfl ?_
                refine KW.asl (congrArg (fun zz => ([(3, .int (gs (g + 1))), (2, .int zz), (0, .ref (a 0)), (1, .ref (a2 0))] : List (Nat × Value))) (show (nI (cntG (exB W H N D blk o cl kk M sx sy sc) g)) = (nI (cntG (exB W H N D blk o cl kk M sx sy sc) (g + 1))) from by simp [cntG, c_45])) ?_
                refine KW.asw (congrArg (fun zz => (kSight y a (nI M, v1, v2, v3, xs, ys, cs, zz) ++ kWork y a2 (nI W, nI H, nI N, nI D, p1, p2, p3, col, od, blk, slp) : va_W)) (show (talG (exB W H N D blk o cl kk M sx sy sc) (PG W H N D blk o cl kk) W H g) = (talG (exB W H N D blk o cl kk M sx sy sc) (PG W H N D blk o cl kk) W H (g + 1)) from by first | (simp only [talG]; rw [if_pos c_45, hv1, hv2, hv3]; done) | (simp only [talG]; rw [if_neg (by rw [c_45]; decide)]))) ?_
                exact ih_28 (g + 1) v1 v2 v3 (by first | assumption | omega | (simp; done)) (by omega)
              ·
                obtain ⟨hv1, hv2, hv3⟩ := hpl c_45
                refine kw_iinc (v := nI ((cntG (exB W H N D blk o cl kk M sx sy sc) g) + 1)) C [(2, .int (nI ((cntG (exB W H N D blk o cl kk M sx sy sc) g) + 1))), (3, .int (gs g)), (0, .ref (a 0)), (1, .ref (a2 0))] 1 dX3_bestCell_48 rfl (nI_1 _) (by decide) rfl ?_
                refine kw_aload_n C 2 dX3_bestCell_51 rfl ?_
                refine kw_aload_n C 3 dX3_bestCell_52 rfl ?_
                refine kV_v (As := [.ref (a2 0)]) (rest := []) (ws' := fun (u : Unit) => kSight y a (nI M, v1, v2, v3, xs, ys, cs, talY v1 v2 v3 W H (talG (exB W H N D blk o cl kk M sx sy sc) (PG W H N D blk o cl kk) W H g)) ++ kWork y a2 (nI W, nI H, nI N, nI D, p1, p2, p3, col, od, blk, slp)) C (c_X3_addToTally l G y t a M v1 v2 v3 xs ys cs (talG (exB W H N D blk o cl kk M sx sy sc) (PG W H N D blk o cl kk) W H g) a2 W H N D p1 p2 p3 col od blk slp (by first | assumption | omega | decide) (by first | assumption | omega | decide)) (cwV 1 C.2.2.2.2.1 (goodV cT wd_575 wd_572 wd_574 wd_10 wd_46) rfl rfl rfl (by decide +kernel) ⟨by decide, by decide⟩) [0, 1, 2, 3, 4, 5, 6, 7, 8, 9, 10, 11] [] [0, 1, 2, 3, 4, 5, 6, 7, 8, 9, 10, 11] rfl (by decide) rfl (by decide) (by decide) (fun _ => rfl) (by decide) 0 rfl rfl rfl (Nat.le_of_ble_eq_true rfl) ⟨by decide, by decide⟩ dX3_bestCell_53 (fun u hr_5 => ?_)
                refine kw_iinc (v := gs (g + 1)) C [(3, .int (gs (g + 1))), (2, .int (nI ((cntG (exB W H N D blk o cl kk M sx sy sc) g) + 1))), (0, .ref (a 0)), (1, .ref (a2 0))] 1 dX3_bestCell_56 rfl (by exact gs_inc g) (by decide) rfl ?_
                refine kw_goto (tgt := 28) C dX3_bestCell_59 (by decide) ?_
                refine KW.loc (lv' := [(3, .int (gs (g + 1))), (2, .int (nI ((cntG (exB W H N D blk o cl kk M sx sy sc) g) + 1))), (0, .ref (a 0)), (1, .ref (a2 0))]) [0, 1, 2, 3] rfl ?_
                refine KW.asl (congrArg (fun zz => ([(3, .int (gs (g + 1))), (2, .int zz), (0, .ref (a 0)), (1, .ref (a2 0))] : List (Nat × Value))) (show (nI ((cntG (exB W H N D blk o cl kk M sx sy sc) g) + 1)) = (nI (cntG (exB W H N D blk o cl kk M sx sy sc) (g + 1))) from by simp [cntG, c_45])) ?_
                refine KW.asw (congrArg (fun zz => (kSight y a (nI M, v1, v2, v3, xs, ys, cs, zz) ++ kWork y a2 (nI W, nI H, nI N, nI D, p1, p2, p3, col, od, blk, slp) : va_W)) (show (talY v1 v2 v3 W H (talG (exB W H N D blk o cl kk M sx sy sc) (PG W H N D blk o cl kk) W H g)) = (talG (exB W H N D blk o cl kk M sx sy sc) (PG W H N D blk o cl kk) W H (g + 1)) from by first | (simp only [talG]; rw [if_pos c_45, hv1, hv2, hv3]; done) | (simp only [talG]; rw [if_neg (by rw [c_45]; decide)]))) ?_
                exact ih_28 (g + 1) v1 v2 v3 (by first | assumption | omega | (simp; done)) (by omega)
        refine KW.loc (lv' := [(3, .int (-1)), (2, .int (nI 0)), (0, .ref (a 0)), (1, .ref (a2 0))]) [0, 1, 2, 3] rfl ?_
        refine KW.asl (congrArg (fun zz => ([(3, .int zz), (2, .int (nI 0)), (0, .ref (a 0)), (1, .ref (a2 0))] : List (Nat × Value))) (show (-1) = (gs 0) from by rfl)) ?_
        refine KW.asl (congrArg (fun zz => ([(3, .int (gs 0)), (2, .int zz), (0, .ref (a 0)), (1, .ref (a2 0))] : List (Nat × Value))) (show (nI 0) = (nI (cntG (exB W H N D blk o cl kk M sx sy sc) 0)) from by rfl)) ?_
        refine KW.asw (congrArg (fun zz => (kSight y a (nI M, q1, q2, q3, xs, ys, cs, zz) ++ kWork y a2 (nI W, nI H, nI N, nI D, p1, p2, p3, col, od, blk, slp) : va_W)) (show (fun _ => nI 0) = (talG (exB W H N D blk o cl kk M sx sy sc) (PG W H N D blk o cl kk) W H 0) from by rfl)) ?_
        exact L28_2 (9 * N + 1 - 0 + 1) 0 q1 q2 q3 (by first | assumption | omega | (simp; done)) (Nat.lt_succ_self _)
      ·
        refine kw_aload_n C 1 dX3_bestCell_11 rfl ?_
        refine kw_get (v := .ref (a 5)) (T := TX3) C 0 5 rfl rfl (by decide) (fun w h => mT (fwX3 w h)) rfl (mT wd_184) rfl dX3_bestCell_12 ?_
        refine kw_iload_n C 0 dX3_bestCell_15 rfl ?_
        refine kw_iconst (v := nI 0) C dX3_bestCell_16 (by decide) ?_
        refine kw_iast C 5 (kSight y a (nI M, q1, q2, q3, xs, ys, cs, upd f0 i (nI 0)) ++ kWork y a2 (nI W, nI H, nI N, nI D, p1, p2, p3, col, od, blk, slp)) rfl (by omega) (by decide) dX3_bestCell_17 rfl ?_
        refine kw_iinc (v := nI (i + 1)) C [(2, .int (nI (i + 1))), (0, .ref (a 0)), (1, .ref (a2 0))] 0 dX3_bestCell_18 rfl (nI_1 _) (by decide) rfl ?_
        refine kw_goto (tgt := 2) C dX3_bestCell_21 (by decide) ?_
        refine KW.loc (lv' := [(2, .int (nI (i + 1))), (0, .ref (a 0)), (1, .ref (a2 0))]) [0, 1, 2] rfl ?_
        exact ih_2 (i + 1) (upd f0 i (nI 0)) (by first | assumption | omega | (simp; done)) (by intro j hj; rcases Nat.lt_or_ge j i with h | h; rw [pk_un (by omega)]; exact hf0 j h; rw [show j = i from by omega]; exact pk_us) (by omega)
  refine KW.loc (lv' := [(2, .int (nI 0)), (0, .ref (a 0)), (1, .ref (a2 0))]) [0, 1, 2] rfl ?_
  exact L2_1 (288 - 0 + 1) 0 tal (by first | assumption | omega | (simp; done)) (by intro j hj; exact absurd hj (Nat.not_lt_zero _)) (Nat.lt_succ_self _)
