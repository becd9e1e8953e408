set_option maxHeartbeats 4000000 in
set_option maxRecDepth 100000 in
theorem c_X6_type_bad (l : Launch) (G : va_G) (y : Nat → ClassId) (t : Nat) (q : Nat → Nat) (kp : Nat → Int32) (i : Int32) (hb : ¬ inR i 256) (sz : Nat) : Met l yX6_type (Cond.code yX6_type cX6_type 2 (some .int) :: TG) ({ frames := 0, cells := 0, slots := 0, locals := 0 }) (va_Pc [.ref (q 0), .int i] (PR G y t (kMain y q (fun i => some (q (55 + 6 * i)), kp)) sz)) (va_Qi (fun (r : Int32) (u : Unit) => r = (-1)) (fun (u : Unit) t => PO G (va_A (kMain y q (fun i => some (q (55 + 6 * i)), kp)) sz) (kMain y q (fun i => some (q (55 + 6 * i)), kp)) t) (va_A (kMain y q (fun i => some (q (55 + 6 * i)), kp)) sz)) 0 0 (va_A (kMain y q (fun i => some (q (55 + 6 * i)), kp)) sz) := by
  refine kMet (cc := cX6_type) (maxL := 2) (ret := some .int) (Qc := fun A => va_Qi (fun (r : Int32) (u : Unit) => r = (-1)) (fun (u : Unit) t => PO G A (kMain y q (fun i => some (q (55 + 6 * i)), kp)) t) A) (by decide) rfl (Nat.le_of_ble_eq_true rfl) (fun p e s m below meth c A hsz C hin => ?_)
  refine KW.loc (lv' := [(0, .ref (q 0)), (1, .int i)]) [0, 1] rfl ?_
  refine kw_iload_n C 1 dX6_type_0 rfl ?_
  refine kw_if_lt (tgt := 11) C dX6_type_1 (by decide) (fun c_1 => ?_) (fun c_1 => ?_)
  ·
    refine kw_iconst (v := (-1)) C dX6_type_11 (by decide) ?_
    refine kR_i C () dX6_type_12 ?_ rfl
    first | rfl | trivial | (simp; done) | omega
  ·
    refine kw_iload_n C 1 dX6_type_4 rfl ?_
    refine kw_sipush (v := nI 255) C dX6_type_5 (by decide) ?_
    refine kw_icmp_le (tgt := 13) C dX6_type_8 (by decide) (fun c_8 => ?_) (fun c_8 => ?_)
    ·
      exact absurd (ir4 (by decide) c_1 c_8) hb
    ·
      refine kw_iconst (v := (-1)) C dX6_type_11 (by decide) ?_
      refine kR_i C () dX6_type_12 ?_ rfl
      first | rfl | trivial | (simp; done) | omega

set_option maxHeartbeats 4000000 in
set_option maxRecDepth 100000 in
theorem c_X6_type_ok (l : Launch) (G : va_G) (y : Nat → ClassId) (t : Nat) (q : Nat → Nat) (kp : Nat → Int32) (n : Nat) (it : Nat) (fg : Nat) (ltr : Nat → Int32) (ch : Nat) (hn : n ≤ 100) (hch : ch < 256) (sz : Nat) : Met l yX6_type (Cond.code yX6_type cX6_type 2 (some .int) :: TG) ({ frames := 1, cells := 0, slots := 0, locals := 21 }) (va_Pc [.ref (q 0), .int (nI ch)] (PR G y t (kMain y q (fun i => some (q (55 + 6 * i)), kp) ++ kText y (fun i => q (15 + i)) (nI n, nI it, nI fg, ltr)) sz)) (va_Qi (fun (r : Int32) (u : Nat × (Nat → Int32)) => r = (if n < 100 then nI (n + 1) else (-3)) ∧ (n < 100 → u.1 = n + 1 ∧ u.2 = upd ltr n (nI ch)) ∧ (¬ n < 100 → u.1 = n ∧ u.2 = ltr)) (fun (u : Nat × (Nat → Int32)) t => PO G (va_A (kMain y q (fun i => some (q (55 + 6 * i)), kp) ++ kText y (fun i => q (15 + i)) (nI n, nI it, nI fg, ltr)) sz) (kMain y q (fun i => some (q (55 + 6 * i)), kp) ++ kText y (fun i => q (15 + i)) (nI u.1, nI it, nI fg, u.2)) t) (va_A (kMain y q (fun i => some (q (55 + 6 * i)), kp) ++ kText y (fun i => q (15 + i)) (nI n, nI it, nI fg, ltr)) sz)) 0 0 (va_A (kMain y q (fun i => some (q (55 + 6 * i)), kp) ++ kText y (fun i => q (15 + i)) (nI n, nI it, nI fg, ltr)) sz) := by
  refine kMet (cc := cX6_type) (maxL := 2) (ret := some .int) (Qc := fun A => va_Qi (fun (r : Int32) (u : Nat × (Nat → Int32)) => r = (if n < 100 then nI (n + 1) else (-3)) ∧ (n < 100 → u.1 = n + 1 ∧ u.2 = upd ltr n (nI ch)) ∧ (¬ n < 100 → u.1 = n ∧ u.2 = ltr)) (fun (u : Nat × (Nat → Int32)) t => PO G A (kMain y q (fun i => some (q (55 + 6 * i)), kp) ++ kText y (fun i => q (15 + i)) (nI u.1, nI it, nI fg, u.2)) t) A) (by decide) rfl (Nat.le_of_ble_eq_true rfl) (fun p e s m below meth c A hsz C hin => ?_)
  refine KW.loc (lv' := [(0, .ref (q 0)), (1, .int (nI ch))]) [0, 1] rfl ?_
  refine kw_iload_n C 1 dX6_type_0 rfl ?_
  refine kw_if_lt_N (tgt := 11) C (by omega) dX6_type_1 (by decide) ?_
  refine kw_iload_n C 1 dX6_type_4 rfl ?_
  refine kw_sipush (v := nI 255) C dX6_type_5 (by decide) ?_
  refine kw_icmp_le_N (tgt := 13) C (by omega) (by omega) dX6_type_8 (by decide) (fun c_8 => ?_) (fun c_8 => ?_)
  ·
    refine kw_aload_n C 0 dX6_type_13 rfl ?_
    refine kw_get (v := .ref (q 15)) (T := TX6) C 0 2 rfl rfl (by decide) (fun w h => mT (fwX6 w h)) rfl (mT wd_227) rfl dX6_type_14 ?_
    refine kw_iload_n C 1 dX6_type_17 rfl ?_
    refine kV_i (As := [.int (nI ch)]) (rest := []) (ws' := fun (u : Nat × (Nat → Int32)) => kMain y q (fun i => some (q (55 + 6 * i)), kp) ++ kText y (fun i => q (15 + i)) (nI u.1, nI it, nI fg, u.2)) C (c_X4_append l G y t (fun i => q (15 + i)) n it fg ltr ch (by first | assumption | omega | decide) (by first | assumption | omega | decide)) (cwV 1 C.2.2.2.2.1 (goodV cT wd_260 wd_257 wd_258 wd_259 wd_44) rfl rfl rfl (by decide +kernel) ⟨by decide, by decide⟩) [3, 4] [0, 1, 2] [0, 1, 2, 3, 4] rfl (by decide) rfl (by decide) (by decide) (fun _ => rfl) (by decide) 3 rfl rfl rfl (Nat.le_of_ble_eq_true rfl) ⟨by decide, by decide⟩ dX6_type_18 (fun r u hr_3 => ?_)
    obtain ⟨n1_1, ltr1_2⟩ := u
    try dsimp only at hr_3
    obtain ⟨hq, hpo⟩ := hr_3
    subst hq
    refine kw_if_eq_D (tgt := 34) C dX6_type_21 (by decide) (fun c_21 => ?_) (fun c_21 => ?_)
    ·
      refine kw_bipush (v := (-3)) C dX6_type_34 (by decide) ?_
      refine kR_i C (n1_1, ltr1_2) dX6_type_36 ?_ rfl
      first | (refine ⟨?_, hpo⟩; rw [if_pos c_21, (hpo.1 c_21).1]; done) | (refine ⟨?_, hpo⟩; rw [if_neg c_21]; done)
    ·
      refine kw_aload_n C 0 dX6_type_24 rfl ?_
      refine kw_get (v := .ref (q 15)) (T := TX6) C 0 2 rfl rfl (by decide) (fun w h => mT (fwX6 w h)) rfl (mT wd_227) rfl dX6_type_25 ?_
      refine kw_getN (v := .int (nI n1_1)) (T := TX4) C 3 1 rfl rfl (by decide) (fun w h => mT (fwX4 w h)) rfl (List.mem_of_getElem? (i := 16) rfl) rfl dX6_type_28 ?_
      refine kw_goto (tgt := 36) C dX6_type_31 (by decide) ?_
      refine kR_i C (n1_1, ltr1_2) dX6_type_36 ?_ rfl
      first | (refine ⟨?_, hpo⟩; rw [if_pos c_21, (hpo.1 c_21).1]; done) | (refine ⟨?_, hpo⟩; rw [if_neg c_21]; done)
  ·
    omega

set_option maxHeartbeats 4000000 in
set_option maxRecDepth 100000 in
theorem c_X6_clear_ok (l : Launch) (G : va_G) (y : Nat → ClassId) (t : Nat) (q : Nat → Nat) (kp : Nat → Int32) (n : Nat) (itm : Int32) (fig : Int32) (ltr : Nat → Int32) (sz : Nat) : Met l yX6_clear (Cond.code yX6_clear cX6_clear 2 (some .int) :: TG) ({ frames := 0, cells := 0, slots := 0, locals := 0 }) (va_Pc [.ref (q 0)] (PR G y t (kMain y q (fun i => some (q (55 + 6 * i)), kp) ++ kText y (fun i => q (15 + i)) (nI n, itm, fig, ltr)) sz)) (va_Qi (fun (r : Int32) (u : Unit) => r = (nI n)) (fun (u : Unit) t => PO G (va_A (kMain y q (fun i => some (q (55 + 6 * i)), kp) ++ kText y (fun i => q (15 + i)) (nI n, itm, fig, ltr)) sz) (kMain y q (fun i => some (q (55 + 6 * i)), kp) ++ kText y (fun i => q (15 + i)) (nI 0, itm, fig, ltr)) t) (va_A (kMain y q (fun i => some (q (55 + 6 * i)), kp) ++ kText y (fun i => q (15 + i)) (nI n, itm, fig, ltr)) sz)) 0 0 (va_A (kMain y q (fun i => some (q (55 + 6 * i)), kp) ++ kText y (fun i => q (15 + i)) (nI n, itm, fig, ltr)) sz) := by
  refine kMet (cc := cX6_clear) (maxL := 2) (ret := some .int) (Qc := fun A => va_Qi (fun (r : Int32) (u : Unit) => r = (nI n)) (fun (u : Unit) t => PO G A (kMain y q (fun i => some (q (55 + 6 * i)), kp) ++ kText y (fun i => q (15 + i)) (nI 0, itm, fig, ltr)) t) A) (by decide) rfl (Nat.le_of_ble_eq_true rfl) (fun p e s m below meth c A hsz C hin => ?_)
  refine KW.loc (lv' := [(0, .ref (q 0))]) [0] rfl ?_
  refine kw_aload_n C 0 dX6_clear_0 rfl ?_
  refine kw_get (v := .ref (q 15)) (T := TX6) C 0 2 rfl rfl (by decide) (fun w h => mT (fwX6 w h)) rfl (mT wd_227) rfl dX6_clear_1 ?_
  refine kw_getN (v := .int (nI n)) (T := TX4) C 3 1 rfl rfl (by decide) (fun w h => mT (fwX4 w h)) rfl (List.mem_of_getElem? (i := 16) rfl) rfl dX6_clear_4 ?_
  refine kw_istore_n C [(1, .int (nI n)), (0, .ref (q 0))] dX6_clear_7 rfl (by decide) rfl ?_
  refine kw_aload_n C 1 dX6_clear_8 rfl ?_
  refine kw_get (v := .ref (q 15)) (T := TX6) C 0 2 rfl rfl (by decide) (fun w h => mT (fwX6 w h)) rfl (mT wd_227) rfl dX6_clear_9 ?_
  refine kw_iconst (v := nI 0) C dX6_clear_12 (by decide) ?_
  refine kw_putN (T := TX4) (ty := .int) C 3 1 (kMain y q (fun i => some (q (55 + 6 * i)), kp) ++ kText y (fun i => q (15 + i)) (nI 0, itm, fig, ltr)) rfl rfl (by decide) (fun w h => mT (fwX4 w h)) tyX4 tyX4_ok nmX4 rfl (List.mem_of_getElem? (i := 16) rfl) rfl (by decide +kernel) rfl rfl (Nat.le_of_ble_eq_true rfl) dX6_clear_13 rfl ?_
  refine kw_iload_n C 0 dX6_clear_16 rfl ?_
  refine kR_i C () dX6_clear_17 ?_ rfl
  first | rfl | trivial | (simp; done) | omega

set_option maxHeartbeats 4000000 in
set_option maxRecDepth 100000 in
theorem c_X6_undo_none (l : Launch) (G : va_G) (y : Nat → ClassId) (t : Nat) (q : Nat → Nat) (kp : Nat → Int32) (k : Nat) (mm : Nat) (wp : Nat → TWork) (sz : Nat) : Met l yX6_undo (Cond.code yX6_undo cX6_undo 1 (some .int) :: TG) ({ frames := 0, cells := 0, slots := 0, locals := 0 }) (va_Pc [.ref (q 0)] (PR G y t (kMain y q (fun i => some (q (55 + 6 * i)), kp) ++ kPast y (fun i => q (17 + i)) (nI k, nI 0, fun i => some (q (19 + 6 * i)))) sz)) (va_Qi (fun (r : Int32) (u : Unit) => r = (-2)) (fun (u : Unit) t => PO G (va_A (kMain y q (fun i => some (q (55 + 6 * i)), kp) ++ kPast y (fun i => q (17 + i)) (nI k, nI 0, fun i => some (q (19 + 6 * i)))) sz) (kMain y q (fun i => some (q (55 + 6 * i)), kp) ++ kPast y (fun i => q (17 + i)) (nI k, nI 0, fun i => some (q (19 + 6 * i)))) t) (va_A (kMain y q (fun i => some (q (55 + 6 * i)), kp) ++ kPast y (fun i => q (17 + i)) (nI k, nI 0, fun i => some (q (19 + 6 * i)))) sz)) 0 0 (va_A (kMain y q (fun i => some (q (55 + 6 * i)), kp) ++ kPast y (fun i => q (17 + i)) (nI k, nI 0, fun i => some (q (19 + 6 * i)))) sz) := by
  refine kMet (cc := cX6_undo) (maxL := 1) (ret := some .int) (Qc := fun A => va_Qi (fun (r : Int32) (u : Unit) => r = (-2)) (fun (u : Unit) t => PO G A (kMain y q (fun i => some (q (55 + 6 * i)), kp) ++ kPast y (fun i => q (17 + i)) (nI k, nI 0, fun i => some (q (19 + 6 * i)))) t) A) (by decide) rfl (Nat.le_of_ble_eq_true rfl) (fun p e s m below meth c A hsz C hin => ?_)
  refine KW.loc (lv' := [(0, .ref (q 0))]) [0] rfl ?_
  refine kw_aload_n C 0 dX6_undo_0 rfl ?_
  refine kw_get (v := .ref (q 17)) (T := TX6) C 0 3 rfl rfl (by decide) (fun w h => mT (fwX6 w h)) rfl (mT wd_228) rfl dX6_undo_1 ?_
  refine kw_getN (v := .int (nI 0)) (T := TX0) C 3 2 rfl rfl (by decide) (fun w h => mT (fwX0 w h)) rfl (List.mem_of_getElem? (i := 17) rfl) rfl dX6_undo_4 ?_
  refine kw_if_ne_N (tgt := 13) C (by omega) dX6_undo_7 (by decide) (fun c_7 => ?_) (fun c_7 => ?_)
  ·
    omega
  ·
    refine kw_bipush (v := (-2)) C dX6_undo_10 (by decide) ?_
    refine kR_i C () dX6_undo_12 ?_ rfl
    first | rfl | trivial | (simp; done) | omega

set_option maxHeartbeats 4000000 in
set_option maxRecDepth 100000 in
theorem c_X6_undo_ok (l : Launch) (G : va_G) (y : Nat → ClassId) (t : Nat) (q : Nat → Nat) (kp : Nat → Int32) (k : Nat) (mm : Nat) (wp : Nat → TWork) (wn : TWork) (hmm : mm ≤ 5) (hk : k < 6) (sz : Nat) : Met l yX6_undo (Cond.code yX6_undo cX6_undo 1 (some .int) :: TG) ({ frames := 3, cells := 0, slots := 0, locals := 68 }) (va_Pc [.ref (q 0)] (PR G y t (kMain y q (fun i => some (q (55 + 6 * i)), kp) ++ (kPast y (fun i => q (17 + i)) (nI k, nI (mm + 1), fun i => some (q (19 + 6 * i))) ++ (kWork y (fun i => q (19 + i)) (wp 0) ++ (kWork y (fun i => q (25 + i)) (wp 1) ++ (kWork y (fun i => q (31 + i)) (wp 2) ++ (kWork y (fun i => q (37 + i)) (wp 3) ++ (kWork y (fun i => q (43 + i)) (wp 4) ++ (kWork y (fun i => q (49 + i)) (wp 5) ++ kWork y (fun i => q (3 + i)) wn)))))))) sz)) (va_Qi (fun (r : Int32) (u : Unit) => r = (nI mm)) (fun (u : Unit) t => PO G (va_A (kMain y q (fun i => some (q (55 + 6 * i)), kp) ++ (kPast y (fun i => q (17 + i)) (nI k, nI (mm + 1), fun i => some (q (19 + 6 * i))) ++ (kWork y (fun i => q (19 + i)) (wp 0) ++ (kWork y (fun i => q (25 + i)) (wp 1) ++ (kWork y (fun i => q (31 + i)) (wp 2) ++ (kWork y (fun i => q (37 + i)) (wp 3) ++ (kWork y (fun i => q (43 + i)) (wp 4) ++ (kWork y (fun i => q (49 + i)) (wp 5) ++ kWork y (fun i => q (3 + i)) wn)))))))) sz) (kMain y q (fun i => some (q (55 + 6 * i)), kp) ++ (kPast y (fun i => q (17 + i)) (nI ((k + 6 - 1) % 6), nI (mm + 1 - 1), fun i => some (q (19 + 6 * i))) ++ (kWork y (fun i => q (19 + i)) (wp 0) ++ (kWork y (fun i => q (25 + i)) (wp 1) ++ (kWork y (fun i => q (31 + i)) (wp 2) ++ (kWork y (fun i => q (37 + i)) (wp 3) ++ (kWork y (fun i => q (43 + i)) (wp 4) ++ (kWork y (fun i => q (49 + i)) (wp 5) ++ kWork y (fun i => q (3 + i)) (wp ((k + 6 - 1) % 6)))))))))) t) (va_A (kMain y q (fun i => some (q (55 + 6 * i)), kp) ++ (kPast y (fun i => q (17 + i)) (nI k, nI (mm + 1), fun i => some (q (19 + 6 * i))) ++ (kWork y (fun i => q (19 + i)) (wp 0) ++ (kWork y (fun i => q (25 + i)) (wp 1) ++ (kWork y (fun i => q (31 + i)) (wp 2) ++ (kWork y (fun i => q (37 + i)) (wp 3) ++ (kWork y (fun i => q (43 + i)) (wp 4) ++ (kWork y (fun i => q (49 + i)) (wp 5) ++ kWork y (fun i => q (3 + i)) wn)))))))) sz)) 0 0 (va_A (kMain y q (fun i => some (q (55 + 6 * i)), kp) ++ (kPast y (fun i => q (17 + i)) (nI k, nI (mm + 1), fun i => some (q (19 + 6 * i))) ++ (kWork y (fun i => q (19 + i)) (wp 0) ++ (kWork y (fun i => q (25 + i)) (wp 1) ++ (kWork y (fun i => q (31 + i)) (wp 2) ++ (kWork y (fun i => q (37 + i)) (wp 3) ++ (kWork y (fun i => q (43 + i)) (wp 4) ++ (kWork y (fun i => q (49 + i)) (wp 5) ++ kWork y (fun i => q (3 + i)) wn)))))))) sz) := by
  refine kMet (cc := cX6_undo) (maxL := 1) (ret := some .int) (Qc := fun A => va_Qi (fun (r : Int32) (u : Unit) => r = (nI mm)) (fun (u : Unit) t => PO G A (kMain y q (fun i => some (q (55 + 6 * i)), kp) ++ (kPast y (fun i => q (17 + i)) (nI ((k + 6 - 1) % 6), nI (mm + 1 - 1), fun i => some (q (19 + 6 * i))) ++ (kWork y (fun i => q (19 + i)) (wp 0) ++ (kWork y (fun i => q (25 + i)) (wp 1) ++ (kWork y (fun i => q (31 + i)) (wp 2) ++ (kWork y (fun i => q (37 + i)) (wp 3) ++ (kWork y (fun i => q (43 + i)) (wp 4) ++ (kWork y (fun i => q (49 + i)) (wp 5) ++ kWork y (fun i => q (3 + i)) (wp ((k + 6 - 1) % 6)))))))))) t) A) (by decide) rfl (Nat.le_of_ble_eq_true rfl) (fun p e s m below meth c A hsz C hin => ?_)
  refine KW.loc (lv' := [(0, .ref (q 0))]) [0] rfl ?_
  refine kw_aload_n C 0 dX6_undo_0 rfl ?_
  refine kw_get (v := .ref (q 17)) (T := TX6) C 0 3 rfl rfl (by decide) (fun w h => mT (fwX6 w h)) rfl (mT wd_228) rfl dX6_undo_1 ?_
  refine kw_getN (v := .int (nI (mm + 1))) (T := TX0) C 3 2 rfl rfl (by decide) (fun w h => mT (fwX0 w h)) rfl (List.mem_of_getElem? (i := 17) rfl) rfl dX6_undo_4 ?_
  refine kw_if_ne_N (tgt := 13) C (by omega) dX6_undo_7 (by decide) (fun c_7 => ?_) (fun c_7 => ?_)
  ·
    refine kw_aload_n C 0 dX6_undo_13 rfl ?_
    refine kw_get (v := .ref (q 17)) (T := TX6) C 0 3 rfl rfl (by decide) (fun w h => mT (fwX6 w h)) rfl (mT wd_228) rfl dX6_undo_14 ?_
    refine kw_aload_n C 0 dX6_undo_17 rfl ?_
    refine kw_get (v := .ref (q 3)) (T := TX6) C 0 0 rfl rfl (by decide) (fun w h => mT (fwX6 w h)) rfl (mT wd_225) rfl dX6_undo_18 ?_
    refine kV_v (As := [.ref (q 3)]) (rest := []) (ws' := fun (u : Unit) => kMain y q (fun i => some (q (55 + 6 * i)), kp) ++ (kPast y (fun i => q (17 + i)) (nI ((k + 6 - 1) % 6), nI (mm + 1 - 1), fun i => some (q (19 + 6 * i))) ++ (kWork y (fun i => q (19 + i)) (wp 0) ++ (kWork y (fun i => q (25 + i)) (wp 1) ++ (kWork y (fun i => q (31 + i)) (wp 2) ++ (kWork y (fun i => q (37 + i)) (wp 3) ++ (kWork y (fun i => q (43 + i)) (wp 4) ++ (kWork y (fun i => q (49 + i)) (wp 5) ++ kWork y (fun i => q (3 + i)) (wp ((k + 6 - 1) % 6)))))))))) C (c_X0_restore l G y t (fun i => q (17 + i)) (fun i => q (19 + i)) (fun i => q (3 + i)) wp wn mm k (by first | assumption | omega | decide) (by first | assumption | omega | decide)) (cwV 1 C.2.2.2.2.1 (goodV cT wd_463 wd_460 wd_461 wd_462 wd_45) rfl rfl rfl (by decide +kernel) ⟨by decide, by decide⟩) [3, 4, 5, 6, 7, 8, 9, 10, 11, 12, 13, 14, 15, 16, 17, 18, 19, 20, 21, 22, 23, 24, 25, 26, 27, 28, 29, 30, 31, 32, 33, 34, 35, 36, 37, 38, 39, 40, 41, 42, 43, 44, 45, 46] [0, 1, 2] [0, 1, 2, 3, 4, 5, 6, 7, 8, 9, 10, 11, 12, 13, 14, 15, 16, 17, 18, 19, 20, 21, 22, 23, 24, 25, 26, 27, 28, 29, 30, 31, 32, 33, 34, 35, 36, 37, 38, 39, 40, 41, 42, 43, 44, 45, 46] rfl (by decide) rfl (by decide) (by decide) (fun _ => rfl) (by decide) 3 rfl rfl rfl (Nat.le_of_ble_eq_true rfl) ⟨by decide, by decide⟩ dX6_undo_21 (fun u hr_1 => ?_)
    refine kw_aload_n C 0 dX6_undo_24 rfl ?_
    refine kw_get (v := .ref (q 17)) (T := TX6) C 0 3 rfl rfl (by decide) (fun w h => mT (fwX6 w h)) rfl (mT wd_228) rfl dX6_undo_25 ?_
    refine kw_getN (v := .int (nI (mm + 1 - 1))) (T := TX0) C 3 2 rfl rfl (by decide) (fun w h => mT (fwX0 w h)) rfl (List.mem_of_getElem? (i := 17) rfl) rfl dX6_undo_28 ?_
    refine kR_i C () dX6_undo_31 ?_ rfl
    rfl
  ·
    omega

set_option maxHeartbeats 4000000 in
set_option maxRecDepth 100000 in
theorem c_X6_cuts_none (l : Launch) (G : va_G) (y : Nat → ClassId) (t : Nat) (q : Nat → Nat) (kp : Nat → Int32) (W : Nat) (H : Nat) (N : Nat) (D : Nat) (p1 : Int64) (p2 : Int64) (p3 : Int64) (col : Nat → Int32) (od : Nat → Int32) (blk : Nat → Int64) (slp : Nat → Int32) (o : Nat → Nat) (cl : Nat → Nat) (kk : Nat → Nat) (hW : W ≤ 6) (hH : H ≤ 6) (hN : N ≤ 6) (hD : D < 64) (hod : ∀ q, q < N → od q = nI (o q) ∧ o q < N) (hcol : ∀ i, i < N → col i = nI (cl i) ∧ cl i < 8) (hls : lsF (palN p1 p2 p3 (papL W H) 8) (fun set => cbyF D o cl set N) (2 ^ N) = -9) (sz : Nat) : Met l yX6_cuts (Cond.code yX6_cuts cX6_cuts 2 (some .int) :: TG) ({ frames := 4, cells := 0, slots := 0, locals := 94 }) (va_Pc [.ref (q 0)] (PR G y t (kMain y q (fun i => some (q (55 + 6 * i)), kp) ++ kWork y (fun i => q (3 + i)) (nI W, nI H, nI N, nI D, p1, p2, p3, col, od, blk, slp)) sz)) (va_Qi (fun (r : Int32) (u : Unit) => r = (-2)) (fun (u : Unit) t => PO G (va_A (kMain y q (fun i => some (q (55 + 6 * i)), kp) ++ kWork y (fun i => q (3 + i)) (nI W, nI H, nI N, nI D, p1, p2, p3, col, od, blk, slp)) sz) (kMain y q (fun i => some (q (55 + 6 * i)), kp) ++ kWork y (fun i => q (3 + i)) (nI W, nI H, nI N, nI D, p1, p2, p3, col, od, blk, slp)) t) (va_A (kMain y q (fun i => some (q (55 + 6 * i)), kp) ++ kWork y (fun i => q (3 + i)) (nI W, nI H, nI N, nI D, p1, p2, p3, col, od, blk, slp)) sz)) 0 0 (va_A (kMain y q (fun i => some (q (55 + 6 * i)), kp) ++ kWork y (fun i => q (3 + i)) (nI W, nI H, nI N, nI D, p1, p2, p3, col, od, blk, slp)) sz) := by
  refine kMet (cc := cX6_cuts) (maxL := 2) (ret := some .int) (Qc := fun A => va_Qi (fun (r : Int32) (u : Unit) => r = (-2)) (fun (u : Unit) t => PO G A (kMain y q (fun i => some (q (55 + 6 * i)), kp) ++ kWork y (fun i => q (3 + i)) (nI W, nI H, nI N, nI D, p1, p2, p3, col, od, blk, slp)) t) A) (by decide) rfl (Nat.le_of_ble_eq_true rfl) (fun p e s m below meth c A hsz C hin => ?_)
  refine KW.loc (lv' := [(0, .ref (q 0))]) [0] rfl ?_
  refine kw_aload_n C 0 dX6_cuts_0 rfl ?_
  refine kw_get (v := .ref (q 3)) (T := TX6) C 0 0 rfl rfl (by decide) (fun w h => mT (fwX6 w h)) rfl (mT wd_225) rfl dX6_cuts_1 ?_
  refine kV_i (As := []) (rest := []) (ws' := fun (u : Unit) => kMain y q (fun i => some (q (55 + 6 * i)), kp) ++ kWork y (fun i => q (3 + i)) (nI W, nI H, nI N, nI D, p1, p2, p3, col, od, blk, slp)) C (c_X5_leastSet l G y t (fun i => q (3 + i)) W H N D p1 p2 p3 col od blk slp o cl kk (by first | assumption | omega | decide) (by first | assumption | omega | decide) (by first | assumption | omega | decide) (by first | assumption | omega | decide) (by first | assumption | omega | decide) (by first | assumption | omega | decide)) (cwV 0 C.2.2.2.2.1 (goodV cT wd_342 wd_339 wd_340 wd_341 wd_42) rfl rfl rfl (by decide +kernel) ⟨by decide, by decide⟩) [3, 4, 5, 6, 7, 8] [0, 1, 2] [0, 1, 2, 3, 4, 5, 6, 7, 8] rfl (by decide) rfl (by decide) (by decide) (fun _ => rfl) (by decide) 3 rfl rfl rfl (Nat.le_of_ble_eq_true rfl) ⟨by decide, by decide⟩ dX6_cuts_4 (fun r u hr_1 => ?_)
  subst hr_1
  refine kw_top (show (lsF (palN p1 p2 p3 (papL W H) 8) (fun set => cbyF D o cl set N) (2 ^ N)) = (-9) from by exact hls) ?_
  refine kw_istore_n C [(1, .int (-9)), (0, .ref (q 0))] dX6_cuts_7 rfl (by decide) rfl ?_
  refine kw_iload_n C 0 dX6_cuts_8 rfl ?_
  refine kw_bipush (v := (-9)) C dX6_cuts_9 (by decide) ?_
  refine kw_icmp_ne (tgt := 17) C dX6_cuts_11 (by decide) (fun c_11 => ?_) (fun c_11 => ?_)
  ·
    exact absurd rfl c_11
  ·
    refine kw_bipush (v := (-2)) C dX6_cuts_14 (by decide) ?_
    refine kR_i C () dX6_cuts_16 ?_ rfl
    first | rfl | trivial | (simp; done) | omega

set_option maxHeartbeats 4000000 in
set_option maxRecDepth 100000 in
theorem c_X6_cuts_ok (l : Launch) (G : va_G) (y : Nat → ClassId) (t : Nat) (q : Nat → Nat) (kp : Nat → Int32) (W : Nat) (H : Nat) (N : Nat) (D : Nat) (p1 : Int64) (p2 : Int64) (p3 : Int64) (col : Nat → Int32) (od : Nat → Int32) (blk : Nat → Int64) (slp : Nat → Int32) (o : Nat → Nat) (cl : Nat → Nat) (kk : Nat → Nat) (k : Nat) (mm : Nat) (wp : Nat → TWork) (m0 : Nat) (fs : Nat → Nat) (hW : W ≤ 6) (hH : H ≤ 6) (hN : N ≤ 6) (hD : D < 64) (hod : ∀ q, q < N → od q = nI (o q) ∧ o q < N) (hcol : ∀ i, i < N → col i = nI (cl i) ∧ cl i < 8) (hmm : mm ≤ 6) (hk : k < 6) (hls : lsF (palN p1 p2 p3 (papL W H) 8) (fun set => cbyF D o cl set N) (2 ^ N) = nI m0) (hm0 : m0 < 64) (hfs : ∀ c, c < 8 → ¬ ofL p1 p2 p3 c &&& papL W H = 0 → fs c < 2 ^ N ∧ ((nI (fs c) &&& (nI m0 ^^^ (-1))) = 0 ∧ colF D o cl (fs c) N = c) ∧ ∀ z, z < fs c → ¬ ((nI z &&& (nI m0 ^^^ (-1))) = 0 ∧ colF D o cl z N = c)) (sz : Nat) : Met l yX6_cuts (Cond.code yX6_cuts cX6_cuts 2 (some .int) :: TG) ({ frames := 4, cells := 0, slots := 0, locals := 94 }) (va_Pc [.ref (q 0)] (PR G y t (kMain y q (fun i => some (q (55 + 6 * i)), kp) ++ (kWork y (fun i => q (3 + i)) (nI W, nI H, nI N, nI D, p1, p2, p3, col, od, blk, slp) ++ (kPast y (fun i => q (17 + i)) (nI k, nI mm, fun i => some (q (19 + 6 * i))) ++ (kWork y (fun i => q (19 + i)) (wp 0) ++ (kWork y (fun i => q (25 + i)) (wp 1) ++ (kWork y (fun i => q (31 + i)) (wp 2) ++ (kWork y (fun i => q (37 + i)) (wp 3) ++ (kWork y (fun i => q (43 + i)) (wp 4) ++ kWork y (fun i => q (49 + i)) (wp 5))))))))) sz)) (va_Qi (fun (r : Int32) (u : Unit) => r = (pcI (nI m0))) (fun (u : Unit) t => PO G (va_A (kMain y q (fun i => some (q (55 + 6 * i)), kp) ++ (kWork y (fun i => q (3 + i)) (nI W, nI H, nI N, nI D, p1, p2, p3, col, od, blk, slp) ++ (kPast y (fun i => q (17 + i)) (nI k, nI mm, fun i => some (q (19 + 6 * i))) ++ (kWork y (fun i => q (19 + i)) (wp 0) ++ (kWork y (fun i => q (25 + i)) (wp 1) ++ (kWork y (fun i => q (31 + i)) (wp 2) ++ (kWork y (fun i => q (37 + i)) (wp 3) ++ (kWork y (fun i => q (43 + i)) (wp 4) ++ kWork y (fun i => q (49 + i)) (wp 5))))))))) sz) (kMain y q (fun i => some (q (55 + 6 * i)), kp) ++ (kWork y (fun i => q (3 + i)) (nI W, nI H, nI N, nI D, p1, p2, p3, col, od, cutB p1 p2 p3 (papL W H) N fs blk 8, zS slp N) ++ (kPast y (fun i => q (17 + i)) (nI ((k + 1) % 6), nI (min (mm + 1) 6), fun i => some (q (19 + 6 * i))) ++ (kWork y (fun i => q (19 + i)) (va_up wp k (nI W, nI H, nI N, nI D, p1, p2, p3, col, od, blk, slp) 0) ++ (kWork y (fun i => q (25 + i)) (va_up wp k (nI W, nI H, nI N, nI D, p1, p2, p3, col, od, blk, slp) 1) ++ (kWork y (fun i => q (31 + i)) (va_up wp k (nI W, nI H, nI N, nI D, p1, p2, p3, col, od, blk, slp) 2) ++ (kWork y (fun i => q (37 + i)) (va_up wp k (nI W, nI H, nI N, nI D, p1, p2, p3, col, od, blk, slp) 3) ++ (kWork y (fun i => q (43 + i)) (va_up wp k (nI W, nI H, nI N, nI D, p1, p2, p3, col, od, blk, slp) 4) ++ kWork y (fun i => q (49 + i)) (va_up wp k (nI W, nI H, nI N, nI D, p1, p2, p3, col, od, blk, slp) 5))))))))) t) (va_A (kMain y q (fun i => some (q (55 + 6 * i)), kp) ++ (kWork y (fun i => q (3 + i)) (nI W, nI H, nI N, nI D, p1, p2, p3, col, od, blk, slp) ++ (kPast y (fun i => q (17 + i)) (nI k, nI mm, fun i => some (q (19 + 6 * i))) ++ (kWork y (fun i => q (19 + i)) (wp 0) ++ (kWork y (fun i => q (25 + i)) (wp 1) ++ (kWork y (fun i => q (31 + i)) (wp 2) ++ (kWork y (fun i => q (37 + i)) (wp 3) ++ (kWork y (fun i => q (43 + i)) (wp 4) ++ kWork y (fun i => q (49 + i)) (wp 5))))))))) sz)) 0 0 (va_A (kMain y q (fun i => some (q (55 + 6 * i)), kp) ++ (kWork y (fun i => q (3 + i)) (nI W, nI H, nI N, nI D, p1, p2, p3, col, od, blk, slp) ++ (kPast y (fun i => q (17 + i)) (nI k, nI mm, fun i => some (q (19 + 6 * i))) ++ (kWork y (fun i => q (19 + i)) (wp 0) ++ (kWork y (fun i => q (25 + i)) (wp 1) ++ (kWork y (fun i => q (31 + i)) (wp 2) ++ (kWork y (fun i => q (37 + i)) (wp 3) ++ (kWork y (fun i => q (43 + i)) (wp 4) ++ kWork y (fun i => q (49 + i)) (wp 5))))))))) sz) := by
  refine kMet (cc := cX6_cuts) (maxL := 2) (ret := some .int) (Qc := fun A => va_Qi (fun (r : Int32) (u : Unit) => r = (pcI (nI m0))) (fun (u : Unit) t => PO G A (kMain y q (fun i => some (q (55 + 6 * i)), kp) ++ (kWork y (fun i => q (3 + i)) (nI W, nI H, nI N, nI D, p1, p2, p3, col, od, cutB p1 p2 p3 (papL W H) N fs blk 8, zS slp N) ++ (kPast y (fun i => q (17 + i)) (nI ((k + 1) % 6), nI (min (mm + 1) 6), fun i => some (q (19 + 6 * i))) ++ (kWork y (fun i => q (19 + i)) (va_up wp k (nI W, nI H, nI N, nI D, p1, p2, p3, col, od, blk, slp) 0) ++ (kWork y (fun i => q (25 + i)) (va_up wp k (nI W, nI H, nI N, nI D, p1, p2, p3, col, od, blk, slp) 1) ++ (kWork y (fun i => q (31 + i)) (va_up wp k (nI W, nI H, nI N, nI D, p1, p2, p3, col, od, blk, slp) 2) ++ (kWork y (fun i => q (37 + i)) (va_up wp k (nI W, nI H, nI N, nI D, p1, p2, p3, col, od, blk, slp) 3) ++ (kWork y (fun i => q (43 + i)) (va_up wp k (nI W, nI H, nI N, nI D, p1, p2, p3, col, od, blk, slp) 4) ++ kWork y (fun i => q (49 + i)) (va_up wp k (nI W, nI H, nI N, nI D, p1, p2, p3, col, od, blk, slp) 5))))))))) t) A) (by decide) rfl (Nat.le_of_ble_eq_true rfl) (fun p e s m below meth c A hsz C hin => ?_)
  refine KW.loc (lv' := [(0, .ref (q 0))]) [0] rfl ?_
  refine kw_aload_n C 0 dX6_cuts_0 rfl ?_
  refine kw_get (v := .ref (q 3)) (T := TX6) C 0 0 rfl rfl (by decide) (fun w h => mT (fwX6 w h)) rfl (mT wd_225) rfl dX6_cuts_1 ?_
  refine kV_i (As := []) (rest := []) (ws' := fun (u : Unit) => kMain y q (fun i => some (q (55 + 6 * i)), kp) ++ (kWork y (fun i => q (3 + i)) (nI W, nI H, nI N, nI D, p1, p2, p3, col, od, blk, slp) ++ (kPast y (fun i => q (17 + i)) (nI k, nI mm, fun i => some (q (19 + 6 * i))) ++ (kWork y (fun i => q (19 + i)) (wp 0) ++ (kWork y (fun i => q (25 + i)) (wp 1) ++ (kWork y (fun i => q (31 + i)) (wp 2) ++ (kWork y (fun i => q (37 + i)) (wp 3) ++ (kWork y (fun i => q (43 + i)) (wp 4) ++ kWork y (fun i => q (49 + i)) (wp 5))))))))) C (c_X5_leastSet l G y t (fun i => q (3 + i)) W H N D p1 p2 p3 col od blk slp o cl kk (by first | assumption | omega | decide) (by first | assumption | omega | decide) (by first | assumption | omega | decide) (by first | assumption | omega | decide) (by first | assumption | omega | decide) (by first | assumption | omega | decide)) (cwV 0 C.2.2.2.2.1 (goodV cT wd_342 wd_339 wd_340 wd_341 wd_42) rfl rfl rfl (by decide +kernel) ⟨by decide, by decide⟩) [3, 4, 5, 6, 7, 8] [0, 1, 2, 9, 10, 11, 12, 13, 14, 15, 16, 17, 18, 19, 20, 21, 22, 23, 24, 25, 26, 27, 28, 29, 30, 31, 32, 33, 34, 35, 36, 37, 38, 39, 40, 41, 42, 43, 44, 45, 46] [0, 1, 2, 41, 42, 43, 44, 45, 46, 3, 4, 5, 6, 7, 8, 9, 10, 11, 12, 13, 14, 15, 16, 17, 18, 19, 20, 21, 22, 23, 24, 25, 26, 27, 28, 29, 30, 31, 32, 33, 34, 35, 36, 37, 38, 39, 40] rfl (by decide) rfl (by decide) (by decide) (fun _ => rfl) (by decide) 3 rfl rfl rfl (Nat.le_of_ble_eq_true rfl) ⟨by decide, by decide⟩ dX6_cuts_4 (fun r u hr_1 => ?_)
  subst hr_1
  refine kw_top (show (lsF (palN p1 p2 p3 (papL W H) 8) (fun set => cbyF D o cl set N) (2 ^ N)) = (nI m0) from by exact hls) ?_
  refine kw_istore_n C [(1, .int (nI m0)), (0, .ref (q 0))] dX6_cuts_7 rfl (by decide) rfl ?_
  refine kw_iload_n C 0 dX6_cuts_8 rfl ?_
  refine kw_bipush (v := (-9)) C dX6_cuts_9 (by decide) ?_
  refine kw_icmp_ne (tgt := 17) C dX6_cuts_11 (by decide) (fun c_11 => ?_) (fun c_11 => ?_)
  ·
    refine kw_aload_n C 1 dX6_cuts_17 rfl ?_
    refine kw_get (v := .ref (q 17)) (T := TX6) C 0 3 rfl rfl (by decide) (fun w h => mT (fwX6 w h)) rfl (mT wd_228) rfl dX6_cuts_18 ?_
    refine kw_aload_n C 1 dX6_cuts_21 rfl ?_
    refine kw_get (v := .ref (q 3)) (T := TX6) C 0 0 rfl rfl (by decide) (fun w h => mT (fwX6 w h)) rfl (mT wd_225) rfl dX6_cuts_22 ?_
    refine kV_v (As := [.ref (q 3)]) (rest := []) (ws' := fun (u : Unit) => kMain y q (fun i => some (q (55 + 6 * i)), kp) ++ (kWork y (fun i => q (3 + i)) (nI W, nI H, nI N, nI D, p1, p2, p3, col, od, blk, slp) ++ (kPast y (fun i => q (17 + i)) (nI ((k + 1) % 6), nI (min (mm + 1) 6), fun i => some (q (19 + 6 * i))) ++ (kWork y (fun i => q (19 + i)) (va_up wp k (nI W, nI H, nI N, nI D, p1, p2, p3, col, od, blk, slp) 0) ++ (kWork y (fun i => q (25 + i)) (va_up wp k (nI W, nI H, nI N, nI D, p1, p2, p3, col, od, blk, slp) 1) ++ (kWork y (fun i => q (31 + i)) (va_up wp k (nI W, nI H, nI N, nI D, p1, p2, p3, col, od, blk, slp) 2) ++ (kWork y (fun i => q (37 + i)) (va_up wp k (nI W, nI H, nI N, nI D, p1, p2, p3, col, od, blk, slp) 3) ++ (kWork y (fun i => q (43 + i)) (va_up wp k (nI W, nI H, nI N, nI D, p1, p2, p3, col, od, blk, slp) 4) ++ kWork y (fun i => q (49 + i)) (va_up wp k (nI W, nI H, nI N, nI D, p1, p2, p3, col, od, blk, slp) 5))))))))) C (c_X0_remember l G y t (fun i => q (17 + i)) (fun i => q (19 + i)) (fun i => q (3 + i)) wp (nI W, nI H, nI N, nI D, p1, p2, p3, col, od, blk, slp) mm k (by first | assumption | omega | decide) (by first | assumption | omega | decide)) (cwV 1 C.2.2.2.2.1 (goodV cT wd_319 wd_316 wd_317 wd_318 wd_45) rfl rfl rfl (by decide +kernel) ⟨by decide, by decide⟩) [9, 10, 11, 12, 13, 14, 15, 16, 17, 18, 19, 20, 21, 22, 23, 24, 25, 26, 27, 28, 29, 30, 31, 32, 33, 34, 35, 36, 37, 38, 39, 40, 41, 42, 43, 44, 45, 46, 3, 4, 5, 6, 7, 8] [0, 1, 2] [0, 1, 2, 41, 42, 43, 44, 45, 46, 3, 4, 5, 6, 7, 8, 9, 10, 11, 12, 13, 14, 15, 16, 17, 18, 19, 20, 21, 22, 23, 24, 25, 26, 27, 28, 29, 30, 31, 32, 33, 34, 35, 36, 37, 38, 39, 40] rfl (by decide) rfl (by decide) (by decide) (fun _ => rfl) (by decide) 9 rfl rfl rfl (Nat.le_of_ble_eq_true rfl) ⟨by decide, by decide⟩ dX6_cuts_25 (fun u hr_2 => ?_)
    refine kw_aload_n C 1 dX6_cuts_28 rfl ?_
    refine kw_get (v := .ref (q 3)) (T := TX6) C 0 0 rfl rfl (by decide) (fun w h => mT (fwX6 w h)) rfl (mT wd_225) rfl dX6_cuts_29 ?_
    refine kw_iload_n C 0 dX6_cuts_32 rfl ?_
    refine kV_v (As := [.int (nI m0)]) (rest := []) (ws' := fun (u : Unit) => kMain y q (fun i => some (q (55 + 6 * i)), kp) ++ (kWork y (fun i => q (3 + i)) (nI W, nI H, nI N, nI D, p1, p2, p3, col, od, cutB p1 p2 p3 (papL W H) N fs blk 8, zS slp N) ++ (kPast y (fun i => q (17 + i)) (nI ((k + 1) % 6), nI (min (mm + 1) 6), fun i => some (q (19 + 6 * i))) ++ (kWork y (fun i => q (19 + i)) (va_up wp k (nI W, nI H, nI N, nI D, p1, p2, p3, col, od, blk, slp) 0) ++ (kWork y (fun i => q (25 + i)) (va_up wp k (nI W, nI H, nI N, nI D, p1, p2, p3, col, od, blk, slp) 1) ++ (kWork y (fun i => q (31 + i)) (va_up wp k (nI W, nI H, nI N, nI D, p1, p2, p3, col, od, blk, slp) 2) ++ (kWork y (fun i => q (37 + i)) (va_up wp k (nI W, nI H, nI N, nI D, p1, p2, p3, col, od, blk, slp) 3) ++ (kWork y (fun i => q (43 + i)) (va_up wp k (nI W, nI H, nI N, nI D, p1, p2, p3, col, od, blk, slp) 4) ++ kWork y (fun i => q (49 + i)) (va_up wp k (nI W, nI H, nI N, nI D, p1, p2, p3, col, od, blk, slp) 5))))))))) C (c_X5_cutFor l G y t (fun i => q (3 + i)) W H N D p1 p2 p3 col od blk slp o cl kk m0 fs (by first | assumption | omega | decide) (by first | assumption | omega | decide) (by first | assumption | omega | decide) (by first | assumption | omega | decide) (by first | assumption | omega | decide) (by first | assumption | omega | decide) (by first | assumption | omega | decide)) (cwV 1 C.2.2.2.2.1 (goodV cT wd_382 wd_379 wd_380 wd_381 wd_42) rfl rfl rfl (by decide +kernel) ⟨by decide, by decide⟩) [3, 4, 5, 6, 7, 8] [0, 1, 2, 9, 10, 11, 12, 13, 14, 15, 16, 17, 18, 19, 20, 21, 22, 23, 24, 25, 26, 27, 28, 29, 30, 31, 32, 33, 34, 35, 36, 37, 38, 39, 40, 41, 42, 43, 44, 45, 46] [0, 1, 2, 41, 42, 43, 44, 45, 46, 3, 4, 5, 6, 7, 8, 9, 10, 11, 12, 13, 14, 15, 16, 17, 18, 19, 20, 21, 22, 23, 24, 25, 26, 27, 28, 29, 30, 31, 32, 33, 34, 35, 36, 37, 38, 39, 40] rfl (by decide) rfl (by decide) (by decide) (fun _ => rfl) (by decide) 3 rfl rfl rfl (Nat.le_of_ble_eq_true rfl) ⟨by decide, by decide⟩ dX6_cuts_33 (fun u hr_3 => ?_)
    refine kw_iload_n C 0 dX6_cuts_36 rfl ?_
    refine kS_i (As := [.int (nI m0)]) (rest := []) (ws' := fun (u : Unit) => kMain y q (fun i => some (q (55 + 6 * i)), kp) ++ (kWork y (fun i => q (3 + i)) (nI W, nI H, nI N, nI D, p1, p2, p3, col, od, cutB p1 p2 p3 (papL W H) N fs blk 8, zS slp N) ++ (kPast y (fun i => q (17 + i)) (nI ((k + 1) % 6), nI (min (mm + 1) 6), fun i => some (q (19 + 6 * i))) ++ (kWork y (fun i => q (19 + i)) (va_up wp k (nI W, nI H, nI N, nI D, p1, p2, p3, col, od, blk, slp) 0) ++ (kWork y (fun i => q (25 + i)) (va_up wp k (nI W, nI H, nI N, nI D, p1, p2, p3, col, od, blk, slp) 1) ++ (kWork y (fun i => q (31 + i)) (va_up wp k (nI W, nI H, nI N, nI D, p1, p2, p3, col, od, blk, slp) 2) ++ (kWork y (fun i => q (37 + i)) (va_up wp k (nI W, nI H, nI N, nI D, p1, p2, p3, col, od, blk, slp) 3) ++ (kWork y (fun i => q (43 + i)) (va_up wp k (nI W, nI H, nI N, nI D, p1, p2, p3, col, od, blk, slp) 4) ++ kWork y (fun i => q (49 + i)) (va_up wp k (nI W, nI H, nI N, nI D, p1, p2, p3, col, od, blk, slp) 5))))))))) C (c_J6_bitCount_0f7a4 l G y t (nI m0)) (va_cwS 1 C.2.2.2.2.1 (goodS cT wd_361 wd_395 wd_360 wd_51) rfl rfl rfl (by decide +kernel) ⟨by decide, by decide⟩) [] [0, 1, 2, 3, 4, 5, 6, 7, 8, 9, 10, 11, 12, 13, 14, 15, 16, 17, 18, 19, 20, 21, 22, 23, 24, 25, 26, 27, 28, 29, 30, 31, 32, 33, 34, 35, 36, 37, 38, 39, 40, 41, 42, 43, 44, 45, 46] [0, 1, 2, 3, 4, 5, 6, 7, 8, 9, 10, 11, 12, 13, 14, 15, 16, 17, 18, 19, 20, 21, 22, 23, 24, 25, 26, 27, 28, 29, 30, 31, 32, 33, 34, 35, 36, 37, 38, 39, 40, 41, 42, 43, 44, 45, 46] rfl (by decide) rfl (by decide) (by decide) (fun _ => rfl) (by decide) rfl (Nat.le_of_ble_eq_true rfl) ⟨by decide, by decide⟩ dX6_cuts_37 (fun r u hr_4 => ?_)
    subst hr_4
    refine kR_i C () dX6_cuts_40 ?_ rfl
    first | rfl | trivial | (simp; done) | omega
  ·
    exact absurd c_11 (nI_ne9 (by omega))

set_option maxHeartbeats 4000000 in
set_option maxRecDepth 100000 in
theorem c_X6_carves_bad (l : Launch) (G : va_G) (y : Nat → ClassId) (t : Nat) (q : Nat → Nat) (kp : Nat → Int32) (W : Nat) (H : Nat) (N : Nat) (D : Nat) (p1 : Int64) (p2 : Int64) (p3 : Int64) (col : Nat → Int32) (od : Nat → Int32) (blk : Nat → Int64) (slp : Nat → Int32) (i : Int32) (x : Int32) (z : Int32) (hW : W ≤ 6) (hH : H ≤ 6) (hN : N ≤ 6) (hb : ¬ (inR i N ∧ inR x W ∧ inR z H)) (sz : Nat) : Met l yX6_carves (Cond.code yX6_carves cX6_carves 4 (some .int) :: TG) ({ frames := 1, cells := 0, slots := 0, locals := 22 }) (va_Pc [.ref (q 0), .int i, .int x, .int z] (PR G y t (kMain y q (fun i => some (q (55 + 6 * i)), kp) ++ kWork y (fun i => q (3 + i)) (nI W, nI H, nI N, nI D, p1, p2, p3, col, od, blk, slp)) sz)) (va_Qi (fun (r : Int32) (u : Unit) => r = (-1)) (fun (u : Unit) t => PO G (va_A (kMain y q (fun i => some (q (55 + 6 * i)), kp) ++ kWork y (fun i => q (3 + i)) (nI W, nI H, nI N, nI D, p1, p2, p3, col, od, blk, slp)) sz) (kMain y q (fun i => some (q (55 + 6 * i)), kp) ++ kWork y (fun i => q (3 + i)) (nI W, nI H, nI N, nI D, p1, p2, p3, col, od, blk, slp)) t) (va_A (kMain y q (fun i => some (q (55 + 6 * i)), kp) ++ kWork y (fun i => q (3 + i)) (nI W, nI H, nI N, nI D, p1, p2, p3, col, od, blk, slp)) sz)) 0 0 (va_A (kMain y q (fun i => some (q (55 + 6 * i)), kp) ++ kWork y (fun i => q (3 + i)) (nI W, nI H, nI N, nI D, p1, p2, p3, col, od, blk, slp)) sz) := by
  refine kMet (cc := cX6_carves) (maxL := 4) (ret := some .int) (Qc := fun A => va_Qi (fun (r : Int32) (u : Unit) => r = (-1)) (fun (u : Unit) t => PO G A (kMain y q (fun i => some (q (55 + 6 * i)), kp) ++ kWork y (fun i => q (3 + i)) (nI W, nI H, nI N, nI D, p1, p2, p3, col, od, blk, slp)) t) A) (by decide) rfl (Nat.le_of_ble_eq_true rfl) (fun p e s m below meth c A hsz C hin => ?_)
  refine KW.loc (lv' := [(0, .ref (q 0)), (1, .int i), (2, .int x), (3, .int z)]) [0, 1, 2, 3] rfl ?_
  refine kw_aload_n C 0 dX6_carves_0 rfl ?_
  refine kw_get (v := .ref (q 3)) (T := TX6) C 0 0 rfl rfl (by decide) (fun w h => mT (fwX6 w h)) rfl (mT wd_225) rfl dX6_carves_1 ?_
  refine kw_iload_n C 1 dX6_carves_4 rfl ?_
  refine kV_i (As := [.int i]) (rest := []) (ws' := fun (u : Unit) => kMain y q (fun i => some (q (55 + 6 * i)), kp) ++ kWork y (fun i => q (3 + i)) (nI W, nI H, nI N, nI D, p1, p2, p3, col, od, blk, slp)) C (c_X5_hasInk l G y t (fun i => q (3 + i)) W H N D p1 p2 p3 col od blk slp i (by first | assumption | omega | decide)) (cwV 1 C.2.2.2.2.1 (goodV cT wd_403 wd_400 wd_401 wd_402 wd_42) rfl rfl rfl (by decide +kernel) ⟨by decide, by decide⟩) [3, 4, 5, 6, 7, 8] [0, 1, 2] [0, 1, 2, 3, 4, 5, 6, 7, 8] rfl (by decide) rfl (by decide) (by decide) (fun _ => rfl) (by decide) 3 rfl rfl rfl (Nat.le_of_ble_eq_true rfl) ⟨by decide, by decide⟩ dX6_carves_5 (fun r u hr_1 => ?_)
  subst hr_1
  refine kw_if_eq_D (tgt := 23) C dX6_carves_8 (by decide) (fun c_8 => ?_) (fun c_8 => ?_)
  ·
    refine kw_iconst (v := (-1)) C dX6_carves_23 (by decide) ?_
    refine kR_i C () dX6_carves_24 ?_ rfl
    first | rfl | trivial | (simp; done) | omega
  ·
    refine kw_aload_n C 0 dX6_carves_11 rfl ?_
    refine kw_get (v := .ref (q 3)) (T := TX6) C 0 0 rfl rfl (by decide) (fun w h => mT (fwX6 w h)) rfl (mT wd_225) rfl dX6_carves_12 ?_
    refine kw_iload_n C 2 dX6_carves_15 rfl ?_
    refine kw_iload_n C 3 dX6_carves_16 rfl ?_
    refine kV_i (As := [.int x, .int z]) (rest := []) (ws' := fun (u : Unit) => kMain y q (fun i => some (q (55 + 6 * i)), kp) ++ kWork y (fun i => q (3 + i)) (nI W, nI H, nI N, nI D, p1, p2, p3, col, od, blk, slp)) C (c_X5_hasCell l G y t (fun i => q (3 + i)) W H N D p1 p2 p3 col od blk slp x z (by first | assumption | omega | decide) (by first | assumption | omega | decide)) (cwV 2 C.2.2.2.2.1 (goodV cT wd_407 wd_404 wd_405 wd_406 wd_42) rfl rfl rfl (by decide +kernel) ⟨by decide, by decide⟩) [3, 4, 5, 6, 7, 8] [0, 1, 2] [0, 1, 2, 3, 4, 5, 6, 7, 8] rfl (by decide) rfl (by decide) (by decide) (fun _ => rfl) (by decide) 3 rfl rfl rfl (Nat.le_of_ble_eq_true rfl) ⟨by decide, by decide⟩ dX6_carves_17 (fun r u hr_2 => ?_)
    subst hr_2
    refine kw_if_ne_D (tgt := 25) C dX6_carves_20 (by decide) (fun c_20 => ?_) (fun c_20 => ?_)
    ·
      exact absurd ⟨c_8, c_20.1, c_20.2⟩ hb
    ·
      refine kw_iconst (v := (-1)) C dX6_carves_23 (by decide) ?_
      refine kR_i C () dX6_carves_24 ?_ rfl
      first | rfl | trivial | (simp; done) | omega

set_option maxHeartbeats 4000000 in
set_option maxRecDepth 100000 in
theorem c_X6_carves_ok (l : Launch) (G : va_G) (y : Nat → ClassId) (t : Nat) (q : Nat → Nat) (kp : Nat → Int32) (W : Nat) (H : Nat) (N : Nat) (D : Nat) (p1 : Int64) (p2 : Int64) (p3 : Int64) (col : Nat → Int32) (od : Nat → Int32) (blk : Nat → Int64) (slp : Nat → Int32) (k : Nat) (mm : Nat) (wp : Nat → TWork) (ii : Nat) (xx : Nat) (zz : Nat) (hW : W ≤ 6) (hH : H ≤ 6) (hN : N ≤ 6) (hmm : mm ≤ 6) (hk : k < 6) (hii : ii < N) (hxx : xx < W) (hzz : zz < H) (sz : Nat) : Met l yX6_carves (Cond.code yX6_carves cX6_carves 4 (some .int) :: TG) ({ frames := 3, cells := 0, slots := 0, locals := 68 }) (va_Pc [.ref (q 0), .int (nI ii), .int (nI xx), .int (nI zz)] (PR G y t (kMain y q (fun i => some (q (55 + 6 * i)), kp) ++ (kWork y (fun i => q (3 + i)) (nI W, nI H, nI N, nI D, p1, p2, p3, col, od, blk, slp) ++ (kPast y (fun i => q (17 + i)) (nI k, nI mm, fun i => some (q (19 + 6 * i))) ++ (kWork y (fun i => q (19 + i)) (wp 0) ++ (kWork y (fun i => q (25 + i)) (wp 1) ++ (kWork y (fun i => q (31 + i)) (wp 2) ++ (kWork y (fun i => q (37 + i)) (wp 3) ++ (kWork y (fun i => q (43 + i)) (wp 4) ++ kWork y (fun i => q (49 + i)) (wp 5))))))))) sz)) (va_Qi (fun (r : Int32) (u : Unit) => r = (nI (if tl (blk ii ^^^ cbL (8 * zz + xx)) (8 * zz + xx) then 1 else 0))) (fun (u : Unit) t => PO G (va_A (kMain y q (fun i => some (q (55 + 6 * i)), kp) ++ (kWork y (fun i => q (3 + i)) (nI W, nI H, nI N, nI D, p1, p2, p3, col, od, blk, slp) ++ (kPast y (fun i => q (17 + i)) (nI k, nI mm, fun i => some (q (19 + 6 * i))) ++ (kWork y (fun i => q (19 + i)) (wp 0) ++ (kWork y (fun i => q (25 + i)) (wp 1) ++ (kWork y (fun i => q (31 + i)) (wp 2) ++ (kWork y (fun i => q (37 + i)) (wp 3) ++ (kWork y (fun i => q (43 + i)) (wp 4) ++ kWork y (fun i => q (49 + i)) (wp 5))))))))) sz) (kMain y q (fun i => some (q (55 + 6 * i)), kp) ++ (kWork y (fun i => q (3 + i)) (nI W, nI H, nI N, nI D, p1, p2, p3, col, od, vp_updL blk ii (blk ii ^^^ cbL (8 * zz + xx)), slp) ++ (kPast y (fun i => q (17 + i)) (nI ((k + 1) % 6), nI (min (mm + 1) 6), fun i => some (q (19 + 6 * i))) ++ (kWork y (fun i => q (19 + i)) (va_up wp k (nI W, nI H, nI N, nI D, p1, p2, p3, col, od, blk, slp) 0) ++ (kWork y (fun i => q (25 + i)) (va_up wp k (nI W, nI H, nI N, nI D, p1, p2, p3, col, od, blk, slp) 1) ++ (kWork y (fun i => q (31 + i)) (va_up wp k (nI W, nI H, nI N, nI D, p1, p2, p3, col, od, blk, slp) 2) ++ (kWork y (fun i => q (37 + i)) (va_up wp k (nI W, nI H, nI N, nI D, p1, p2, p3, col, od, blk, slp) 3) ++ (kWork y (fun i => q (43 + i)) (va_up wp k (nI W, nI H, nI N, nI D, p1, p2, p3, col, od, blk, slp) 4) ++ kWork y (fun i => q (49 + i)) (va_up wp k (nI W, nI H, nI N, nI D, p1, p2, p3, col, od, blk, slp) 5))))))))) t) (va_A (kMain y q (fun i => some (q (55 + 6 * i)), kp) ++ (kWork y (fun i => q (3 + i)) (nI W, nI H, nI N, nI D, p1, p2, p3, col, od, blk, slp) ++ (kPast y (fun i => q (17 + i)) (nI k, nI mm, fun i => some (q (19 + 6 * i))) ++ (kWork y (fun i => q (19 + i)) (wp 0) ++ (kWork y (fun i => q (25 + i)) (wp 1) ++ (kWork y (fun i => q (31 + i)) (wp 2) ++ (kWork y (fun i => q (37 + i)) (wp 3) ++ (kWork y (fun i => q (43 + i)) (wp 4) ++ kWork y (fun i => q (49 + i)) (wp 5))))))))) sz)) 0 0 (va_A (kMain y q (fun i => some (q (55 + 6 * i)), kp) ++ (kWork y (fun i => q (3 + i)) (nI W, nI H, nI N, nI D, p1, p2, p3, col, od, blk, slp) ++ (kPast y (fun i => q (17 + i)) (nI k, nI mm, fun i => some (q (19 + 6 * i))) ++ (kWork y (fun i => q (19 + i)) (wp 0) ++ (kWork y (fun i => q (25 + i)) (wp 1) ++ (kWork y (fun i => q (31 + i)) (wp 2) ++ (kWork y (fun i => q (37 + i)) (wp 3) ++ (kWork y (fun i => q (43 + i)) (wp 4) ++ kWork y (fun i => q (49 + i)) (wp 5))))))))) sz) := by
  refine kMet (cc := cX6_carves) (maxL := 4) (ret := some .int) (Qc := fun A => va_Qi (fun (r : Int32) (u : Unit) => r = (nI (if tl (blk ii ^^^ cbL (8 * zz + xx)) (8 * zz + xx) then 1 else 0))) (fun (u : Unit) t => PO G A (kMain y q (fun i => some (q (55 + 6 * i)), kp) ++ (kWork y (fun i => q (3 + i)) (nI W, nI H, nI N, nI D, p1, p2, p3, col, od, vp_updL blk ii (blk ii ^^^ cbL (8 * zz + xx)), slp) ++ (kPast y (fun i => q (17 + i)) (nI ((k + 1) % 6), nI (min (mm + 1) 6), fun i => some (q (19 + 6 * i))) ++ (kWork y (fun i => q (19 + i)) (va_up wp k (nI W, nI H, nI N, nI D, p1, p2, p3, col, od, blk, slp) 0) ++ (kWork y (fun i => q (25 + i)) (va_up wp k (nI W, nI H, nI N, nI D, p1, p2, p3, col, od, blk, slp) 1) ++ (kWork y (fun i => q (31 + i)) (va_up wp k (nI W, nI H, nI N, nI D, p1, p2, p3, col, od, blk, slp) 2) ++ (kWork y (fun i => q (37 + i)) (va_up wp k (nI W, nI H, nI N, nI D, p1, p2, p3, col, od, blk, slp) 3) ++ (kWork y (fun i => q (43 + i)) (va_up wp k (nI W, nI H, nI N, nI D, p1, p2, p3, col, od, blk, slp) 4) ++ kWork y (fun i => q (49 + i)) (va_up wp k (nI W, nI H, nI N, nI D, p1, p2, p3, col, od, blk, slp) 5))))))))) t) A) (by decide) rfl (Nat.le_of_ble_eq_true rfl) (fun p e s m below meth c A hsz C hin => ?_)
  refine KW.loc (lv' := [(0, .ref (q 0)), (1, .int (nI ii)), (2, .int (nI xx)), (3, .int (nI zz))]) [0, 1, 2, 3] rfl ?_
  refine kw_aload_n C 0 dX6_carves_0 rfl ?_
  refine kw_get (v := .ref (q 3)) (T := TX6) C 0 0 rfl rfl (by decide) (fun w h => mT (fwX6 w h)) rfl (mT wd_225) rfl dX6_carves_1 ?_
  refine kw_iload_n C 1 dX6_carves_4 rfl ?_
  refine kV_i (As := [.int (nI ii)]) (rest := []) (ws' := fun (u : Unit) => kMain y q (fun i => some (q (55 + 6 * i)), kp) ++ (kWork y (fun i => q (3 + i)) (nI W, nI H, nI N, nI D, p1, p2, p3, col, od, blk, slp) ++ (kPast y (fun i => q (17 + i)) (nI k, nI mm, fun i => some (q (19 + 6 * i))) ++ (kWork y (fun i => q (19 + i)) (wp 0) ++ (kWork y (fun i => q (25 + i)) (wp 1) ++ (kWork y (fun i => q (31 + i)) (wp 2) ++ (kWork y (fun i => q (37 + i)) (wp 3) ++ (kWork y (fun i => q (43 + i)) (wp 4) ++ kWork y (fun i => q (49 + i)) (wp 5))))))))) C (c_X5_hasInk l G y t (fun i => q (3 + i)) W H N D p1 p2 p3 col od blk slp (nI ii) (by first | assumption | omega | decide)) (cwV 1 C.2.2.2.2.1 (goodV cT wd_403 wd_400 wd_401 wd_402 wd_42) rfl rfl rfl (by decide +kernel) ⟨by decide, by decide⟩) [3, 4, 5, 6, 7, 8] [0, 1, 2, 9, 10, 11, 12, 13, 14, 15, 16, 17, 18, 19, 20, 21, 22, 23, 24, 25, 26, 27, 28, 29, 30, 31, 32, 33, 34, 35, 36, 37, 38, 39, 40, 41, 42, 43, 44, 45, 46] [0, 1, 2, 41, 42, 43, 44, 45, 46, 3, 4, 5, 6, 7, 8, 9, 10, 11, 12, 13, 14, 15, 16, 17, 18, 19, 20, 21, 22, 23, 24, 25, 26, 27, 28, 29, 30, 31, 32, 33, 34, 35, 36, 37, 38, 39, 40] rfl (by decide) rfl (by decide) (by decide) (fun _ => rfl) (by decide) 3 rfl rfl rfl (Nat.le_of_ble_eq_true rfl) ⟨by decide, by decide⟩ dX6_carves_5 (fun r u hr_1 => ?_)
  subst hr_1
  refine kw_if_eq_D (tgt := 23) C dX6_carves_8 (by decide) (fun c_8 => ?_) (fun c_8 => ?_)
  ·
    exact absurd (inR_of hii (by omega)) c_8
  ·
    refine kw_aload_n C 0 dX6_carves_11 rfl ?_
    refine kw_get (v := .ref (q 3)) (T := TX6) C 0 0 rfl rfl (by decide) (fun w h => mT (fwX6 w h)) rfl (mT wd_225) rfl dX6_carves_12 ?_
    refine kw_iload_n C 2 dX6_carves_15 rfl ?_
    refine kw_iload_n C 3 dX6_carves_16 rfl ?_
    refine kV_i (As := [.int (nI xx), .int (nI zz)]) (rest := []) (ws' := fun (u : Unit) => kMain y q (fun i => some (q (55 + 6 * i)), kp) ++ (kWork y (fun i => q (3 + i)) (nI W, nI H, nI N, nI D, p1, p2, p3, col, od, blk, slp) ++ (kPast y (fun i => q (17 + i)) (nI k, nI mm, fun i => some (q (19 + 6 * i))) ++ (kWork y (fun i => q (19 + i)) (wp 0) ++ (kWork y (fun i => q (25 + i)) (wp 1) ++ (kWork y (fun i => q (31 + i)) (wp 2) ++ (kWork y (fun i => q (37 + i)) (wp 3) ++ (kWork y (fun i => q (43 + i)) (wp 4) ++ kWork y (fun i => q (49 + i)) (wp 5))))))))) C (c_X5_hasCell l G y t (fun i => q (3 + i)) W H N D p1 p2 p3 col od blk slp (nI xx) (nI zz) (by first | assumption | omega | decide) (by first | assumption | omega | decide)) (cwV 2 C.2.2.2.2.1 (goodV cT wd_407 wd_404 wd_405 wd_406 wd_42) rfl rfl rfl (by decide +kernel) ⟨by decide, by decide⟩) [3, 4, 5, 6, 7, 8] [0, 1, 2, 9, 10, 11, 12, 13, 14, 15, 16, 17, 18, 19, 20, 21, 22, 23, 24, 25, 26, 27, 28, 29, 30, 31, 32, 33, 34, 35, 36, 37, 38, 39, 40, 41, 42, 43, 44, 45, 46] [0, 1, 2, 41, 42, 43, 44, 45, 46, 3, 4, 5, 6, 7, 8, 9, 10, 11, 12, 13, 14, 15, 16, 17, 18, 19, 20, 21, 22, 23, 24, 25, 26, 27, 28, 29, 30, 31, 32, 33, 34, 35, 36, 37, 38, 39, 40] rfl (by decide) rfl (by decide) (by decide) (fun _ => rfl) (by decide) 3 rfl rfl rfl (Nat.le_of_ble_eq_true rfl) ⟨by decide, by decide⟩ dX6_carves_17 (fun r u hr_2 => ?_)
    subst hr_2
    refine kw_if_ne_D (tgt := 25) C dX6_carves_20 (by decide) (fun c_20 => ?_) (fun c_20 => ?_)
    ·
      refine kw_aload_n C 0 dX6_carves_25 rfl ?_
      refine kw_get (v := .ref (q 17)) (T := TX6) C 0 3 rfl rfl (by decide) (fun w h => mT (fwX6 w h)) rfl (mT wd_228) rfl dX6_carves_26 ?_
      refine kw_aload_n C 0 dX6_carves_29 rfl ?_
      refine kw_get (v := .ref (q 3)) (T := TX6) C 0 0 rfl rfl (by decide) (fun w h => mT (fwX6 w h)) rfl (mT wd_225) rfl dX6_carves_30 ?_
      refine kV_v (As := [.ref (q 3)]) (rest := []) (ws' := fun (u : Unit) => kMain y q (fun i => some (q (55 + 6 * i)), kp) ++ (kWork y (fun i => q (3 + i)) (nI W, nI H, nI N, nI D, p1, p2, p3, col, od, blk, slp) ++ (kPast y (fun i => q (17 + i)) (nI ((k + 1) % 6), nI (min (mm + 1) 6), fun i => some (q (19 + 6 * i))) ++ (kWork y (fun i => q (19 + i)) (va_up wp k (nI W, nI H, nI N, nI D, p1, p2, p3, col, od, blk, slp) 0) ++ (kWork y (fun i => q (25 + i)) (va_up wp k (nI W, nI H, nI N, nI D, p1, p2, p3, col, od, blk, slp) 1) ++ (kWork y (fun i => q (31 + i)) (va_up wp k (nI W, nI H, nI N, nI D, p1, p2, p3, col, od, blk, slp) 2) ++ (kWork y (fun i => q (37 + i)) (va_up wp k (nI W, nI H, nI N, nI D, p1, p2, p3, col, od, blk, slp) 3) ++ (kWork y (fun i => q (43 + i)) (va_up wp k (nI W, nI H, nI N, nI D, p1, p2, p3, col, od, blk, slp) 4) ++ kWork y (fun i => q (49 + i)) (va_up wp k (nI W, nI H, nI N, nI D, p1, p2, p3, col, od, blk, slp) 5))))))))) C (c_X0_remember l G y t (fun i => q (17 + i)) (fun i => q (19 + i)) (fun i => q (3 + i)) wp (nI W, nI H, nI N, nI D, p1, p2, p3, col, od, blk, slp) mm k (by first | assumption | omega | decide) (by first | assumption | omega | decide)) (cwV 1 C.2.2.2.2.1 (goodV cT wd_319 wd_316 wd_317 wd_318 wd_45) rfl rfl rfl (by decide +kernel) ⟨by decide, by decide⟩) [9, 10, 11, 12, 13, 14, 15, 16, 17, 18, 19, 20, 21, 22, 23, 24, 25, 26, 27, 28, 29, 30, 31, 32, 33, 34, 35, 36, 37, 38, 39, 40, 41, 42, 43, 44, 45, 46, 3, 4, 5, 6, 7, 8] [0, 1, 2] [0, 1, 2, 41, 42, 43, 44, 45, 46, 3, 4, 5, 6, 7, 8, 9, 10, 11, 12, 13, 14, 15, 16, 17, 18, 19, 20, 21, 22, 23, 24, 25, 26, 27, 28, 29, 30, 31, 32, 33, 34, 35, 36, 37, 38, 39, 40] rfl (by decide) rfl (by decide) (by decide) (fun _ => rfl) (by decide) 9 rfl rfl rfl (Nat.le_of_ble_eq_true rfl) ⟨by decide, by decide⟩ dX6_carves_33 (fun u hr_3 => ?_)
      refine kw_aload_n C 0 dX6_carves_36 rfl ?_
      refine kw_get (v := .ref (q 3)) (T := TX6) C 0 0 rfl rfl (by decide) (fun w h => mT (fwX6 w h)) rfl (mT wd_225) rfl dX6_carves_37 ?_
      refine kw_getN (v := .ref (q 7)) (T := TX5) C 3 7 rfl rfl (by decide) (fun w h => mT (fwX5 w h)) rfl (List.mem_of_getElem? (i := 13) rfl) rfl dX6_carves_40 ?_
      refine kw_iload_n C 1 dX6_carves_43 rfl ?_
      refine kw_dup2_11 C dX6_carves_44 rfl rfl ?_
      refine kw_lald (f := blk) C 7 rfl (by omega) (by decide) dX6_carves_45 ?_
      refine kw_iload_n C 2 dX6_carves_46 rfl ?_
      refine kw_iload_n C 3 dX6_carves_47 rfl ?_
      refine kS_l (As := [.int (nI xx), .int (nI zz)]) (rest := [.long (blk ii), .int (nI ii), .ref (q 7)]) (ws' := fun (u : Unit) => kMain y q (fun i => some (q (55 + 6 * i)), kp) ++ (kWork y (fun i => q (3 + i)) (nI W, nI H, nI N, nI D, p1, p2, p3, col, od, blk, slp) ++ (kPast y (fun i => q (17 + i)) (nI ((k + 1) % 6), nI (min (mm + 1) 6), fun i => some (q (19 + 6 * i))) ++ (kWork y (fun i => q (19 + i)) (va_up wp k (nI W, nI H, nI N, nI D, p1, p2, p3, col, od, blk, slp) 0) ++ (kWork y (fun i => q (25 + i)) (va_up wp k (nI W, nI H, nI N, nI D, p1, p2, p3, col, od, blk, slp) 1) ++ (kWork y (fun i => q (31 + i)) (va_up wp k (nI W, nI H, nI N, nI D, p1, p2, p3, col, od, blk, slp) 2) ++ (kWork y (fun i => q (37 + i)) (va_up wp k (nI W, nI H, nI N, nI D, p1, p2, p3, col, od, blk, slp) 3) ++ (kWork y (fun i => q (43 + i)) (va_up wp k (nI W, nI H, nI N, nI D, p1, p2, p3, col, od, blk, slp) 4) ++ kWork y (fun i => q (49 + i)) (va_up wp k (nI W, nI H, nI N, nI D, p1, p2, p3, col, od, blk, slp) 5))))))))) C (c_X6_cellBit l G y t xx zz) (va_cwS 2 C.2.2.2.2.1 (goodS cT wd_295 wd_408 wd_294 wd_41) rfl rfl rfl (by decide +kernel) ⟨by decide, by decide⟩) [] [0, 1, 2, 3, 4, 5, 6, 7, 8, 9, 10, 11, 12, 13, 14, 15, 16, 17, 18, 19, 20, 21, 22, 23, 24, 25, 26, 27, 28, 29, 30, 31, 32, 33, 34, 35, 36, 37, 38, 39, 40, 41, 42, 43, 44, 45, 46] [0, 1, 2, 3, 4, 5, 6, 7, 8, 9, 10, 11, 12, 13, 14, 15, 16, 17, 18, 19, 20, 21, 22, 23, 24, 25, 26, 27, 28, 29, 30, 31, 32, 33, 34, 35, 36, 37, 38, 39, 40, 41, 42, 43, 44, 45, 46] rfl (by decide) rfl (by decide) (by decide) (fun _ => rfl) (by decide) rfl (Nat.le_of_ble_eq_true rfl) ⟨by decide, by decide⟩ dX6_carves_48 (fun r u hr_4 => ?_)
      subst hr_4
      refine kw_lxor C dX6_carves_51 ?_
      refine kw_last C 7 (kMain y q (fun i => some (q (55 + 6 * i)), kp) ++ (kWork y (fun i => q (3 + i)) (nI W, nI H, nI N, nI D, p1, p2, p3, col, od, vp_updL blk ii ((blk ii) ^^^ (cbL (8 * zz + xx))), slp) ++ (kPast y (fun i => q (17 + i)) (nI ((k + 1) % 6), nI (min (mm + 1) 6), fun i => some (q (19 + 6 * i))) ++ (kWork y (fun i => q (19 + i)) (va_up wp k (nI W, nI H, nI N, nI D, p1, p2, p3, col, od, blk, slp) 0) ++ (kWork y (fun i => q (25 + i)) (va_up wp k (nI W, nI H, nI N, nI D, p1, p2, p3, col, od, blk, slp) 1) ++ (kWork y (fun i => q (31 + i)) (va_up wp k (nI W, nI H, nI N, nI D, p1, p2, p3, col, od, blk, slp) 2) ++ (kWork y (fun i => q (37 + i)) (va_up wp k (nI W, nI H, nI N, nI D, p1, p2, p3, col, od, blk, slp) 3) ++ (kWork y (fun i => q (43 + i)) (va_up wp k (nI W, nI H, nI N, nI D, p1, p2, p3, col, od, blk, slp) 4) ++ kWork y (fun i => q (49 + i)) (va_up wp k (nI W, nI H, nI N, nI D, p1, p2, p3, col, od, blk, slp) 5))))))))) rfl (by omega) (by decide) dX6_carves_52 rfl ?_
      refine kw_aload_n C 0 dX6_carves_53 rfl ?_
      refine kw_get (v := .ref (q 3)) (T := TX6) C 0 0 rfl rfl (by decide) (fun w h => mT (fwX6 w h)) rfl (mT wd_225) rfl dX6_carves_54 ?_
      refine kw_getN (v := .ref (q 7)) (T := TX5) C 3 7 rfl rfl (by decide) (fun w h => mT (fwX5 w h)) rfl (List.mem_of_getElem? (i := 13) rfl) rfl dX6_carves_57 ?_
      refine kw_iload_n C 1 dX6_carves_60 rfl ?_
      refine kw_lald (f := vp_updL blk ii ((blk ii) ^^^ (cbL (8 * zz + xx)))) C 7 rfl (by omega) (by decide) dX6_carves_61 ?_
      refine kw_topl (show ((vp_updL blk ii ((blk ii) ^^^ (cbL (8 * zz + xx)))) ii) = (blk ii ^^^ cbL (8 * zz + xx)) from by exact pk_uLs) ?_
      refine kw_iload_n C 2 dX6_carves_62 rfl ?_
      refine kw_iload_n C 3 dX6_carves_63 rfl ?_
      refine kS_l (As := [.int (nI xx), .int (nI zz)]) (rest := [.long (blk ii ^^^ cbL (8 * zz + xx))]) (ws' := fun (u : Unit) => kMain y q (fun i => some (q (55 + 6 * i)), kp) ++ (kWork y (fun i => q (3 + i)) (nI W, nI H, nI N, nI D, p1, p2, p3, col, od, vp_updL blk ii ((blk ii) ^^^ (cbL (8 * zz + xx))), slp) ++ (kPast y (fun i => q (17 + i)) (nI ((k + 1) % 6), nI (min (mm + 1) 6), fun i => some (q (19 + 6 * i))) ++ (kWork y (fun i => q (19 + i)) (va_up wp k (nI W, nI H, nI N, nI D, p1, p2, p3, col, od, blk, slp) 0) ++ (kWork y (fun i => q (25 + i)) (va_up wp k (nI W, nI H, nI N, nI D, p1, p2, p3, col, od, blk, slp) 1) ++ (kWork y (fun i => q (31 + i)) (va_up wp k (nI W, nI H, nI N, nI D, p1, p2, p3, col, od, blk, slp) 2) ++ (kWork y (fun i => q (37 + i)) (va_up wp k (nI W, nI H, nI N, nI D, p1, p2, p3, col, od, blk, slp) 3) ++ (kWork y (fun i => q (43 + i)) (va_up wp k (nI W, nI H, nI N, nI D, p1, p2, p3, col, od, blk, slp) 4) ++ kWork y (fun i => q (49 + i)) (va_up wp k (nI W, nI H, nI N, nI D, p1, p2, p3, col, od, blk, slp) 5))))))))) C (c_X6_cellBit l G y t xx zz) (va_cwS 2 C.2.2.2.2.1 (goodS cT wd_295 wd_408 wd_294 wd_41) rfl rfl rfl (by decide +kernel) ⟨by decide, by decide⟩) [] [0, 1, 2, 3, 4, 5, 6, 7, 8, 9, 10, 11, 12, 13, 14, 15, 16, 17, 18, 19, 20, 21, 22, 23, 24, 25, 26, 27, 28, 29, 30, 31, 32, 33, 34, 35, 36, 37, 38, 39, 40, 41, 42, 43, 44, 45, 46] [0, 1, 2, 3, 4, 5, 6, 7, 8, 9, 10, 11, 12, 13, 14, 15, 16, 17, 18, 19, 20, 21, 22, 23, 24, 25, 26, 27, 28, 29, 30, 31, 32, 33, 34, 35, 36, 37, 38, 39, 40, 41, 42, 43, 44, 45, 46] rfl (by decide) rfl (by decide) (by decide) (fun _ => rfl) (by decide) rfl (Nat.le_of_ble_eq_true rfl) ⟨by decide, by decide⟩ dX6_carves_64 (fun r u hr_5 => ?_)
      subst hr_5
      refine kw_land C dX6_carves_67 ?_
      refine kw_lconst (v := 0) C dX6_carves_68 (by decide) ?_
      refine kw_lcmp C dX6_carves_69 ?_
      have J78_6 : ∀ (_ : Unit), KW p l e ({ frames := 3, cells := 0, slots := 0, locals := 68 }) s m ([.ref (q 0), .int (nI ii), .int (nI xx), .int (nI zz)] : List Value).toArray below meth c 0 0 (MQ below (va_Qi (fun (r : Int32) (u : Unit) => r = (nI (if tl (blk ii ^^^ cbL (8 * zz + xx)) (8 * zz + xx) then 1 else 0))) (fun (u : Unit) t => PO G A (kMain y q (fun i => some (q (55 + 6 * i)), kp) ++ (kWork y (fun i => q (3 + i)) (nI W, nI H, nI N, nI D, p1, p2, p3, col, od, vp_updL blk ii (blk ii ^^^ cbL (8 * zz + xx)), slp) ++ (kPast y (fun i => q (17 + i)) (nI ((k + 1) % 6), nI (min (mm + 1) 6), fun i => some (q (19 + 6 * i))) ++ (kWork y (fun i => q (19 + i)) (va_up wp k (nI W, nI H, nI N, nI D, p1, p2, p3, col, od, blk, slp) 0) ++ (kWork y (fun i => q (25 + i)) (va_up wp k (nI W, nI H, nI N, nI D, p1, p2, p3, col, od, blk, slp) 1) ++ (kWork y (fun i => q (31 + i)) (va_up wp k (nI W, nI H, nI N, nI D, p1, p2, p3, col, od, blk, slp) 2) ++ (kWork y (fun i => q (37 + i)) (va_up wp k (nI W, nI H, nI N, nI D, p1, p2, p3, col, od, blk, slp) 3) ++ (kWork y (fun i => q (43 + i)) (va_up wp k (nI W, nI H, nI N, nI D, p1, p2, p3, col, od, blk, slp) 4) ++ kWork y (fun i => q (49 + i)) (va_up wp k (nI W, nI H, nI N, nI D, p1, p2, p3, col, od, blk, slp) 5))))))))) t) A) ([.ref (q 0), .int (nI ii), .int (nI xx), .int (nI zz)] : List Value).toArray s 0 0 A) G A 4 (kMain y q (fun i => some (q (55 + 6 * i)), kp) ++ (kWork y (fun i => q (3 + i)) (nI W, nI H, nI N, nI D, p1, p2, p3, col, od, vp_updL blk ii ((blk ii) ^^^ (cbL (8 * zz + xx))), slp) ++ (kPast y (fun i => q (17 + i)) (nI ((k + 1) % 6), nI (min (mm + 1) 6), fun i => some (q (19 + 6 * i))) ++ (kWork y (fun i => q (19 + i)) (va_up wp k (nI W, nI H, nI N, nI D, p1, p2, p3, col, od, blk, slp) 0) ++ (kWork y (fun i => q (25 + i)) (va_up wp k (nI W, nI H, nI N, nI D, p1, p2, p3, col, od, blk, slp) 1) ++ (kWork y (fun i => q (31 + i)) (va_up wp k (nI W, nI H, nI N, nI D, p1, p2, p3, col, od, blk, slp) 2) ++ (kWork y (fun i => q (37 + i)) (va_up wp k (nI W, nI H, nI N, nI D, p1, p2, p3, col, od, blk, slp) 3) ++ (kWork y (fun i => q (43 + i)) (va_up wp k (nI W, nI H, nI N, nI D, p1, p2, p3, col, od, blk, slp) 4) ++ kWork y (fun i => q (49 + i)) (va_up wp k (nI W, nI H, nI N, nI D, p1, p2, p3, col, od, blk, slp) 5))))))))) [(0, .ref (q 0)), (1, .int (nI ii)), (2, .int (nI xx)), (3, .int (nI zz))] 78 [.int (nI (if tl (blk ii ^^^ cbL (8 * zz + xx)) (8 * zz + xx) then 1 else 0))] := by
        intro _
        refine kR_i C () dX6_carves_78 ?_ rfl
        first | rfl | trivial | (simp; done) | omega
      refine kw_if_eq_L (tgt := 77) C dX6_carves_70 (by decide) (fun c_70 => ?_) (fun c_70 => ?_)
      ·
        refine kw_iconst (v := nI 0) C dX6_carves_77 (by decide) ?_
        refine KW.loc (lv' := [(0, .ref (q 0)), (1, .int (nI ii)), (2, .int (nI xx)), (3, .int (nI zz))]) [0, 1, 2, 3] rfl ?_
        refine KW.ass (congrArg (fun zz => ([.int zz] : List Value)) (show (nI 0) = (nI (if tl (blk ii ^^^ cbL (8 * zz + xx)) (8 * zz + xx) then 1 else 0)) from by simp [tl, c_70])) ?_
        exact J78_6 ()
      ·
        refine kw_iconst (v := nI 1) C dX6_carves_73 (by decide) ?_
        refine kw_goto (tgt := 78) C dX6_carves_74 (by decide) ?_
        refine KW.loc (lv' := [(0, .ref (q 0)), (1, .int (nI ii)), (2, .int (nI xx)), (3, .int (nI zz))]) [0, 1, 2, 3] rfl ?_
        refine KW.ass (congrArg (fun zz => ([.int zz] : List Value)) (show (nI 1) = (nI (if tl (blk ii ^^^ cbL (8 * zz + xx)) (8 * zz + xx) then 1 else 0)) from by simp [tl, c_70])) ?_
        exact J78_6 ()
    ·
      exact absurd ⟨inR_of hxx (by omega), inR_of hzz (by omega)⟩ c_20

set_option maxHeartbeats 4000000 in
set_option maxRecDepth 100000 in
theorem c_X6_slips_bad (l : Launch) (G : va_G) (y : Nat → ClassId) (t : Nat) (q : Nat → Nat) (kp : Nat → Int32) (W : Nat) (H : Nat) (N : Nat) (D : Nat) (p1 : Int64) (p2 : Int64) (p3 : Int64) (col : Nat → Int32) (od : Nat → Int32) (blk : Nat → Int64) (slp : Nat → Int32) (i : Int32) (dx : Int32) (dy : Int32) (hN : N ≤ 6) (hb : ¬ (inR i N ∧ inD dx ∧ inD dy)) (sz : Nat) : Met l yX6_slips (Cond.code yX6_slips cX6_slips 5 (some .int) :: TG) ({ frames := 1, cells := 0, slots := 0, locals := 21 }) (va_Pc [.ref (q 0), .int i, .int dx, .int dy] (PR G y t (kMain y q (fun i => some (q (55 + 6 * i)), kp) ++ kWork y (fun i => q (3 + i)) (nI W, nI H, nI N, nI D, p1, p2, p3, col, od, blk, slp)) sz)) (va_Qi (fun (r : Int32) (u : Unit) => r = (-1)) (fun (u : Unit) t => PO G (va_A (kMain y q (fun i => some (q (55 + 6 * i)), kp) ++ kWork y (fun i => q (3 + i)) (nI W, nI H, nI N, nI D, p1, p2, p3, col, od, blk, slp)) sz) (kMain y q (fun i => some (q (55 + 6 * i)), kp) ++ kWork y (fun i => q (3 + i)) (nI W, nI H, nI N, nI D, p1, p2, p3, col, od, blk, slp)) t) (va_A (kMain y q (fun i => some (q (55 + 6 * i)), kp) ++ kWork y (fun i => q (3 + i)) (nI W, nI H, nI N, nI D, p1, p2, p3, col, od, blk, slp)) sz)) 0 0 (va_A (kMain y q (fun i => some (q (55 + 6 * i)), kp) ++ kWork y (fun i => q (3 + i)) (nI W, nI H, nI N, nI D, p1, p2, p3, col, od, blk, slp)) sz) := by
  refine kMet (cc := cX6_slips) (maxL := 5) (ret := some .int) (Qc := fun A => va_Qi (fun (r : Int32) (u : Unit) => r = (-1)) (fun (u : Unit) t => PO G A (kMain y q (fun i => some (q (55 + 6 * i)), kp) ++ kWork y (fun i => q (3 + i)) (nI W, nI H, nI N, nI D, p1, p2, p3, col, od, blk, slp)) t) A) (by decide) rfl (Nat.le_of_ble_eq_true rfl) (fun p e s m below meth c A hsz C hin => ?_)
  refine KW.loc (lv' := [(0, .ref (q 0)), (1, .int i), (2, .int dx), (3, .int dy)]) [0, 1, 2, 3] rfl ?_
  refine kw_aload_n C 0 dX6_slips_0 rfl ?_
  refine kw_get (v := .ref (q 3)) (T := TX6) C 0 0 rfl rfl (by decide) (fun w h => mT (fwX6 w h)) rfl (mT wd_225) rfl dX6_slips_1 ?_
  refine kw_iload_n C 1 dX6_slips_4 rfl ?_
  refine kV_i (As := [.int i]) (rest := []) (ws' := fun (u : Unit) => kMain y q (fun i => some (q (55 + 6 * i)), kp) ++ kWork y (fun i => q (3 + i)) (nI W, nI H, nI N, nI D, p1, p2, p3, col, od, blk, slp)) C (c_X5_hasInk l G y t (fun i => q (3 + i)) W H N D p1 p2 p3 col od blk slp i (by first | assumption | omega | decide)) (cwV 1 C.2.2.2.2.1 (goodV cT wd_403 wd_400 wd_401 wd_402 wd_42) rfl rfl rfl (by decide +kernel) ⟨by decide, by decide⟩) [3, 4, 5, 6, 7, 8] [0, 1, 2] [0, 1, 2, 3, 4, 5, 6, 7, 8] rfl (by decide) rfl (by decide) (by decide) (fun _ => rfl) (by decide) 3 rfl rfl rfl (Nat.le_of_ble_eq_true rfl) ⟨by decide, by decide⟩ dX6_slips_5 (fun r u hr_1 => ?_)
  subst hr_1
  refine kw_if_eq_D (tgt := 31) C dX6_slips_8 (by decide) (fun c_8 => ?_) (fun c_8 => ?_)
  ·
    refine kw_iconst (v := (-1)) C dX6_slips_31 (by decide) ?_
    refine kR_i C () dX6_slips_32 ?_ rfl
    first | rfl | trivial | (simp; done) | omega
  ·
    refine kw_iload_n C 2 dX6_slips_11 rfl ?_
    refine kw_iconst (v := (-1)) C dX6_slips_12 (by decide) ?_
    refine kw_icmp_lt (tgt := 31) C dX6_slips_13 (by decide) (fun c_13 => ?_) (fun c_13 => ?_)
    ·
      refine kw_iconst (v := (-1)) C dX6_slips_31 (by decide) ?_
      refine kR_i C () dX6_slips_32 ?_ rfl
      first | rfl | trivial | (simp; done) | omega
    ·
      refine kw_iload_n C 2 dX6_slips_16 rfl ?_
      refine kw_iconst (v := nI 1) C dX6_slips_17 (by decide) ?_
      refine kw_icmp_gt (tgt := 31) C dX6_slips_18 (by decide) (fun c_18 => ?_) (fun c_18 => ?_)
      ·
        refine kw_iconst (v := (-1)) C dX6_slips_31 (by decide) ?_
        refine kR_i C () dX6_slips_32 ?_ rfl
        first | rfl | trivial | (simp; done) | omega
      ·
        refine kw_iload_n C 3 dX6_slips_21 rfl ?_
        refine kw_iconst (v := (-1)) C dX6_slips_22 (by decide) ?_
        refine kw_icmp_lt (tgt := 31) C dX6_slips_23 (by decide) (fun c_23 => ?_) (fun c_23 => ?_)
        ·
          refine kw_iconst (v := (-1)) C dX6_slips_31 (by decide) ?_
          refine kR_i C () dX6_slips_32 ?_ rfl
          first | rfl | trivial | (simp; done) | omega
        ·
          refine kw_iload_n C 3 dX6_slips_26 rfl ?_
          refine kw_iconst (v := nI 1) C dX6_slips_27 (by decide) ?_
          refine kw_icmp_le (tgt := 33) C dX6_slips_28 (by decide) (fun c_28 => ?_) (fun c_28 => ?_)
          ·
            exact absurd ⟨c_8, ⟨c_13, c_18⟩, ⟨c_23, Int32.not_lt.mpr c_28⟩⟩ hb
          ·
            refine kw_iconst (v := (-1)) C dX6_slips_31 (by decide) ?_
            refine kR_i C () dX6_slips_32 ?_ rfl
            first | rfl | trivial | (simp; done) | omega

set_option maxHeartbeats 4000000 in
set_option maxRecDepth 100000 in
theorem c_X6_slips_same (l : Launch) (G : va_G) (y : Nat → ClassId) (t : Nat) (q : Nat → Nat) (kp : Nat → Int32) (W : Nat) (H : Nat) (N : Nat) (D : Nat) (p1 : Int64) (p2 : Int64) (p3 : Int64) (col : Nat → Int32) (od : Nat → Int32) (blk : Nat → Int64) (slp : Nat → Int32) (o : Nat → Nat) (cl : Nat → Nat) (kk : Nat → Nat) (ii : Nat) (a0 : Nat) (b0 : Nat) (hN : N ≤ 6) (hsl : ∀ i, i < N → slp i = nI (kk i) ∧ kk i < 9) (hii : ii < N) (ha0 : a0 < 3) (hb0 : b0 < 3) (hsm : kk ii = 3 * b0 + a0) (sz : Nat) : Met l yX6_slips (Cond.code yX6_slips cX6_slips 5 (some .int) :: TG) ({ frames := 1, cells := 0, slots := 0, locals := 21 }) (va_Pc [.ref (q 0), .int (nI ii), .int (dI a0), .int (dI b0)] (PR G y t (kMain y q (fun i => some (q (55 + 6 * i)), kp) ++ kWork y (fun i => q (3 + i)) (nI W, nI H, nI N, nI D, p1, p2, p3, col, od, blk, slp)) sz)) (va_Qi (fun (r : Int32) (u : Unit) => r = (-2)) (fun (u : Unit) t => PO G (va_A (kMain y q (fun i => some (q (55 + 6 * i)), kp) ++ kWork y (fun i => q (3 + i)) (nI W, nI H, nI N, nI D, p1, p2, p3, col, od, blk, slp)) sz) (kMain y q (fun i => some (q (55 + 6 * i)), kp) ++ kWork y (fun i => q (3 + i)) (nI W, nI H, nI N, nI D, p1, p2, p3, col, od, blk, slp)) t) (va_A (kMain y q (fun i => some (q (55 + 6 * i)), kp) ++ kWork y (fun i => q (3 + i)) (nI W, nI H, nI N, nI D, p1, p2, p3, col, od, blk, slp)) sz)) 0 0 (va_A (kMain y q (fun i => some (q (55 + 6 * i)), kp) ++ kWork y (fun i => q (3 + i)) (nI W, nI H, nI N, nI D, p1, p2, p3, col, od, blk, slp)) sz) := by
  refine kMet (cc := cX6_slips) (maxL := 5) (ret := some .int) (Qc := fun A => va_Qi (fun (r : Int32) (u : Unit) => r = (-2)) (fun (u : Unit) t => PO G A (kMain y q (fun i => some (q (55 + 6 * i)), kp) ++ kWork y (fun i => q (3 + i)) (nI W, nI H, nI N, nI D, p1, p2, p3, col, od, blk, slp)) t) A) (by decide) rfl (Nat.le_of_ble_eq_true rfl) (fun p e s m below meth c A hsz C hin => ?_)
  refine KW.loc (lv' := [(0, .ref (q 0)), (1, .int (nI ii)), (2, .int (dI a0)), (3, .int (dI b0))]) [0, 1, 2, 3] rfl ?_
  refine kw_aload_n C 0 dX6_slips_0 rfl ?_
  refine kw_get (v := .ref (q 3)) (T := TX6) C 0 0 rfl rfl (by decide) (fun w h => mT (fwX6 w h)) rfl (mT wd_225) rfl dX6_slips_1 ?_
  refine kw_iload_n C 1 dX6_slips_4 rfl ?_
  refine kV_i (As := [.int (nI ii)]) (rest := []) (ws' := fun (u : Unit) => kMain y q (fun i => some (q (55 + 6 * i)), kp) ++ kWork y (fun i => q (3 + i)) (nI W, nI H, nI N, nI D, p1, p2, p3, col, od, blk, slp)) C (c_X5_hasInk l G y t (fun i => q (3 + i)) W H N D p1 p2 p3 col od blk slp (nI ii) (by first | assumption | omega | decide)) (cwV 1 C.2.2.2.2.1 (goodV cT wd_403 wd_400 wd_401 wd_402 wd_42) rfl rfl rfl (by decide +kernel) ⟨by decide, by decide⟩) [3, 4, 5, 6, 7, 8] [0, 1, 2] [0, 1, 2, 3, 4, 5, 6, 7, 8] rfl (by decide) rfl (by decide) (by decide) (fun _ => rfl) (by decide) 3 rfl rfl rfl (Nat.le_of_ble_eq_true rfl) ⟨by decide, by decide⟩ dX6_slips_5 (fun r u hr_1 => ?_)
  subst hr_1
  refine kw_if_eq_D (tgt := 31) C dX6_slips_8 (by decide) (fun c_8 => ?_) (fun c_8 => ?_)
  ·
    exact absurd (inR_of hii (by omega)) c_8
  ·
    refine kw_iload_n C 2 dX6_slips_11 rfl ?_
    refine kw_iconst (v := (-1)) C dX6_slips_12 (by decide) ?_
    refine kw_icmp_lt (tgt := 31) C dX6_slips_13 (by decide) (fun c_13 => ?_) (fun c_13 => ?_)
    ·
      exact absurd c_13 (dI_ok a0 ha0).1
    ·
      refine kw_iload_n C 2 dX6_slips_16 rfl ?_
      refine kw_iconst (v := nI 1) C dX6_slips_17 (by decide) ?_
      refine kw_icmp_gt (tgt := 31) C dX6_slips_18 (by decide) (fun c_18 => ?_) (fun c_18 => ?_)
      ·
        exact absurd c_18 (dI_ok a0 ha0).2.1
      ·
        refine kw_iload_n C 3 dX6_slips_21 rfl ?_
        refine kw_iconst (v := (-1)) C dX6_slips_22 (by decide) ?_
        refine kw_icmp_lt (tgt := 31) C dX6_slips_23 (by decide) (fun c_23 => ?_) (fun c_23 => ?_)
        ·
          exact absurd c_23 (dI_ok b0 hb0).1
        ·
          refine kw_iload_n C 3 dX6_slips_26 rfl ?_
          refine kw_iconst (v := nI 1) C dX6_slips_27 (by decide) ?_
          refine kw_icmp_le (tgt := 33) C dX6_slips_28 (by decide) (fun c_28 => ?_) (fun c_28 => ?_)
          ·
            refine kw_iload_n C 2 dX6_slips_33 rfl ?_
            refine kw_iload_n C 3 dX6_slips_34 rfl ?_
            refine kS_i (As := [.int (dI a0), .int (dI b0)]) (rest := []) (ws' := fun (u : Unit) => kMain y q (fun i => some (q (55 + 6 * i)), kp) ++ kWork y (fun i => q (3 + i)) (nI W, nI H, nI N, nI D, p1, p2, p3, col, od, blk, slp)) C (c_X6_slipOf l G y t (dI a0) (dI b0)) (va_cwS 2 C.2.2.2.2.1 (goodS cT wd_415 wd_413 wd_414 wd_41) rfl rfl rfl (by decide +kernel) ⟨by decide, by decide⟩) [] [0, 1, 2, 3, 4, 5, 6, 7, 8] [0, 1, 2, 3, 4, 5, 6, 7, 8] rfl (by decide) rfl (by decide) (by decide) (fun _ => rfl) (by decide) rfl (Nat.le_of_ble_eq_true rfl) ⟨by decide, by decide⟩ dX6_slips_35 (fun r u hr_2 => ?_)
            subst hr_2
            refine kw_top (show (nI 3 * ((dI b0) + nI 1) + (dI a0) + nI 1) = (nI (3 * b0 + a0)) from by exact dI_slip a0 ha0 b0 hb0) ?_
            refine kw_istore C [(4, .int (nI (3 * b0 + a0))), (0, .ref (q 0)), (1, .int (nI ii)), (2, .int (dI a0)), (3, .int (dI b0))] dX6_slips_38 (by decide) rfl ?_
            refine kw_aload_n C 1 dX6_slips_40 rfl ?_
            refine kw_get (v := .ref (q 3)) (T := TX6) C 0 0 rfl rfl (by decide) (fun w h => mT (fwX6 w h)) rfl (mT wd_225) rfl dX6_slips_41 ?_
            refine kw_getN (v := .ref (q 8)) (T := TX5) C 3 8 rfl rfl (by decide) (fun w h => mT (fwX5 w h)) rfl (List.mem_of_getElem? (i := 15) rfl) rfl dX6_slips_44 ?_
            refine kw_iload_n C 2 dX6_slips_47 rfl ?_
            refine kw_iald (f := slp) C 8 rfl (by omega) (by decide) dX6_slips_48 ?_
            refine kw_top (show (slp ii) = (nI (kk ii)) from by exact (hsl ii hii).1) ?_
            have hk9 := (hsl ii hii).2
            refine kw_iload C 0 dX6_slips_49 rfl ?_
            refine kw_icmp_ne_N (tgt := 57) C (by omega) (by omega) dX6_slips_51 (by decide) (fun c_51 => ?_) (fun c_51 => ?_)
            ·
              omega
            ·
              refine kw_bipush (v := (-2)) C dX6_slips_54 (by decide) ?_
              refine kR_i C () dX6_slips_56 ?_ rfl
              first | rfl | trivial | (simp; done) | omega
          ·
            exact absurd (dI_ok b0 hb0).2.2 c_28

set_option maxHeartbeats 4000000 in
set_option maxRecDepth 100000 in
theorem c_X6_slips_ok (l : Launch) (G : va_G) (y : Nat → ClassId) (t : Nat) (q : Nat → Nat) (kp : Nat → Int32) (W : Nat) (H : Nat) (N : Nat) (D : Nat) (p1 : Int64) (p2 : Int64) (p3 : Int64) (col : Nat → Int32) (od : Nat → Int32) (blk : Nat → Int64) (slp : Nat → Int32) (o : Nat → Nat) (cl : Nat → Nat) (kk : Nat → Nat) (k : Nat) (mm : Nat) (wp : Nat → TWork) (ii : Nat) (a0 : Nat) (b0 : Nat) (hN : N ≤ 6) (hsl : ∀ i, i < N → slp i = nI (kk i) ∧ kk i < 9) (hii : ii < N) (ha0 : a0 < 3) (hb0 : b0 < 3) (hmm : mm ≤ 6) (hk : k < 6) (hsm : kk ii ≠ 3 * b0 + a0) (sz : Nat) : Met l yX6_slips (Cond.code yX6_slips cX6_slips 5 (some .int) :: TG) ({ frames := 3, cells := 0, slots := 0, locals := 68 }) (va_Pc [.ref (q 0), .int (nI ii), .int (dI a0), .int (dI b0)] (PR G y t (kMain y q (fun i => some (q (55 + 6 * i)), kp) ++ (kWork y (fun i => q (3 + i)) (nI W, nI H, nI N, nI D, p1, p2, p3, col, od, blk, slp) ++ (kPast y (fun i => q (17 + i)) (nI k, nI mm, fun i => some (q (19 + 6 * i))) ++ (kWork y (fun i => q (19 + i)) (wp 0) ++ (kWork y (fun i => q (25 + i)) (wp 1) ++ (kWork y (fun i => q (31 + i)) (wp 2) ++ (kWork y (fun i => q (37 + i)) (wp 3) ++ (kWork y (fun i => q (43 + i)) (wp 4) ++ kWork y (fun i => q (49 + i)) (wp 5))))))))) sz)) (va_Qi (fun (r : Int32) (u : Unit) => r = (nI 1)) (fun (u : Unit) t => PO G (va_A (kMain y q (fun i => some (q (55 + 6 * i)), kp) ++ (kWork y (fun i => q (3 + i)) (nI W, nI H, nI N, nI D, p1, p2, p3, col, od, blk, slp) ++ (kPast y (fun i => q (17 + i)) (nI k, nI mm, fun i => some (q (19 + 6 * i))) ++ (kWork y (fun i => q (19 + i)) (wp 0) ++ (kWork y (fun i => q (25 + i)) (wp 1) ++ (kWork y (fun i => q (31 + i)) (wp 2) ++ (kWork y (fun i => q (37 + i)) (wp 3) ++ (kWork y (fun i => q (43 + i)) (wp 4) ++ kWork y (fun i => q (49 + i)) (wp 5))))))))) sz) (kMain y q (fun i => some (q (55 + 6 * i)), kp) ++ (kWork y (fun i => q (3 + i)) (nI W, nI H, nI N, nI D, p1, p2, p3, col, od, blk, upd slp ii (nI (3 * b0 + a0))) ++ (kPast y (fun i => q (17 + i)) (nI ((k + 1) % 6), nI (min (mm + 1) 6), fun i => some (q (19 + 6 * i))) ++ (kWork y (fun i => q (19 + i)) (va_up wp k (nI W, nI H, nI N, nI D, p1, p2, p3, col, od, blk, slp) 0) ++ (kWork y (fun i => q (25 + i)) (va_up wp k (nI W, nI H, nI N, nI D, p1, p2, p3, col, od, blk, slp) 1) ++ (kWork y (fun i => q (31 + i)) (va_up wp k (nI W, nI H, nI N, nI D, p1, p2, p3, col, od, blk, slp) 2) ++ (kWork y (fun i => q (37 + i)) (va_up wp k (nI W, nI H, nI N, nI D, p1, p2, p3, col, od, blk, slp) 3) ++ (kWork y (fun i => q (43 + i)) (va_up wp k (nI W, nI H, nI N, nI D, p1, p2, p3, col, od, blk, slp) 4) ++ kWork y (fun i => q (49 + i)) (va_up wp k (nI W, nI H, nI N, nI D, p1, p2, p3, col, od, blk, slp) 5))))))))) t) (va_A (kMain y q (fun i => some (q (55 + 6 * i)), kp) ++ (kWork y (fun i => q (3 + i)) (nI W, nI H, nI N, nI D, p1, p2, p3, col, od, blk, slp) ++ (kPast y (fun i => q (17 + i)) (nI k, nI mm, fun i => some (q (19 + 6 * i))) ++ (kWork y (fun i => q (19 + i)) (wp 0) ++ (kWork y (fun i => q (25 + i)) (wp 1) ++ (kWork y (fun i => q (31 + i)) (wp 2) ++ (kWork y (fun i => q (37 + i)) (wp 3) ++ (kWork y (fun i => q (43 + i)) (wp 4) ++ kWork y (fun i => q (49 + i)) (wp 5))))))))) sz)) 0 0 (va_A (kMain y q (fun i => some (q (55 + 6 * i)), kp) ++ (kWork y (fun i => q (3 + i)) (nI W, nI H, nI N, nI D, p1, p2, p3, col, od, blk, slp) ++ (kPast y (fun i => q (17 + i)) (nI k, nI mm, fun i => some (q (19 + 6 * i))) ++ (kWork y (fun i => q (19 + i)) (wp 0) ++ (kWork y (fun i => q (25 + i)) (wp 1) ++ (kWork y (fun i => q (31 + i)) (wp 2) ++ (kWork y (fun i => q (37 + i)) (wp 3) ++ (kWork y (fun i => q (43 + i)) (wp 4) ++ kWork y (fun i => q (49 + i)) (wp 5))))))))) sz) := by
  refine kMet (cc := cX6_slips) (maxL := 5) (ret := some .int) (Qc := fun A => va_Qi (fun (r : Int32) (u : Unit) => r = (nI 1)) (fun (u : Unit) t => PO G A (kMain y q (fun i => some (q (55 + 6 * i)), kp) ++ (kWork y (fun i => q (3 + i)) (nI W, nI H, nI N, nI D, p1, p2, p3, col, od, blk, upd slp ii (nI (3 * b0 + a0))) ++ (kPast y (fun i => q (17 + i)) (nI ((k + 1) % 6), nI (min (mm + 1) 6), fun i => some (q (19 + 6 * i))) ++ (kWork y (fun i => q (19 + i)) (va_up wp k (nI W, nI H, nI N, nI D, p1, p2, p3, col, od, blk, slp) 0) ++ (kWork y (fun i => q (25 + i)) (va_up wp k (nI W, nI H, nI N, nI D, p1, p2, p3, col, od, blk, slp) 1) ++ (kWork y (fun i => q (31 + i)) (va_up wp k (nI W, nI H, nI N, nI D, p1, p2, p3, col, od, blk, slp) 2) ++ (kWork y (fun i => q (37 + i)) (va_up wp k (nI W, nI H, nI N, nI D, p1, p2, p3, col, od, blk, slp) 3) ++ (kWork y (fun i => q (43 + i)) (va_up wp k (nI W, nI H, nI N, nI D, p1, p2, p3, col, od, blk, slp) 4) ++ kWork y (fun i => q (49 + i)) (va_up wp k (nI W, nI H, nI N, nI D, p1, p2, p3, col, od, blk, slp) 5))))))))) t) A) (by decide) rfl (Nat.le_of_ble_eq_true rfl) (fun p e s m below meth c A hsz C hin => ?_)
  refine KW.loc (lv' := [(0, .ref (q 0)), (1, .int (nI ii)), (2, .int (dI a0)), (3, .int (dI b0))]) [0, 1, 2, 3] rfl ?_
  refine kw_aload_n C 0 dX6_slips_0 rfl ?_
  refine kw_get (v := .ref (q 3)) (T := TX6) C 0 0 rfl rfl (by decide) (fun w h => mT (fwX6 w h)) rfl (mT wd_225) rfl dX6_slips_1 ?_
  refine kw_iload_n C 1 dX6_slips_4 rfl ?_
  refine kV_i (As := [.int (nI ii)]) (rest := []) (ws' := fun (u : Unit) => kMain y q (fun i => some (q (55 + 6 * i)), kp) ++ (kWork y (fun i => q (3 + i)) (nI W, nI H, nI N, nI D, p1, p2, p3, col, od, blk, slp) ++ (kPast y (fun i => q (17 + i)) (nI k, nI mm, fun i => some (q (19 + 6 * i))) ++ (kWork y (fun i => q (19 + i)) (wp 0) ++ (kWork y (fun i => q (25 + i)) (wp 1) ++ (kWork y (fun i => q (31 + i)) (wp 2) ++ (kWork y (fun i => q (37 + i)) (wp 3) ++ (kWork y (fun i => q (43 + i)) (wp 4) ++ kWork y (fun i => q (49 + i)) (wp 5))))))))) C (c_X5_hasInk l G y t (fun i => q (3 + i)) W H N D p1 p2 p3 col od blk slp (nI ii) (by first | assumption | omega | decide)) (cwV 1 C.2.2.2.2.1 (goodV cT wd_403 wd_400 wd_401 wd_402 wd_42) rfl rfl rfl (by decide +kernel) ⟨by decide, by decide⟩) [3, 4, 5, 6, 7, 8] [0, 1, 2, 9, 10, 11, 12, 13, 14, 15, 16, 17, 18, 19, 20, 21, 22, 23, 24, 25, 26, 27, 28, 29, 30, 31, 32, 33, 34, 35, 36, 37, 38, 39, 40, 41, 42, 43, 44, 45, 46] [0, 1, 2, 41, 42, 43, 44, 45, 46, 3, 4, 5, 6, 7, 8, 9, 10, 11, 12, 13, 14, 15, 16, 17, 18, 19, 20, 21, 22, 23, 24, 25, 26, 27, 28, 29, 30, 31, 32, 33, 34, 35, 36, 37, 38, 39, 40] rfl (by decide) rfl (by decide) (by decide) (fun _ => rfl) (by decide) 3 rfl rfl rfl (Nat.le_of_ble_eq_true rfl) ⟨by decide, by decide⟩ dX6_slips_5 (fun r u hr_1 => ?_)
  subst hr_1
  refine kw_if_eq_D (tgt := 31) C dX6_slips_8 (by decide) (fun c_8 => ?_) (fun c_8 => ?_)
  ·
    exact absurd (inR_of hii (by omega)) c_8
  ·
    refine kw_iload_n C 2 dX6_slips_11 rfl ?_
    refine kw_iconst (v := (-1)) C dX6_slips_12 (by decide) ?_
    refine kw_icmp_lt (tgt := 31) C dX6_slips_13 (by decide) (fun c_13 => ?_) (fun c_13 => ?_)
    ·
      exact absurd c_13 (dI_ok a0 ha0).1
    ·
      refine kw_iload_n C 2 dX6_slips_16 rfl ?_
      refine kw_iconst (v := nI 1) C dX6_slips_17 (by decide) ?_
      refine kw_icmp_gt (tgt := 31) C dX6_slips_18 (by decide) (fun c_18 => ?_) (fun c_18 => ?_)
      ·
        exact absurd c_18 (dI_ok a0 ha0).2.1
      ·
        refine kw_iload_n C 3 dX6_slips_21 rfl ?_
        refine kw_iconst (v := (-1)) C dX6_slips_22 (by decide) ?_
        refine kw_icmp_lt (tgt := 31) C dX6_slips_23 (by decide) (fun c_23 => ?_) (fun c_23 => ?_)
        ·
          exact absurd c_23 (dI_ok b0 hb0).1
        ·
          refine kw_iload_n C 3 dX6_slips_26 rfl ?_
          refine kw_iconst (v := nI 1) C dX6_slips_27 (by decide) ?_
          refine kw_icmp_le (tgt := 33) C dX6_slips_28 (by decide) (fun c_28 => ?_) (fun c_28 => ?_)
          ·
            refine kw_iload_n C 2 dX6_slips_33 rfl ?_
            refine kw_iload_n C 3 dX6_slips_34 rfl ?_
            refine kS_i (As := [.int (dI a0), .int (dI b0)]) (rest := []) (ws' := fun (u : Unit) => kMain y q (fun i => some (q (55 + 6 * i)), kp) ++ (kWork y (fun i => q (3 + i)) (nI W, nI H, nI N, nI D, p1, p2, p3, col, od, blk, slp) ++ (kPast y (fun i => q (17 + i)) (nI k, nI mm, fun i => some (q (19 + 6 * i))) ++ (kWork y (fun i => q (19 + i)) (wp 0) ++ (kWork y (fun i => q (25 + i)) (wp 1) ++ (kWork y (fun i => q (31 + i)) (wp 2) ++ (kWork y (fun i => q (37 + i)) (wp 3) ++ (kWork y (fun i => q (43 + i)) (wp 4) ++ kWork y (fun i => q (49 + i)) (wp 5))))))))) C (c_X6_slipOf l G y t (dI a0) (dI b0)) (va_cwS 2 C.2.2.2.2.1 (goodS cT wd_415 wd_413 wd_414 wd_41) rfl rfl rfl (by decide +kernel) ⟨by decide, by decide⟩) [] [0, 1, 2, 3, 4, 5, 6, 7, 8, 9, 10, 11, 12, 13, 14, 15, 16, 17, 18, 19, 20, 21, 22, 23, 24, 25, 26, 27, 28, 29, 30, 31, 32, 33, 34, 35, 36, 37, 38, 39, 40, 41, 42, 43, 44, 45, 46] [0, 1, 2, 3, 4, 5, 6, 7, 8, 9, 10, 11, 12, 13, 14, 15, 16, 17, 18, 19, 20, 21, 22, 23, 24, 25, 26, 27, 28, 29, 30, 31, 32, 33, 34, 35, 36, 37, 38, 39, 40, 41, 42, 43, 44, 45, 46] rfl (by decide) rfl (by decide) (by decide) (fun _ => rfl) (by decide) rfl (Nat.le_of_ble_eq_true rfl) ⟨by decide, by decide⟩ dX6_slips_35 (fun r u hr_2 => ?_)
            subst hr_2
            refine kw_top (show (nI 3 * ((dI b0) + nI 1) + (dI a0) + nI 1) = (nI (3 * b0 + a0)) from by exact dI_slip a0 ha0 b0 hb0) ?_
            refine kw_istore C [(4, .int (nI (3 * b0 + a0))), (0, .ref (q 0)), (1, .int (nI ii)), (2, .int (dI a0)), (3, .int (dI b0))] dX6_slips_38 (by decide) rfl ?_
            refine kw_aload_n C 1 dX6_slips_40 rfl ?_
            refine kw_get (v := .ref (q 3)) (T := TX6) C 0 0 rfl rfl (by decide) (fun w h => mT (fwX6 w h)) rfl (mT wd_225) rfl dX6_slips_41 ?_
            refine kw_getN (v := .ref (q 8)) (T := TX5) C 3 8 rfl rfl (by decide) (fun w h => mT (fwX5 w h)) rfl (List.mem_of_getElem? (i := 15) rfl) rfl dX6_slips_44 ?_
            refine kw_iload_n C 2 dX6_slips_47 rfl ?_
            refine kw_iald (f := slp) C 8 rfl (by omega) (by decide) dX6_slips_48 ?_
            refine kw_top (show (slp ii) = (nI (kk ii)) from by exact (hsl ii hii).1) ?_
            have hk9 := (hsl ii hii).2
            refine kw_iload C 0 dX6_slips_49 rfl ?_
            refine kw_icmp_ne_N (tgt := 57) C (by omega) (by omega) dX6_slips_51 (by decide) (fun c_51 => ?_) (fun c_51 => ?_)
            ·
              refine kw_aload_n C 1 dX6_slips_57 rfl ?_
              refine kw_get (v := .ref (q 17)) (T := TX6) C 0 3 rfl rfl (by decide) (fun w h => mT (fwX6 w h)) rfl (mT wd_228) rfl dX6_slips_58 ?_
              refine kw_aload_n C 1 dX6_slips_61 rfl ?_
              refine kw_get (v := .ref (q 3)) (T := TX6) C 0 0 rfl rfl (by decide) (fun w h => mT (fwX6 w h)) rfl (mT wd_225) rfl dX6_slips_62 ?_
              refine kV_v (As := [.ref (q 3)]) (rest := []) (ws' := fun (u : Unit) => kMain y q (fun i => some (q (55 + 6 * i)), kp) ++ (kWork y (fun i => q (3 + i)) (nI W, nI H, nI N, nI D, p1, p2, p3, col, od, blk, slp) ++ (kPast y (fun i => q (17 + i)) (nI ((k + 1) % 6), nI (min (mm + 1) 6), fun i => some (q (19 + 6 * i))) ++ (kWork y (fun i => q (19 + i)) (va_up wp k (nI W, nI H, nI N, nI D, p1, p2, p3, col, od, blk, slp) 0) ++ (kWork y (fun i => q (25 + i)) (va_up wp k (nI W, nI H, nI N, nI D, p1, p2, p3, col, od, blk, slp) 1) ++ (kWork y (fun i => q (31 + i)) (va_up wp k (nI W, nI H, nI N, nI D, p1, p2, p3, col, od, blk, slp) 2) ++ (kWork y (fun i => q (37 + i)) (va_up wp k (nI W, nI H, nI N, nI D, p1, p2, p3, col, od, blk, slp) 3) ++ (kWork y (fun i => q (43 + i)) (va_up wp k (nI W, nI H, nI N, nI D, p1, p2, p3, col, od, blk, slp) 4) ++ kWork y (fun i => q (49 + i)) (va_up wp k (nI W, nI H, nI N, nI D, p1, p2, p3, col, od, blk, slp) 5))))))))) C (c_X0_remember l G y t (fun i => q (17 + i)) (fun i => q (19 + i)) (fun i => q (3 + i)) wp (nI W, nI H, nI N, nI D, p1, p2, p3, col, od, blk, slp) mm k (by first | assumption | omega | decide) (by first | assumption | omega | decide)) (cwV 1 C.2.2.2.2.1 (goodV cT wd_319 wd_316 wd_317 wd_318 wd_45) rfl rfl rfl (by decide +kernel) ⟨by decide, by decide⟩) [9, 10, 11, 12, 13, 14, 15, 16, 17, 18, 19, 20, 21, 22, 23, 24, 25, 26, 27, 28, 29, 30, 31, 32, 33, 34, 35, 36, 37, 38, 39, 40, 41, 42, 43, 44, 45, 46, 3, 4, 5, 6, 7, 8] [0, 1, 2] [0, 1, 2, 41, 42, 43, 44, 45, 46, 3, 4, 5, 6, 7, 8, 9, 10, 11, 12, 13, 14, 15, 16, 17, 18, 19, 20, 21, 22, 23, 24, 25, 26, 27, 28, 29, 30, 31, 32, 33, 34, 35, 36, 37, 38, 39, 40] rfl (by decide) rfl (by decide) (by decide) (fun _ => rfl) (by decide) 9 rfl rfl rfl (Nat.le_of_ble_eq_true rfl) ⟨by decide, by decide⟩ dX6_slips_65 (fun u hr_3 => ?_)
              refine kw_aload_n C 1 dX6_slips_68 rfl ?_
              refine kw_get (v := .ref (q 3)) (T := TX6) C 0 0 rfl rfl (by decide) (fun w h => mT (fwX6 w h)) rfl (mT wd_225) rfl dX6_slips_69 ?_
              refine kw_getN (v := .ref (q 8)) (T := TX5) C 3 8 rfl rfl (by decide) (fun w h => mT (fwX5 w h)) rfl (List.mem_of_getElem? (i := 15) rfl) rfl dX6_slips_72 ?_
              refine kw_iload_n C 2 dX6_slips_75 rfl ?_
              refine kw_iload C 0 dX6_slips_76 rfl ?_
              refine kw_iast C 8 (kMain y q (fun i => some (q (55 + 6 * i)), kp) ++ (kWork y (fun i => q (3 + i)) (nI W, nI H, nI N, nI D, p1, p2, p3, col, od, blk, upd slp ii (nI (3 * b0 + a0))) ++ (kPast y (fun i => q (17 + i)) (nI ((k + 1) % 6), nI (min (mm + 1) 6), fun i => some (q (19 + 6 * i))) ++ (kWork y (fun i => q (19 + i)) (va_up wp k (nI W, nI H, nI N, nI D, p1, p2, p3, col, od, blk, slp) 0) ++ (kWork y (fun i => q (25 + i)) (va_up wp k (nI W, nI H, nI N, nI D, p1, p2, p3, col, od, blk, slp) 1) ++ (kWork y (fun i => q (31 + i)) (va_up wp k (nI W, nI H, nI N, nI D, p1, p2, p3, col, od, blk, slp) 2) ++ (kWork y (fun i => q (37 + i)) (va_up wp k (nI W, nI H, nI N, nI D, p1, p2, p3, col, od, blk, slp) 3) ++ (kWork y (fun i => q (43 + i)) (va_up wp k (nI W, nI H, nI N, nI D, p1, p2, p3, col, od, blk, slp) 4) ++ kWork y (fun i => q (49 + i)) (va_up wp k (nI W, nI H, nI N, nI D, p1, p2, p3, col, od, blk, slp) 5))))))))) rfl (by omega) (by decide) dX6_slips_78 rfl ?_
              refine kw_iconst (v := nI 1) C dX6_slips_79 (by decide) ?_
              refine kR_i C () dX6_slips_80 ?_ rfl
              first | rfl | trivial | (simp; done) | omega
            ·
              omega
          ·
            exact absurd (dI_ok b0 hb0).2.2 c_28

set_option maxHeartbeats 4000000 in
set_option maxRecDepth 100000 in
theorem c_X6_wrongCells (l : Launch) (G : va_G) (y : Nat → ClassId) (t : Nat) (q : Nat → Nat) (kp : Nat → Int32) (W : Nat) (H : Nat) (N : Nat) (D : Nat) (p1 : Int64) (p2 : Int64) (p3 : Int64) (col : Nat → Int32) (od : Nat → Int32) (blk : Nat → Int64) (slp : Nat → Int32) (o : Nat → Nat) (cl : Nat → Nat) (kk : Nat → Nat) (r1 : Int64) (r2 : Int64) (r3 : Int64) (ox : Int32) (sk : Nat) (hW : W ≤ 6) (hH : H ≤ 6) (hN : N ≤ 6) (hD : D < 64) (hod : ∀ q, q < N → od q = nI (o q) ∧ o q < N) (hcol : ∀ i, i < N → col i = nI (cl i) ∧ cl i < 8) (hsl : ∀ i, i < N → slp i = nI (kk i) ∧ kk i < 9) (hsk : sk < 9) (sz : Nat) : Met l yX6_wrongCells (Cond.code yX6_wrongCells cX6_wrongCells 3 (some .int) :: TG) ({ frames := 3, cells := 0, slots := 0, locals := 78 }) (va_Pc [.ref (q 0), .int ox, .int (nI sk)] (PR G y t (kMain y q (fun i => some (q (55 + 6 * i)), kp) ++ (kWork y (fun i => q (3 + i)) (nI W, nI H, nI N, nI D, p1, p2, p3, col, od, blk, slp) ++ kSheet (q 75) (r1, r2, r3))) sz)) (va_Qi (fun (r : Int32) (u : Unit) => r = (wrL W H N D p1 p2 p3 blk o cl kk ox sk)) (fun (u : Unit) t => PO G (va_A (kMain y q (fun i => some (q (55 + 6 * i)), kp) ++ (kWork y (fun i => q (3 + i)) (nI W, nI H, nI N, nI D, p1, p2, p3, col, od, blk, slp) ++ kSheet (q 75) (r1, r2, r3))) sz) (kMain y q (fun i => some (q (55 + 6 * i)), kp) ++ (kWork y (fun i => q (3 + i)) (nI W, nI H, nI N, nI D, p1, p2, p3, col, od, blk, slp) ++ kSheet (q 75) (pfP W H D blk o cl kk ox sk 0 N, pfP W H D blk o cl kk ox sk 1 N, pfP W H D blk o cl kk ox sk 2 N))) t) (va_A (kMain y q (fun i => some (q (55 + 6 * i)), kp) ++ (kWork y (fun i => q (3 + i)) (nI W, nI H, nI N, nI D, p1, p2, p3, col, od, blk, slp) ++ kSheet (q 75) (r1, r2, r3))) sz)) 0 0 (va_A (kMain y q (fun i => some (q (55 + 6 * i)), kp) ++ (kWork y (fun i => q (3 + i)) (nI W, nI H, nI N, nI D, p1, p2, p3, col, od, blk, slp) ++ kSheet (q 75) (r1, r2, r3))) sz) := by
  refine kMet (cc := cX6_wrongCells) (maxL := 3) (ret := some .int) (Qc := fun A => va_Qi (fun (r : Int32) (u : Unit) => r = (wrL W H N D p1 p2 p3 blk o cl kk ox sk)) (fun (u : Unit) t => PO G A (kMain y q (fun i => some (q (55 + 6 * i)), kp) ++ (kWork y (fun i => q (3 + i)) (nI W, nI H, nI N, nI D, p1, p2, p3, col, od, blk, slp) ++ kSheet (q 75) (pfP W H D blk o cl kk ox sk 0 N, pfP W H D blk o cl kk ox sk 1 N, pfP W H D blk o cl kk ox sk 2 N))) t) A) (by decide) rfl (Nat.le_of_ble_eq_true rfl) (fun p e s m below meth c A hsz C hin => ?_)
  refine KW.loc (lv' := [(0, .ref (q 0)), (1, .int ox), (2, .int (nI sk))]) [0, 1, 2] rfl ?_
  refine kw_aload_n C 0 dX6_wrongCells_0 rfl ?_
  refine kw_get (v := .ref (q 3)) (T := TX6) C 0 0 rfl rfl (by decide) (fun w h => mT (fwX6 w h)) rfl (mT wd_225) rfl dX6_wrongCells_1 ?_
  refine kw_aload_n C 0 dX6_wrongCells_4 rfl ?_
  refine kw_get (v := .ref (q 75)) (T := TX6) C 0 8 rfl rfl (by decide) (fun w h => mT (fwX6 w h)) rfl (mT wd_233) rfl dX6_wrongCells_5 ?_
  refine kw_iload_n C 1 dX6_wrongCells_8 rfl ?_
  refine kw_iload_n C 2 dX6_wrongCells_9 rfl ?_
  refine kV_v (As := [.ref (q 75), .int ox, .int (nI sk)]) (rest := []) (ws' := fun (u : Unit) => kMain y q (fun i => some (q (55 + 6 * i)), kp) ++ (kWork y (fun i => q (3 + i)) (nI W, nI H, nI N, nI D, p1, p2, p3, col, od, blk, slp) ++ kSheet (q 75) (pfP W H D blk o cl kk ox sk 0 N, pfP W H D blk o cl kk ox sk 1 N, pfP W H D blk o cl kk ox sk 2 N))) C (c_X5_proofInto l G y t (fun i => q (3 + i)) W H N D p1 p2 p3 col od blk slp o cl kk (q 75) r1 r2 r3 ox sk (by first | assumption | omega | decide) (by first | assumption | omega | decide) (by first | assumption | omega | decide) (by first | assumption | omega | decide) (by first | assumption | omega | decide) (by first | assumption | omega | decide) (by first | assumption | omega | decide) (by first | assumption | omega | decide)) (cwV 3 C.2.2.2.2.1 (goodV cT wd_435 wd_432 wd_433 wd_434 wd_42) rfl rfl rfl (by decide +kernel) ⟨by decide, by decide⟩) [3, 4, 5, 6, 7, 8, 9] [0, 1, 2] [0, 1, 2, 3, 4, 5, 6, 7, 8, 9] rfl (by decide) rfl (by decide) (by decide) (fun _ => rfl) (by decide) 3 rfl rfl rfl (Nat.le_of_ble_eq_true rfl) ⟨by decide, by decide⟩ dX6_wrongCells_10 (fun u hr_1 => ?_)
  refine kw_aload_n C 0 dX6_wrongCells_13 rfl ?_
  refine kw_get (v := .ref (q 3)) (T := TX6) C 0 0 rfl rfl (by decide) (fun w h => mT (fwX6 w h)) rfl (mT wd_225) rfl dX6_wrongCells_14 ?_
  refine kw_getN (v := .ref (q 4)) (T := TX5) C 3 4 rfl rfl (by decide) (fun w h => mT (fwX5 w h)) rfl (List.mem_of_getElem? (i := 11) rfl) rfl dX6_wrongCells_17 ?_
  refine kw_aload_n C 0 dX6_wrongCells_20 rfl ?_
  refine kw_get (v := .ref (q 75)) (T := TX6) C 0 8 rfl rfl (by decide) (fun w h => mT (fwX6 w h)) rfl (mT wd_233) rfl dX6_wrongCells_21 ?_
  refine kV_l (As := [.ref (q 75)]) (rest := []) (ws' := fun (u : Unit) => kMain y q (fun i => some (q (55 + 6 * i)), kp) ++ (kWork y (fun i => q (3 + i)) (nI W, nI H, nI N, nI D, p1, p2, p3, col, od, blk, slp) ++ kSheet (q 75) (pfP W H D blk o cl kk ox sk 0 N, pfP W H D blk o cl kk ox sk 1 N, pfP W H D blk o cl kk ox sk 2 N))) C (c_X2_unlike l G y t (q 4) p1 p2 p3 (q 75) (pfP W H D blk o cl kk ox sk 0 N) (pfP W H D blk o cl kk ox sk 1 N) (pfP W H D blk o cl kk ox sk 2 N)) (cwV 1 C.2.2.2.2.1 (goodV cT wd_449 wd_446 wd_447 wd_448 wd_43) rfl rfl rfl (by decide +kernel) ⟨by decide, by decide⟩) [4, 9] [0, 1, 2, 3, 5, 6, 7, 8] [0, 1, 2, 3, 8, 4, 5, 6, 7, 9] rfl (by decide) rfl (by decide) (by decide) (fun _ => rfl) (by decide) 4 rfl rfl rfl (Nat.le_of_ble_eq_true rfl) ⟨by decide, by decide⟩ dX6_wrongCells_24 (fun r u hr_2 => ?_)
  subst hr_2
  refine kS_i (As := [.long (((p1 ^^^ (pfP W H D blk o cl kk ox sk 0 N)) ||| (p2 ^^^ (pfP W H D blk o cl kk ox sk 1 N))) ||| (p3 ^^^ (pfP W H D blk o cl kk ox sk 2 N)))]) (rest := []) (ws' := fun (u : Unit) => kMain y q (fun i => some (q (55 + 6 * i)), kp) ++ (kWork y (fun i => q (3 + i)) (nI W, nI H, nI N, nI D, p1, p2, p3, col, od, blk, slp) ++ kSheet (q 75) (pfP W H D blk o cl kk ox sk 0 N, pfP W H D blk o cl kk ox sk 1 N, pfP W H D blk o cl kk ox sk 2 N))) C (c_J13_bitCount_95d88 l G y t (((p1 ^^^ (pfP W H D blk o cl kk ox sk 0 N)) ||| (p2 ^^^ (pfP W H D blk o cl kk ox sk 1 N))) ||| (p3 ^^^ (pfP W H D blk o cl kk ox sk 2 N)))) (va_cwS 1 C.2.2.2.2.1 (goodS cT wd_452 wd_450 wd_451 wd_52) rfl rfl rfl (by decide +kernel) ⟨by decide, by decide⟩) [] [0, 1, 2, 3, 4, 5, 6, 7, 8, 9] [0, 1, 2, 3, 4, 5, 6, 7, 8, 9] rfl (by decide) rfl (by decide) (by decide) (fun _ => rfl) (by decide) rfl (Nat.le_of_ble_eq_true rfl) ⟨by decide, by decide⟩ dX6_wrongCells_27 (fun r u hr_3 => ?_)
  subst hr_3
  refine kR_i C () dX6_wrongCells_30 ?_ rfl
  rfl

set_option maxHeartbeats 4000000 in
set_option maxRecDepth 100000 in
theorem c_X6_wrong_ok (l : Launch) (G : va_G) (y : Nat → ClassId) (t : Nat) (q : Nat → Nat) (kp : Nat → Int32) (W : Nat) (H : Nat) (N : Nat) (D : Nat) (p1 : Int64) (p2 : Int64) (p3 : Int64) (col : Nat → Int32) (od : Nat → Int32) (blk : Nat → Int64) (slp : Nat → Int32) (o : Nat → Nat) (cl : Nat → Nat) (kk : Nat → Nat) (r1 : Int64) (r2 : Int64) (r3 : Int64) (hW : W ≤ 6) (hH : H ≤ 6) (hN : N ≤ 6) (hD : D < 64) (hod : ∀ q, q < N → od q = nI (o q) ∧ o q < N) (hcol : ∀ i, i < N → col i = nI (cl i) ∧ cl i < 8) (hsl : ∀ i, i < N → slp i = nI (kk i) ∧ kk i < 9) (sz : Nat) : Met l yX6_wrong (Cond.code yX6_wrong cX6_wrong 1 (some .int) :: TG) ({ frames := 4, cells := 0, slots := 0, locals := 100 }) (va_Pc [.ref (q 0)] (PR G y t (kMain y q (fun i => some (q (55 + 6 * i)), kp) ++ (kWork y (fun i => q (3 + i)) (nI W, nI H, nI N, nI D, p1, p2, p3, col, od, blk, slp) ++ kSheet (q 75) (r1, r2, r3))) sz)) (va_Qi (fun (r : Int32) (u : Int64 × Int64 × Int64) => r = (wrL W H N D p1 p2 p3 blk o cl kk (-1) 4)) (fun (u : Int64 × Int64 × Int64) t => PO G (va_A (kMain y q (fun i => some (q (55 + 6 * i)), kp) ++ (kWork y (fun i => q (3 + i)) (nI W, nI H, nI N, nI D, p1, p2, p3, col, od, blk, slp) ++ kSheet (q 75) (r1, r2, r3))) sz) (kMain y q (fun i => some (q (55 + 6 * i)), kp) ++ (kWork y (fun i => q (3 + i)) (nI W, nI H, nI N, nI D, p1, p2, p3, col, od, blk, slp) ++ kSheet (q 75) (u.1, u.2.1, u.2.2))) t) (va_A (kMain y q (fun i => some (q (55 + 6 * i)), kp) ++ (kWork y (fun i => q (3 + i)) (nI W, nI H, nI N, nI D, p1, p2, p3, col, od, blk, slp) ++ kSheet (q 75) (r1, r2, r3))) sz)) 0 0 (va_A (kMain y q (fun i => some (q (55 + 6 * i)), kp) ++ (kWork y (fun i => q (3 + i)) (nI W, nI H, nI N, nI D, p1, p2, p3, col, od, blk, slp) ++ kSheet (q 75) (r1, r2, r3))) sz) := by
  refine kMet (cc := cX6_wrong) (maxL := 1) (ret := some .int) (Qc := fun A => va_Qi (fun (r : Int32) (u : Int64 × Int64 × Int64) => r = (wrL W H N D p1 p2 p3 blk o cl kk (-1) 4)) (fun (u : Int64 × Int64 × Int64) t => PO G A (kMain y q (fun i => some (q (55 + 6 * i)), kp) ++ (kWork y (fun i => q (3 + i)) (nI W, nI H, nI N, nI D, p1, p2, p3, col, od, blk, slp) ++ kSheet (q 75) (u.1, u.2.1, u.2.2))) t) A) (by decide) rfl (Nat.le_of_ble_eq_true rfl) (fun p e s m below meth c A hsz C hin => ?_)
  refine KW.loc (lv' := [(0, .ref (q 0))]) [0] rfl ?_
  refine kw_aload_n C 0 dX6_wrong_0 rfl ?_
  refine kw_iconst (v := (-1)) C dX6_wrong_1 (by decide) ?_
  refine kw_iconst (v := nI 4) C dX6_wrong_2 (by decide) ?_
  refine kV_i (As := [.int (-1), .int (nI 4)]) (rest := []) (ws' := fun (u : Unit) => kMain y q (fun i => some (q (55 + 6 * i)), kp) ++ (kWork y (fun i => q (3 + i)) (nI W, nI H, nI N, nI D, p1, p2, p3, col, od, blk, slp) ++ kSheet (q 75) (pfP W H D blk o cl kk (-1) 4 0 N, pfP W H D blk o cl kk (-1) 4 1 N, pfP W H D blk o cl kk (-1) 4 2 N))) C (c_X6_wrongCells l G y t q kp W H N D p1 p2 p3 col od blk slp o cl kk r1 r2 r3 (-1) 4 (by first | assumption | omega | decide) (by first | assumption | omega | decide) (by first | assumption | omega | decide) (by first | assumption | omega | decide) (by first | assumption | omega | decide) (by first | assumption | omega | decide) (by first | assumption | omega | decide) (by first | assumption | omega | decide)) (cwV 2 C.2.2.2.2.1 (goodV cT wd_431 wd_428 wd_430 wd_6 wd_41) rfl rfl rfl (by decide +kernel) ⟨by decide, by decide⟩) [0, 1, 2, 3, 4, 5, 6, 7, 8, 9] [] [0, 1, 2, 3, 4, 5, 6, 7, 8, 9] rfl (by decide) rfl (by decide) (by decide) (fun _ => rfl) (by decide) 0 rfl rfl rfl (Nat.le_of_ble_eq_true rfl) ⟨by decide, by decide⟩ dX6_wrong_3 (fun r u hr_1 => ?_)
  subst hr_1
  refine kR_i C (pfP W H D blk o cl kk (-1) 4 0 N, pfP W H D blk o cl kk (-1) 4 1 N, pfP W H D blk o cl kk (-1) 4 2 N) dX6_wrong_6 ?_ rfl
  first | rfl | trivial | (simp; done) | omega

set_option maxHeartbeats 4000000 in
set_option maxRecDepth 100000 in
theorem c_X6_swaps_bad (l : Launch) (G : va_G) (y : Nat → ClassId) (t : Nat) (q : Nat → Nat) (kp : Nat → Int32) (W : Nat) (H : Nat) (N : Nat) (D : Nat) (p1 : Int64) (p2 : Int64) (p3 : Int64) (col : Nat → Int32) (od : Nat → Int32) (blk : Nat → Int64) (slp : Nat → Int32) (i : Int32) (j : Int32) (hN : N ≤ 6) (hb : ¬ (inR i N ∧ inR j N ∧ i ≠ j)) (sz : Nat) : Met l yX6_swaps (Cond.code yX6_swaps cX6_swaps 3 (some .int) :: TG) ({ frames := 1, cells := 0, slots := 0, locals := 21 }) (va_Pc [.ref (q 0), .int i, .int j] (PR G y t (kMain y q (fun i => some (q (55 + 6 * i)), kp) ++ kWork y (fun i => q (3 + i)) (nI W, nI H, nI N, nI D, p1, p2, p3, col, od, blk, slp)) sz)) (va_Qi (fun (r : Int32) (u : Unit) => r = (-1)) (fun (u : Unit) t => PO G (va_A (kMain y q (fun i => some (q (55 + 6 * i)), kp) ++ kWork y (fun i => q (3 + i)) (nI W, nI H, nI N, nI D, p1, p2, p3, col, od, blk, slp)) sz) (kMain y q (fun i => some (q (55 + 6 * i)), kp) ++ kWork y (fun i => q (3 + i)) (nI W, nI H, nI N, nI D, p1, p2, p3, col, od, blk, slp)) t) (va_A (kMain y q (fun i => some (q (55 + 6 * i)), kp) ++ kWork y (fun i => q (3 + i)) (nI W, nI H, nI N, nI D, p1, p2, p3, col, od, blk, slp)) sz)) 0 0 (va_A (kMain y q (fun i => some (q (55 + 6 * i)), kp) ++ kWork y (fun i => q (3 + i)) (nI W, nI H, nI N, nI D, p1, p2, p3, col, od, blk, slp)) sz) := by
  refine kMet (cc := cX6_swaps) (maxL := 3) (ret := some .int) (Qc := fun A => va_Qi (fun (r : Int32) (u : Unit) => r = (-1)) (fun (u : Unit) t => PO G A (kMain y q (fun i => some (q (55 + 6 * i)), kp) ++ kWork y (fun i => q (3 + i)) (nI W, nI H, nI N, nI D, p1, p2, p3, col, od, blk, slp)) t) A) (by decide) rfl (Nat.le_of_ble_eq_true rfl) (fun p e s m below meth c A hsz C hin => ?_)
  refine KW.loc (lv' := [(0, .ref (q 0)), (1, .int i), (2, .int j)]) [0, 1, 2] rfl ?_
  refine kw_aload_n C 0 dX6_swaps_0 rfl ?_
  refine kw_get (v := .ref (q 3)) (T := TX6) C 0 0 rfl rfl (by decide) (fun w h => mT (fwX6 w h)) rfl (mT wd_225) rfl dX6_swaps_1 ?_
  refine kw_iload_n C 1 dX6_swaps_4 rfl ?_
  refine kV_i (As := [.int i]) (rest := []) (ws' := fun (u : Unit) => kMain y q (fun i => some (q (55 + 6 * i)), kp) ++ kWork y (fun i => q (3 + i)) (nI W, nI H, nI N, nI D, p1, p2, p3, col, od, blk, slp)) C (c_X5_hasInk l G y t (fun i => q (3 + i)) W H N D p1 p2 p3 col od blk slp i (by first | assumption | omega | decide)) (cwV 1 C.2.2.2.2.1 (goodV cT wd_403 wd_400 wd_401 wd_402 wd_42) rfl rfl rfl (by decide +kernel) ⟨by decide, by decide⟩) [3, 4, 5, 6, 7, 8] [0, 1, 2] [0, 1, 2, 3, 4, 5, 6, 7, 8] rfl (by decide) rfl (by decide) (by decide) (fun _ => rfl) (by decide) 3 rfl rfl rfl (Nat.le_of_ble_eq_true rfl) ⟨by decide, by decide⟩ dX6_swaps_5 (fun r u hr_1 => ?_)
  subst hr_1
  refine kw_if_eq_D (tgt := 27) C dX6_swaps_8 (by decide) (fun c_8 => ?_) (fun c_8 => ?_)
  ·
    refine kw_iconst (v := (-1)) C dX6_swaps_27 (by decide) ?_
    refine kR_i C () dX6_swaps_28 ?_ rfl
    first | rfl | trivial | (simp; done) | omega
  ·
    refine kw_aload_n C 0 dX6_swaps_11 rfl ?_
    refine kw_get (v := .ref (q 3)) (T := TX6) C 0 0 rfl rfl (by decide) (fun w h => mT (fwX6 w h)) rfl (mT wd_225) rfl dX6_swaps_12 ?_
    refine kw_iload_n C 2 dX6_swaps_15 rfl ?_
    refine kV_i (As := [.int j]) (rest := []) (ws' := fun (u : Unit) => kMain y q (fun i => some (q (55 + 6 * i)), kp) ++ kWork y (fun i => q (3 + i)) (nI W, nI H, nI N, nI D, p1, p2, p3, col, od, blk, slp)) C (c_X5_hasInk l G y t (fun i => q (3 + i)) W H N D p1 p2 p3 col od blk slp j (by first | assumption | omega | decide)) (cwV 1 C.2.2.2.2.1 (goodV cT wd_403 wd_400 wd_401 wd_402 wd_42) rfl rfl rfl (by decide +kernel) ⟨by decide, by decide⟩) [3, 4, 5, 6, 7, 8] [0, 1, 2] [0, 1, 2, 3, 4, 5, 6, 7, 8] rfl (by decide) rfl (by decide) (by decide) (fun _ => rfl) (by decide) 3 rfl rfl rfl (Nat.le_of_ble_eq_true rfl) ⟨by decide, by decide⟩ dX6_swaps_16 (fun r u hr_2 => ?_)
    subst hr_2
    refine kw_if_eq_D (tgt := 27) C dX6_swaps_19 (by decide) (fun c_19 => ?_) (fun c_19 => ?_)
    ·
      refine kw_iconst (v := (-1)) C dX6_swaps_27 (by decide) ?_
      refine kR_i C () dX6_swaps_28 ?_ rfl
      first | rfl | trivial | (simp; done) | omega
    ·
      refine kw_iload_n C 1 dX6_swaps_22 rfl ?_
      refine kw_iload_n C 2 dX6_swaps_23 rfl ?_
      refine kw_icmp_ne (tgt := 29) C dX6_swaps_24 (by decide) (fun c_24 => ?_) (fun c_24 => ?_)
      ·
        exact absurd ⟨c_8, c_19, c_24⟩ hb
      ·
        refine kw_iconst (v := (-1)) C dX6_swaps_27 (by decide) ?_
        refine kR_i C () dX6_swaps_28 ?_ rfl
        first | rfl | trivial | (simp; done) | omega

set_option maxHeartbeats 4000000 in
set_option maxRecDepth 100000 in
theorem c_X6_swaps_ok (l : Launch) (G : va_G) (y : Nat → ClassId) (t : Nat) (q : Nat → Nat) (kp : Nat → Int32) (W : Nat) (H : Nat) (N : Nat) (D : Nat) (p1 : Int64) (p2 : Int64) (p3 : Int64) (col : Nat → Int32) (od : Nat → Int32) (blk : Nat → Int64) (slp : Nat → Int32) (o : Nat → Nat) (cl : Nat → Nat) (kk : Nat → Nat) (k : Nat) (mm : Nat) (wp : Nat → TWork) (r1 : Int64) (r2 : Int64) (r3 : Int64) (ii : Nat) (jj : Nat) (qa : Nat) (qb : Nat) (hW : W ≤ 6) (hH : H ≤ 6) (hN : N ≤ 6) (hD : D < 64) (hod : ∀ q, q < N → od q = nI (o q) ∧ o q < N) (hcol : ∀ i, i < N → col i = nI (cl i) ∧ cl i < 8) (hsl : ∀ i, i < N → slp i = nI (kk i) ∧ kk i < 9) (hmm : mm ≤ 6) (hk : k < 6) (hii : ii < N) (hjj : jj < N) (hne : ii ≠ jj) (hqa : qa < N) (hoa : o qa = ii) (hua : ∀ z, z < qa → o z ≠ ii) (hqb : qb < N) (hob : o qb = jj) (hub : ∀ z, z < qb → o z ≠ jj) (sz : Nat) : Met l yX6_swaps (Cond.code yX6_swaps cX6_swaps 3 (some .int) :: TG) ({ frames := 4, cells := 0, slots := 0, locals := 100 }) (va_Pc [.ref (q 0), .int (nI ii), .int (nI jj)] (PR G y t (kMain y q (fun i => some (q (55 + 6 * i)), kp) ++ (kWork y (fun i => q (3 + i)) (nI W, nI H, nI N, nI D, p1, p2, p3, col, od, blk, slp) ++ (kSheet (q 75) (r1, r2, r3) ++ (kPast y (fun i => q (17 + i)) (nI k, nI mm, fun i => some (q (19 + 6 * i))) ++ (kWork y (fun i => q (19 + i)) (wp 0) ++ (kWork y (fun i => q (25 + i)) (wp 1) ++ (kWork y (fun i => q (31 + i)) (wp 2) ++ (kWork y (fun i => q (37 + i)) (wp 3) ++ (kWork y (fun i => q (43 + i)) (wp 4) ++ kWork y (fun i => q (49 + i)) (wp 5)))))))))) sz)) (va_Qi (fun (r : Int32) (u : Int64 × Int64 × Int64) => r = (wrL W H N D p1 p2 p3 blk (swO o qa qb ii jj) cl kk (-1) 4)) (fun (u : Int64 × Int64 × Int64) t => PO G (va_A (kMain y q (fun i => some (q (55 + 6 * i)), kp) ++ (kWork y (fun i => q (3 + i)) (nI W, nI H, nI N, nI D, p1, p2, p3, col, od, blk, slp) ++ (kSheet (q 75) (r1, r2, r3) ++ (kPast y (fun i => q (17 + i)) (nI k, nI mm, fun i => some (q (19 + 6 * i))) ++ (kWork y (fun i => q (19 + i)) (wp 0) ++ (kWork y (fun i => q (25 + i)) (wp 1) ++ (kWork y (fun i => q (31 + i)) (wp 2) ++ (kWork y (fun i => q (37 + i)) (wp 3) ++ (kWork y (fun i => q (43 + i)) (wp 4) ++ kWork y (fun i => q (49 + i)) (wp 5)))))))))) sz) (kMain y q (fun i => some (q (55 + 6 * i)), kp) ++ (kWork y (fun i => q (3 + i)) (nI W, nI H, nI N, nI D, p1, p2, p3, col, upd (upd od qa (nI jj)) qb (nI ii), blk, slp) ++ (kSheet (q 75) (u.1, u.2.1, u.2.2) ++ (kPast y (fun i => q (17 + i)) (nI ((k + 1) % 6), nI (min (mm + 1) 6), fun i => some (q (19 + 6 * i))) ++ (kWork y (fun i => q (19 + i)) (va_up wp k (nI W, nI H, nI N, nI D, p1, p2, p3, col, od, blk, slp) 0) ++ (kWork y (fun i => q (25 + i)) (va_up wp k (nI W, nI H, nI N, nI D, p1, p2, p3, col, od, blk, slp) 1) ++ (kWork y (fun i => q (31 + i)) (va_up wp k (nI W, nI H, nI N, nI D, p1, p2, p3, col, od, blk, slp) 2) ++ (kWork y (fun i => q (37 + i)) (va_up wp k (nI W, nI H, nI N, nI D, p1, p2, p3, col, od, blk, slp) 3) ++ (kWork y (fun i => q (43 + i)) (va_up wp k (nI W, nI H, nI N, nI D, p1, p2, p3, col, od, blk, slp) 4) ++ kWork y (fun i => q (49 + i)) (va_up wp k (nI W, nI H, nI N, nI D, p1, p2, p3, col, od, blk, slp) 5)))))))))) t) (va_A (kMain y q (fun i => some (q (55 + 6 * i)), kp) ++ (kWork y (fun i => q (3 + i)) (nI W, nI H, nI N, nI D, p1, p2, p3, col, od, blk, slp) ++ (kSheet (q 75) (r1, r2, r3) ++ (kPast y (fun i => q (17 + i)) (nI k, nI mm, fun i => some (q (19 + 6 * i))) ++ (kWork y (fun i => q (19 + i)) (wp 0) ++ (kWork y (fun i => q (25 + i)) (wp 1) ++ (kWork y (fun i => q (31 + i)) (wp 2) ++ (kWork y (fun i => q (37 + i)) (wp 3) ++ (kWork y (fun i => q (43 + i)) (wp 4) ++ kWork y (fun i => q (49 + i)) (wp 5)))))))))) sz)) 0 0 (va_A (kMain y q (fun i => some (q (55 + 6 * i)), kp) ++ (kWork y (fun i => q (3 + i)) (nI W, nI H, nI N, nI D, p1, p2, p3, col, od, blk, slp) ++ (kSheet (q 75) (r1, r2, r3) ++ (kPast y (fun i => q (17 + i)) (nI k, nI mm, fun i => some (q (19 + 6 * i))) ++ (kWork y (fun i => q (19 + i)) (wp 0) ++ (kWork y (fun i => q (25 + i)) (wp 1) ++ (kWork y (fun i => q (31 + i)) (wp 2) ++ (kWork y (fun i => q (37 + i)) (wp 3) ++ (kWork y (fun i => q (43 + i)) (wp 4) ++ kWork y (fun i => q (49 + i)) (wp 5)))))))))) sz) := by
  refine kMet (cc := cX6_swaps) (maxL := 3) (ret := some .int) (Qc := fun A => va_Qi (fun (r : Int32) (u : Int64 × Int64 × Int64) => r = (wrL W H N D p1 p2 p3 blk (swO o qa qb ii jj) cl kk (-1) 4)) (fun (u : Int64 × Int64 × Int64) t => PO G A (kMain y q (fun i => some (q (55 + 6 * i)), kp) ++ (kWork y (fun i => q (3 + i)) (nI W, nI H, nI N, nI D, p1, p2, p3, col, upd (upd od qa (nI jj)) qb (nI ii), blk, slp) ++ (kSheet (q 75) (u.1, u.2.1, u.2.2) ++ (kPast y (fun i => q (17 + i)) (nI ((k + 1) % 6), nI (min (mm + 1) 6), fun i => some (q (19 + 6 * i))) ++ (kWork y (fun i => q (19 + i)) (va_up wp k (nI W, nI H, nI N, nI D, p1, p2, p3, col, od, blk, slp) 0) ++ (kWork y (fun i => q (25 + i)) (va_up wp k (nI W, nI H, nI N, nI D, p1, p2, p3, col, od, blk, slp) 1) ++ (kWork y (fun i => q (31 + i)) (va_up wp k (nI W, nI H, nI N, nI D, p1, p2, p3, col, od, blk, slp) 2) ++ (kWork y (fun i => q (37 + i)) (va_up wp k (nI W, nI H, nI N, nI D, p1, p2, p3, col, od, blk, slp) 3) ++ (kWork y (fun i => q (43 + i)) (va_up wp k (nI W, nI H, nI N, nI D, p1, p2, p3, col, od, blk, slp) 4) ++ kWork y (fun i => q (49 + i)) (va_up wp k (nI W, nI H, nI N, nI D, p1, p2, p3, col, od, blk, slp) 5)))))))))) t) A) (by decide) rfl (Nat.le_of_ble_eq_true rfl) (fun p e s m below meth c A hsz C hin => ?_)
  refine KW.loc (lv' := [(0, .ref (q 0)), (1, .int (nI ii)), (2, .int (nI jj))]) [0, 1, 2] rfl ?_
  refine kw_aload_n C 0 dX6_swaps_0 rfl ?_
  refine kw_get (v := .ref (q 3)) (T := TX6) C 0 0 rfl rfl (by decide) (fun w h => mT (fwX6 w h)) rfl (mT wd_225) rfl dX6_swaps_1 ?_
  refine kw_iload_n C 1 dX6_swaps_4 rfl ?_
  refine kV_i (As := [.int (nI ii)]) (rest := []) (ws' := fun (u : Unit) => kMain y q (fun i => some (q (55 + 6 * i)), kp) ++ (kWork y (fun i => q (3 + i)) (nI W, nI H, nI N, nI D, p1, p2, p3, col, od, blk, slp) ++ (kSheet (q 75) (r1, r2, r3) ++ (kPast y (fun i => q (17 + i)) (nI k, nI mm, fun i => some (q (19 + 6 * i))) ++ (kWork y (fun i => q (19 + i)) (wp 0) ++ (kWork y (fun i => q (25 + i)) (wp 1) ++ (kWork y (fun i => q (31 + i)) (wp 2) ++ (kWork y (fun i => q (37 + i)) (wp 3) ++ (kWork y (fun i => q (43 + i)) (wp 4) ++ kWork y (fun i => q (49 + i)) (wp 5)))))))))) C (c_X5_hasInk l G y t (fun i => q (3 + i)) W H N D p1 p2 p3 col od blk slp (nI ii) (by first | assumption | omega | decide)) (cwV 1 C.2.2.2.2.1 (goodV cT wd_403 wd_400 wd_401 wd_402 wd_42) rfl rfl rfl (by decide +kernel) ⟨by decide, by decide⟩) [3, 4, 5, 6, 7, 8] [0, 1, 2, 9, 10, 11, 12, 13, 14, 15, 16, 17, 18, 19, 20, 21, 22, 23, 24, 25, 26, 27, 28, 29, 30, 31, 32, 33, 34, 35, 36, 37, 38, 39, 40, 41, 42, 43, 44, 45, 46, 47] [0, 1, 2, 42, 43, 44, 45, 46, 47, 3, 4, 5, 6, 7, 8, 9, 10, 11, 12, 13, 14, 15, 16, 17, 18, 19, 20, 21, 22, 23, 24, 25, 26, 27, 28, 29, 30, 31, 32, 33, 34, 35, 36, 37, 38, 39, 40, 41] rfl (by decide) rfl (by decide) (by decide) (fun _ => rfl) (by decide) 3 rfl rfl rfl (Nat.le_of_ble_eq_true rfl) ⟨by decide, by decide⟩ dX6_swaps_5 (fun r u hr_1 => ?_)
  subst hr_1
  refine kw_if_eq_D (tgt := 27) C dX6_swaps_8 (by decide) (fun c_8 => ?_) (fun c_8 => ?_)
  ·
    exact absurd (inR_of hii (by omega)) c_8
  ·
    refine kw_aload_n C 0 dX6_swaps_11 rfl ?_
    refine kw_get (v := .ref (q 3)) (T := TX6) C 0 0 rfl rfl (by decide) (fun w h => mT (fwX6 w h)) rfl (mT wd_225) rfl dX6_swaps_12 ?_
    refine kw_iload_n C 2 dX6_swaps_15 rfl ?_
    refine kV_i (As := [.int (nI jj)]) (rest := []) (ws' := fun (u : Unit) => kMain y q (fun i => some (q (55 + 6 * i)), kp) ++ (kWork y (fun i => q (3 + i)) (nI W, nI H, nI N, nI D, p1, p2, p3, col, od, blk, slp) ++ (kSheet (q 75) (r1, r2, r3) ++ (kPast y (fun i => q (17 + i)) (nI k, nI mm, fun i => some (q (19 + 6 * i))) ++ (kWork y (fun i => q (19 + i)) (wp 0) ++ (kWork y (fun i => q (25 + i)) (wp 1) ++ (kWork y (fun i => q (31 + i)) (wp 2) ++ (kWork y (fun i => q (37 + i)) (wp 3) ++ (kWork y (fun i => q (43 + i)) (wp 4) ++ kWork y (fun i => q (49 + i)) (wp 5)))))))))) C (c_X5_hasInk l G y t (fun i => q (3 + i)) W H N D p1 p2 p3 col od blk slp (nI jj) (by first | assumption | omega | decide)) (cwV 1 C.2.2.2.2.1 (goodV cT wd_403 wd_400 wd_401 wd_402 wd_42) rfl rfl rfl (by decide +kernel) ⟨by decide, by decide⟩) [3, 4, 5, 6, 7, 8] [0, 1, 2, 9, 10, 11, 12, 13, 14, 15, 16, 17, 18, 19, 20, 21, 22, 23, 24, 25, 26, 27, 28, 29, 30, 31, 32, 33, 34, 35, 36, 37, 38, 39, 40, 41, 42, 43, 44, 45, 46, 47] [0, 1, 2, 42, 43, 44, 45, 46, 47, 3, 4, 5, 6, 7, 8, 9, 10, 11, 12, 13, 14, 15, 16, 17, 18, 19, 20, 21, 22, 23, 24, 25, 26, 27, 28, 29, 30, 31, 32, 33, 34, 35, 36, 37, 38, 39, 40, 41] rfl (by decide) rfl (by decide) (by decide) (fun _ => rfl) (by decide) 3 rfl rfl rfl (Nat.le_of_ble_eq_true rfl) ⟨by decide, by decide⟩ dX6_swaps_16 (fun r u hr_2 => ?_)
    subst hr_2
    refine kw_if_eq_D (tgt := 27) C dX6_swaps_19 (by decide) (fun c_19 => ?_) (fun c_19 => ?_)
    ·
      exact absurd (inR_of hjj (by omega)) c_19
    ·
      refine kw_iload_n C 1 dX6_swaps_22 rfl ?_
      refine kw_iload_n C 2 dX6_swaps_23 rfl ?_
      refine kw_icmp_ne_N (tgt := 29) C (by omega) (by omega) dX6_swaps_24 (by decide) (fun c_24 => ?_) (fun c_24 => ?_)
      ·
        refine kw_aload_n C 0 dX6_swaps_29 rfl ?_
        refine kw_get (v := .ref (q 17)) (T := TX6) C 0 3 rfl rfl (by decide) (fun w h => mT (fwX6 w h)) rfl (mT wd_228) rfl dX6_swaps_30 ?_
        refine kw_aload_n C 0 dX6_swaps_33 rfl ?_
        refine kw_get (v := .ref (q 3)) (T := TX6) C 0 0 rfl rfl (by decide) (fun w h => mT (fwX6 w h)) rfl (mT wd_225) rfl dX6_swaps_34 ?_
        refine kV_v (As := [.ref (q 3)]) (rest := []) (ws' := fun (u : Unit) => kMain y q (fun i => some (q (55 + 6 * i)), kp) ++ (kWork y (fun i => q (3 + i)) (nI W, nI H, nI N, nI D, p1, p2, p3, col, od, blk, slp) ++ (kSheet (q 75) (r1, r2, r3) ++ (kPast y (fun i => q (17 + i)) (nI ((k + 1) % 6), nI (min (mm + 1) 6), fun i => some (q (19 + 6 * i))) ++ (kWork y (fun i => q (19 + i)) (va_up wp k (nI W, nI H, nI N, nI D, p1, p2, p3, col, od, blk, slp) 0) ++ (kWork y (fun i => q (25 + i)) (va_up wp k (nI W, nI H, nI N, nI D, p1, p2, p3, col, od, blk, slp) 1) ++ (kWork y (fun i => q (31 + i)) (va_up wp k (nI W, nI H, nI N, nI D, p1, p2, p3, col, od, blk, slp) 2) ++ (kWork y (fun i => q (37 + i)) (va_up wp k (nI W, nI H, nI N, nI D, p1, p2, p3, col, od, blk, slp) 3) ++ (kWork y (fun i => q (43 + i)) (va_up wp k (nI W, nI H, nI N, nI D, p1, p2, p3, col, od, blk, slp) 4) ++ kWork y (fun i => q (49 + i)) (va_up wp k (nI W, nI H, nI N, nI D, p1, p2, p3, col, od, blk, slp) 5)))))))))) C (c_X0_remember l G y t (fun i => q (17 + i)) (fun i => q (19 + i)) (fun i => q (3 + i)) wp (nI W, nI H, nI N, nI D, p1, p2, p3, col, od, blk, slp) mm k (by first | assumption | omega | decide) (by first | assumption | omega | decide)) (cwV 1 C.2.2.2.2.1 (goodV cT wd_319 wd_316 wd_317 wd_318 wd_45) rfl rfl rfl (by decide +kernel) ⟨by decide, by decide⟩) [10, 11, 12, 13, 14, 15, 16, 17, 18, 19, 20, 21, 22, 23, 24, 25, 26, 27, 28, 29, 30, 31, 32, 33, 34, 35, 36, 37, 38, 39, 40, 41, 42, 43, 44, 45, 46, 47, 3, 4, 5, 6, 7, 8] [0, 1, 2, 9] [0, 1, 2, 42, 43, 44, 45, 46, 47, 3, 4, 5, 6, 7, 8, 9, 10, 11, 12, 13, 14, 15, 16, 17, 18, 19, 20, 21, 22, 23, 24, 25, 26, 27, 28, 29, 30, 31, 32, 33, 34, 35, 36, 37, 38, 39, 40, 41] rfl (by decide) rfl (by decide) (by decide) (fun _ => rfl) (by decide) 10 rfl rfl rfl (Nat.le_of_ble_eq_true rfl) ⟨by decide, by decide⟩ dX6_swaps_37 (fun u hr_3 => ?_)
        refine kw_aload_n C 0 dX6_swaps_40 rfl ?_
        refine kw_get (v := .ref (q 3)) (T := TX6) C 0 0 rfl rfl (by decide) (fun w h => mT (fwX6 w h)) rfl (mT wd_225) rfl dX6_swaps_41 ?_
        refine kw_iload_n C 1 dX6_swaps_44 rfl ?_
        refine kw_iload_n C 2 dX6_swaps_45 rfl ?_
        refine kV_v (As := [.int (nI ii), .int (nI jj)]) (rest := []) (ws' := fun (u : Unit) => kMain y q (fun i => some (q (55 + 6 * i)), kp) ++ (kWork y (fun i => q (3 + i)) (nI W, nI H, nI N, nI D, p1, p2, p3, col, upd (upd od qa (nI jj)) qb (nI ii), blk, slp) ++ (kSheet (q 75) (r1, r2, r3) ++ (kPast y (fun i => q (17 + i)) (nI ((k + 1) % 6), nI (min (mm + 1) 6), fun i => some (q (19 + 6 * i))) ++ (kWork y (fun i => q (19 + i)) (va_up wp k (nI W, nI H, nI N, nI D, p1, p2, p3, col, od, blk, slp) 0) ++ (kWork y (fun i => q (25 + i)) (va_up wp k (nI W, nI H, nI N, nI D, p1, p2, p3, col, od, blk, slp) 1) ++ (kWork y (fun i => q (31 + i)) (va_up wp k (nI W, nI H, nI N, nI D, p1, p2, p3, col, od, blk, slp) 2) ++ (kWork y (fun i => q (37 + i)) (va_up wp k (nI W, nI H, nI N, nI D, p1, p2, p3, col, od, blk, slp) 3) ++ (kWork y (fun i => q (43 + i)) (va_up wp k (nI W, nI H, nI N, nI D, p1, p2, p3, col, od, blk, slp) 4) ++ kWork y (fun i => q (49 + i)) (va_up wp k (nI W, nI H, nI N, nI D, p1, p2, p3, col, od, blk, slp) 5)))))))))) C (c_X5_exchange l G y t (fun i => q (3 + i)) W H N D p1 p2 p3 col od blk slp o cl kk ii jj qa qb (by first | assumption | omega | decide) (by first | assumption | omega | decide) (by first | assumption | omega | decide) (by first | assumption | omega | decide) (by first | assumption | omega | decide) (by first | assumption | omega | decide) (by first | assumption | omega | decide) (by first | assumption | omega | decide) (by first | assumption | omega | decide) (by first | assumption | omega | decide)) (cwV 2 C.2.2.2.2.1 (goodV cT wd_423 wd_420 wd_421 wd_422 wd_42) rfl rfl rfl (by decide +kernel) ⟨by decide, by decide⟩) [3, 4, 5, 6, 7, 8] [0, 1, 2, 9, 10, 11, 12, 13, 14, 15, 16, 17, 18, 19, 20, 21, 22, 23, 24, 25, 26, 27, 28, 29, 30, 31, 32, 33, 34, 35, 36, 37, 38, 39, 40, 41, 42, 43, 44, 45, 46, 47] [0, 1, 2, 42, 43, 44, 45, 46, 47, 3, 4, 5, 6, 7, 8, 9, 10, 11, 12, 13, 14, 15, 16, 17, 18, 19, 20, 21, 22, 23, 24, 25, 26, 27, 28, 29, 30, 31, 32, 33, 34, 35, 36, 37, 38, 39, 40, 41] rfl (by decide) rfl (by decide) (by decide) (fun _ => rfl) (by decide) 3 rfl rfl rfl (Nat.le_of_ble_eq_true rfl) ⟨by decide, by decide⟩ dX6_swaps_46 (fun u hr_4 => ?_)
        refine kw_aload_n C 0 dX6_swaps_49 rfl ?_
        refine kw_iconst (v := (-1)) C dX6_swaps_50 (by decide) ?_
        refine kw_iconst (v := nI 4) C dX6_swaps_51 (by decide) ?_
        refine kV_i (As := [.int (-1), .int (nI 4)]) (rest := []) (ws' := fun (u : Unit) => kMain y q (fun i => some (q (55 + 6 * i)), kp) ++ (kWork y (fun i => q (3 + i)) (nI W, nI H, nI N, nI D, p1, p2, p3, col, upd (upd od qa (nI jj)) qb (nI ii), blk, slp) ++ (kSheet (q 75) (pfP W H D blk (swO o qa qb ii jj) cl kk (-1) 4 0 N, pfP W H D blk (swO o qa qb ii jj) cl kk (-1) 4 1 N, pfP W H D blk (swO o qa qb ii jj) cl kk (-1) 4 2 N) ++ (kPast y (fun i => q (17 + i)) (nI ((k + 1) % 6), nI (min (mm + 1) 6), fun i => some (q (19 + 6 * i))) ++ (kWork y (fun i => q (19 + i)) (va_up wp k (nI W, nI H, nI N, nI D, p1, p2, p3, col, od, blk, slp) 0) ++ (kWork y (fun i => q (25 + i)) (va_up wp k (nI W, nI H, nI N, nI D, p1, p2, p3, col, od, blk, slp) 1) ++ (kWork y (fun i => q (31 + i)) (va_up wp k (nI W, nI H, nI N, nI D, p1, p2, p3, col, od, blk, slp) 2) ++ (kWork y (fun i => q (37 + i)) (va_up wp k (nI W, nI H, nI N, nI D, p1, p2, p3, col, od, blk, slp) 3) ++ (kWork y (fun i => q (43 + i)) (va_up wp k (nI W, nI H, nI N, nI D, p1, p2, p3, col, od, blk, slp) 4) ++ kWork y (fun i => q (49 + i)) (va_up wp k (nI W, nI H, nI N, nI D, p1, p2, p3, col, od, blk, slp) 5)))))))))) C (c_X6_wrongCells l G y t q kp W H N D p1 p2 p3 col (upd (upd od qa (nI jj)) qb (nI ii)) blk slp (swO o qa qb ii jj) cl kk r1 r2 r3 (-1) 4 (by first | assumption | omega | decide) (by first | assumption | omega | decide) (by first | assumption | omega | decide) (by first | assumption | omega | decide) (by exact swO_ok hod hii hjj) (by first | assumption | omega | decide) (by first | assumption | omega | decide) (by first | assumption | omega | decide)) (cwV 2 C.2.2.2.2.1 (goodV cT wd_431 wd_428 wd_430 wd_6 wd_41) rfl rfl rfl (by decide +kernel) ⟨by decide, by decide⟩) [0, 1, 2, 3, 4, 5, 6, 7, 8, 9] [10, 11, 12, 13, 14, 15, 16, 17, 18, 19, 20, 21, 22, 23, 24, 25, 26, 27, 28, 29, 30, 31, 32, 33, 34, 35, 36, 37, 38, 39, 40, 41, 42, 43, 44, 45, 46, 47] [38, 39, 40, 41, 42, 43, 44, 45, 46, 47, 0, 1, 2, 3, 4, 5, 6, 7, 8, 9, 10, 11, 12, 13, 14, 15, 16, 17, 18, 19, 20, 21, 22, 23, 24, 25, 26, 27, 28, 29, 30, 31, 32, 33, 34, 35, 36, 37] rfl (by decide) rfl (by decide) (by decide) (fun _ => rfl) (by decide) 0 rfl rfl rfl (Nat.le_of_ble_eq_true rfl) ⟨by decide, by decide⟩ dX6_swaps_52 (fun r u hr_5 => ?_)
        subst hr_5
        refine kR_i C (pfP W H D blk (swO o qa qb ii jj) cl kk (-1) 4 0 N, pfP W H D blk (swO o qa qb ii jj) cl kk (-1) 4 1 N, pfP W H D blk (swO o qa qb ii jj) cl kk (-1) 4 2 N) dX6_swaps_55 ?_ rfl
        first | rfl | trivial | (simp; done) | omega
      ·
        omega

set_option maxHeartbeats 4000000 in
set_option maxRecDepth 100000 in
theorem c_X6_hurt_bad (l : Launch) (G : va_G) (y : Nat → ClassId) (t : Nat) (q : Nat → Nat) (kp : Nat → Int32) (W : Nat) (H : Nat) (N : Nat) (D : Nat) (p1 : Int64) (p2 : Int64) (p3 : Int64) (col : Nat → Int32) (od : Nat → Int32) (blk : Nat → Int64) (slp : Nat → Int32) (i : Int32) (hN : N ≤ 6) (hb : ¬ inR i N) (sz : Nat) : Met l yX6_hurt (Cond.code yX6_hurt cX6_hurt 4 (some .int) :: TG) ({ frames := 1, cells := 0, slots := 0, locals := 21 }) (va_Pc [.ref (q 0), .int i] (PR G y t (kMain y q (fun i => some (q (55 + 6 * i)), kp) ++ kWork y (fun i => q (3 + i)) (nI W, nI H, nI N, nI D, p1, p2, p3, col, od, blk, slp)) sz)) (va_Qi (fun (r : Int32) (u : Unit) => r = (-1000000)) (fun (u : Unit) t => PO G (va_A (kMain y q (fun i => some (q (55 + 6 * i)), kp) ++ kWork y (fun i => q (3 + i)) (nI W, nI H, nI N, nI D, p1, p2, p3, col, od, blk, slp)) sz) (kMain y q (fun i => some (q (55 + 6 * i)), kp) ++ kWork y (fun i => q (3 + i)) (nI W, nI H, nI N, nI D, p1, p2, p3, col, od, blk, slp)) t) (va_A (kMain y q (fun i => some (q (55 + 6 * i)), kp) ++ kWork y (fun i => q (3 + i)) (nI W, nI H, nI N, nI D, p1, p2, p3, col, od, blk, slp)) sz)) 0 0 (va_A (kMain y q (fun i => some (q (55 + 6 * i)), kp) ++ kWork y (fun i => q (3 + i)) (nI W, nI H, nI N, nI D, p1, p2, p3, col, od, blk, slp)) sz) := by
  refine kMet (cc := cX6_hurt) (maxL := 4) (ret := some .int) (Qc := fun A => va_Qi (fun (r : Int32) (u : Unit) => r = (-1000000)) (fun (u : Unit) t => PO G A (kMain y q (fun i => some (q (55 + 6 * i)), kp) ++ kWork y (fun i => q (3 + i)) (nI W, nI H, nI N, nI D, p1, p2, p3, col, od, blk, slp)) t) A) (by decide) rfl (Nat.le_of_ble_eq_true rfl) (fun p e s m below meth c A hsz C hin => ?_)
  refine KW.loc (lv' := [(0, .ref (q 0)), (1, .int i)]) [0, 1] rfl ?_
  refine kw_aload_n C 0 dX6_hurt_0 rfl ?_
  refine kw_get (v := .ref (q 3)) (T := TX6) C 0 0 rfl rfl (by decide) (fun w h => mT (fwX6 w h)) rfl (mT wd_225) rfl dX6_hurt_1 ?_
  refine kw_iload_n C 1 dX6_hurt_4 rfl ?_
  refine kV_i (As := [.int i]) (rest := []) (ws' := fun (u : Unit) => kMain y q (fun i => some (q (55 + 6 * i)), kp) ++ kWork y (fun i => q (3 + i)) (nI W, nI H, nI N, nI D, p1, p2, p3, col, od, blk, slp)) C (c_X5_hasInk l G y t (fun i => q (3 + i)) W H N D p1 p2 p3 col od blk slp i (by first | assumption | omega | decide)) (cwV 1 C.2.2.2.2.1 (goodV cT wd_403 wd_400 wd_401 wd_402 wd_42) rfl rfl rfl (by decide +kernel) ⟨by decide, by decide⟩) [3, 4, 5, 6, 7, 8] [0, 1, 2] [0, 1, 2, 3, 4, 5, 6, 7, 8] rfl (by decide) rfl (by decide) (by decide) (fun _ => rfl) (by decide) 3 rfl rfl rfl (Nat.le_of_ble_eq_true rfl) ⟨by decide, by decide⟩ dX6_hurt_5 (fun r u hr_1 => ?_)
  subst hr_1
  refine kw_if_ne_D (tgt := 14) C dX6_hurt_8 (by decide) (fun c_8 => ?_) (fun c_8 => ?_)
  ·
    exact absurd c_8 hb
  ·
    refine kw_ldc (v := (-1000000)) C (mT wd_482) dX6_hurt_11 ?_
    refine kR_i C () dX6_hurt_13 ?_ rfl
    first | rfl | trivial | (simp; done) | omega

set_option maxHeartbeats 4000000 in
set_option maxRecDepth 100000 in
theorem c_X6_hurt_ok (l : Launch) (G : va_G) (y : Nat → ClassId) (t : Nat) (q : Nat → Nat) (kp : Nat → Int32) (W : Nat) (H : Nat) (N : Nat) (D : Nat) (p1 : Int64) (p2 : Int64) (p3 : Int64) (col : Nat → Int32) (od : Nat → Int32) (blk : Nat → Int64) (slp : Nat → Int32) (o : Nat → Nat) (cl : Nat → Nat) (kk : Nat → Nat) (r1 : Int64) (r2 : Int64) (r3 : Int64) (ii : Nat) (hW : W ≤ 6) (hH : H ≤ 6) (hN : N ≤ 6) (hD : D < 64) (hod : ∀ q, q < N → od q = nI (o q) ∧ o q < N) (hcol : ∀ i, i < N → col i = nI (cl i) ∧ cl i < 8) (hsl : ∀ i, i < N → slp i = nI (kk i) ∧ kk i < 9) (hii : ii < N) (sz : Nat) : Met l yX6_hurt (Cond.code yX6_hurt cX6_hurt 4 (some .int) :: TG) ({ frames := 4, cells := 0, slots := 0, locals := 100 }) (va_Pc [.ref (q 0), .int (nI ii)] (PR G y t (kMain y q (fun i => some (q (55 + 6 * i)), kp) ++ (kWork y (fun i => q (3 + i)) (nI W, nI H, nI N, nI D, p1, p2, p3, col, od, blk, slp) ++ kSheet (q 75) (r1, r2, r3))) sz)) (va_Qi (fun (r : Int32) (u : Int64 × Int64 × Int64) => r = (wrL W H N D p1 p2 p3 blk o cl kk (nI ii) (fur (kk ii)) - wrL W H N D p1 p2 p3 blk o cl kk (-1) 4)) (fun (u : Int64 × Int64 × Int64) t => PO G (va_A (kMain y q (fun i => some (q (55 + 6 * i)), kp) ++ (kWork y (fun i => q (3 + i)) (nI W, nI H, nI N, nI D, p1, p2, p3, col, od, blk, slp) ++ kSheet (q 75) (r1, r2, r3))) sz) (kMain y q (fun i => some (q (55 + 6 * i)), kp) ++ (kWork y (fun i => q (3 + i)) (nI W, nI H, nI N, nI D, p1, p2, p3, col, od, blk, slp) ++ kSheet (q 75) (u.1, u.2.1, u.2.2))) t) (va_A (kMain y q (fun i => some (q (55 + 6 * i)), kp) ++ (kWork y (fun i => q (3 + i)) (nI W, nI H, nI N, nI D, p1, p2, p3, col, od, blk, slp) ++ kSheet (q 75) (r1, r2, r3))) sz)) 0 0 (va_A (kMain y q (fun i => some (q (55 + 6 * i)), kp) ++ (kWork y (fun i => q (3 + i)) (nI W, nI H, nI N, nI D, p1, p2, p3, col, od, blk, slp) ++ kSheet (q 75) (r1, r2, r3))) sz) := by
  refine kMet (cc := cX6_hurt) (maxL := 4) (ret := some .int) (Qc := fun A => va_Qi (fun (r : Int32) (u : Int64 × Int64 × Int64) => r = (wrL W H N D p1 p2 p3 blk o cl kk (nI ii) (fur (kk ii)) - wrL W H N D p1 p2 p3 blk o cl kk (-1) 4)) (fun (u : Int64 × Int64 × Int64) t => PO G A (kMain y q (fun i => some (q (55 + 6 * i)), kp) ++ (kWork y (fun i => q (3 + i)) (nI W, nI H, nI N, nI D, p1, p2, p3, col, od, blk, slp) ++ kSheet (q 75) (u.1, u.2.1, u.2.2))) t) A) (by decide) rfl (Nat.le_of_ble_eq_true rfl) (fun p e s m below meth c A hsz C hin => ?_)
  refine KW.loc (lv' := [(0, .ref (q 0)), (1, .int (nI ii))]) [0, 1] rfl ?_
  refine kw_aload_n C 0 dX6_hurt_0 rfl ?_
  refine kw_get (v := .ref (q 3)) (T := TX6) C 0 0 rfl rfl (by decide) (fun w h => mT (fwX6 w h)) rfl (mT wd_225) rfl dX6_hurt_1 ?_
  refine kw_iload_n C 1 dX6_hurt_4 rfl ?_
  refine kV_i (As := [.int (nI ii)]) (rest := []) (ws' := fun (u : Unit) => kMain y q (fun i => some (q (55 + 6 * i)), kp) ++ (kWork y (fun i => q (3 + i)) (nI W, nI H, nI N, nI D, p1, p2, p3, col, od, blk, slp) ++ kSheet (q 75) (r1, r2, r3))) C (c_X5_hasInk l G y t (fun i => q (3 + i)) W H N D p1 p2 p3 col od blk slp (nI ii) (by first | assumption | omega | decide)) (cwV 1 C.2.2.2.2.1 (goodV cT wd_403 wd_400 wd_401 wd_402 wd_42) rfl rfl rfl (by decide +kernel) ⟨by decide, by decide⟩) [3, 4, 5, 6, 7, 8] [0, 1, 2, 9] [0, 1, 2, 4, 5, 6, 7, 8, 9, 3] rfl (by decide) rfl (by decide) (by decide) (fun _ => rfl) (by decide) 3 rfl rfl rfl (Nat.le_of_ble_eq_true rfl) ⟨by decide, by decide⟩ dX6_hurt_5 (fun r u hr_1 => ?_)
  subst hr_1
  refine kw_if_ne_D (tgt := 14) C dX6_hurt_8 (by decide) (fun c_8 => ?_) (fun c_8 => ?_)
  ·
    refine kw_aload_n C 0 dX6_hurt_14 rfl ?_
    refine kw_get (v := .ref (q 3)) (T := TX6) C 0 0 rfl rfl (by decide) (fun w h => mT (fwX6 w h)) rfl (mT wd_225) rfl dX6_hurt_15 ?_
    refine kw_getN (v := .ref (q 8)) (T := TX5) C 3 8 rfl rfl (by decide) (fun w h => mT (fwX5 w h)) rfl (List.mem_of_getElem? (i := 15) rfl) rfl dX6_hurt_18 ?_
    refine kw_iload_n C 1 dX6_hurt_21 rfl ?_
    refine kw_iald (f := slp) C 8 rfl (by omega) (by decide) dX6_hurt_22 ?_
    refine kw_top (show (slp ii) = (nI (kk ii)) from by exact (hsl ii hii).1) ?_
    have hk9 := (hsl ii hii).2
    refine kS_i (As := [.int (nI (kk ii))]) (rest := []) (ws' := fun (u : Unit) => kMain y q (fun i => some (q (55 + 6 * i)), kp) ++ (kWork y (fun i => q (3 + i)) (nI W, nI H, nI N, nI D, p1, p2, p3, col, od, blk, slp) ++ kSheet (q 75) (r1, r2, r3))) C (c_X6_dxOf l G y t (kk ii) (by first | assumption | omega | decide)) (va_cwS 1 C.2.2.2.2.1 (goodS cT wd_444 wd_442 wd_443 wd_41) rfl rfl rfl (by decide +kernel) ⟨by decide, by decide⟩) [] [0, 1, 2, 3, 4, 5, 6, 7, 8, 9] [0, 1, 2, 3, 4, 5, 6, 7, 8, 9] rfl (by decide) rfl (by decide) (by decide) (fun _ => rfl) (by decide) rfl (Nat.le_of_ble_eq_true rfl) ⟨by decide, by decide⟩ dX6_hurt_23 (fun r u hr_2 => ?_)
    subst hr_2
    refine kw_istore_n C [(2, .int (nI ((kk ii) % 3) - nI 1)), (0, .ref (q 0)), (1, .int (nI ii))] dX6_hurt_26 rfl (by decide) rfl ?_
    refine kw_iload_n C 0 dX6_hurt_27 rfl ?_
    refine kw_iconst (v := nI 1) C dX6_hurt_28 (by decide) ?_
    have J39_3 : ∀ (_ : Unit), KW p l e ({ frames := 4, cells := 0, slots := 0, locals := 100 }) s m ([.ref (q 0), .int (nI ii)] : List Value).toArray below meth c 0 0 (MQ below (va_Qi (fun (r : Int32) (u : Int64 × Int64 × Int64) => r = (wrL W H N D p1 p2 p3 blk o cl kk (nI ii) (fur (kk ii)) - wrL W H N D p1 p2 p3 blk o cl kk (-1) 4)) (fun (u : Int64 × Int64 × Int64) t => PO G A (kMain y q (fun i => some (q (55 + 6 * i)), kp) ++ (kWork y (fun i => q (3 + i)) (nI W, nI H, nI N, nI D, p1, p2, p3, col, od, blk, slp) ++ kSheet (q 75) (u.1, u.2.1, u.2.2))) t) A) ([.ref (q 0), .int (nI ii)] : List Value).toArray s 0 0 A) G A 4 (kMain y q (fun i => some (q (55 + 6 * i)), kp) ++ (kWork y (fun i => q (3 + i)) (nI W, nI H, nI N, nI D, p1, p2, p3, col, od, blk, slp) ++ kSheet (q 75) (r1, r2, r3))) [(2, .int (nI ((kk ii) % 3) - nI 1)), (0, .ref (q 0)), (1, .int (nI ii))] 39 [.int (if nI (kk ii % 3) - nI 1 = nI 1 then nI 0 else (nI (kk ii % 3) - nI 1) + nI 1)] := by
      intro _
      refine kw_aload_n C 1 dX6_hurt_39 rfl ?_
      refine kw_get (v := .ref (q 3)) (T := TX6) C 0 0 rfl rfl (by decide) (fun w h => mT (fwX6 w h)) rfl (mT wd_225) rfl dX6_hurt_40 ?_
      refine kw_getN (v := .ref (q 8)) (T := TX5) C 3 8 rfl rfl (by decide) (fun w h => mT (fwX5 w h)) rfl (List.mem_of_getElem? (i := 15) rfl) rfl dX6_hurt_43 ?_
      refine kw_iload_n C 2 dX6_hurt_46 rfl ?_
      refine kw_iald (f := slp) C 8 rfl (by omega) (by decide) dX6_hurt_47 ?_
      refine kw_top (show (slp ii) = (nI (kk ii)) from by exact (hsl ii hii).1) ?_
      refine kS_i (As := [.int (nI (kk ii))]) (rest := [.int (if nI (kk ii % 3) - nI 1 = nI 1 then nI 0 else (nI (kk ii % 3) - nI 1) + nI 1)]) (ws' := fun (u : Unit) => kMain y q (fun i => some (q (55 + 6 * i)), kp) ++ (kWork y (fun i => q (3 + i)) (nI W, nI H, nI N, nI D, p1, p2, p3, col, od, blk, slp) ++ kSheet (q 75) (r1, r2, r3))) C (c_X6_dyOf l G y t (kk ii) (by first | assumption | omega | decide)) (va_cwS 1 C.2.2.2.2.1 (goodS cT wd_441 wd_439 wd_440 wd_41) rfl rfl rfl (by decide +kernel) ⟨by decide, by decide⟩) [] [0, 1, 2, 3, 4, 5, 6, 7, 8, 9] [0, 1, 2, 3, 4, 5, 6, 7, 8, 9] rfl (by decide) rfl (by decide) (by decide) (fun _ => rfl) (by decide) rfl (Nat.le_of_ble_eq_true rfl) ⟨by decide, by decide⟩ dX6_hurt_48 (fun r u hr_4 => ?_)
      subst hr_4
      refine kS_i (As := [.int (if nI (kk ii % 3) - nI 1 = nI 1 then nI 0 else (nI (kk ii % 3) - nI 1) + nI 1), .int (nI ((kk ii) / 3) - nI 1)]) (rest := []) (ws' := fun (u : Unit) => kMain y q (fun i => some (q (55 + 6 * i)), kp) ++ (kWork y (fun i => q (3 + i)) (nI W, nI H, nI N, nI D, p1, p2, p3, col, od, blk, slp) ++ kSheet (q 75) (r1, r2, r3))) C (c_X6_slipOf l G y t (if nI (kk ii % 3) - nI 1 = nI 1 then nI 0 else (nI (kk ii % 3) - nI 1) + nI 1) (nI ((kk ii) / 3) - nI 1)) (va_cwS 2 C.2.2.2.2.1 (goodS cT wd_415 wd_413 wd_414 wd_41) rfl rfl rfl (by decide +kernel) ⟨by decide, by decide⟩) [] [0, 1, 2, 3, 4, 5, 6, 7, 8, 9] [0, 1, 2, 3, 4, 5, 6, 7, 8, 9] rfl (by decide) rfl (by decide) (by decide) (fun _ => rfl) (by decide) rfl (Nat.le_of_ble_eq_true rfl) ⟨by decide, by decide⟩ dX6_hurt_51 (fun r u hr_5 => ?_)
      subst hr_5
      refine kw_top (show (nI 3 * ((nI ((kk ii) / 3) - nI 1) + nI 1) + (if nI (kk ii % 3) - nI 1 = nI 1 then nI 0 else (nI (kk ii % 3) - nI 1) + nI 1) + nI 1) = (nI (fur (kk ii))) from by exact fur_eq _ hk9) ?_
      have hf9 := fur_lt _ hk9
      refine kw_istore_n C [(3, .int (nI (fur (kk ii)))), (2, .int (nI ((kk ii) % 3) - nI 1)), (0, .ref (q 0)), (1, .int (nI ii))] dX6_hurt_54 rfl (by decide) rfl ?_
      refine kw_aload_n C 2 dX6_hurt_55 rfl ?_
      refine kw_iload_n C 3 dX6_hurt_56 rfl ?_
      refine kw_iload_n C 0 dX6_hurt_57 rfl ?_
      refine kV_i (As := [.int (nI ii), .int (nI (fur (kk ii)))]) (rest := []) (ws' := fun (u : Unit) => kMain y q (fun i => some (q (55 + 6 * i)), kp) ++ (kWork y (fun i => q (3 + i)) (nI W, nI H, nI N, nI D, p1, p2, p3, col, od, blk, slp) ++ kSheet (q 75) (pfP W H D blk o cl kk (nI ii) (fur (kk ii)) 0 N, pfP W H D blk o cl kk (nI ii) (fur (kk ii)) 1 N, pfP W H D blk o cl kk (nI ii) (fur (kk ii)) 2 N))) C (c_X6_wrongCells l G y t q kp W H N D p1 p2 p3 col od blk slp o cl kk r1 r2 r3 (nI ii) (fur (kk ii)) (by first | assumption | omega | decide) (by first | assumption | omega | decide) (by first | assumption | omega | decide) (by first | assumption | omega | decide) (by first | assumption | omega | decide) (by first | assumption | omega | decide) (by first | assumption | omega | decide) (by first | assumption | omega | decide)) (cwV 2 C.2.2.2.2.1 (goodV cT wd_431 wd_428 wd_430 wd_6 wd_41) rfl rfl rfl (by decide +kernel) ⟨by decide, by decide⟩) [0, 1, 2, 3, 4, 5, 6, 7, 8, 9] [] [0, 1, 2, 3, 4, 5, 6, 7, 8, 9] rfl (by decide) rfl (by decide) (by decide) (fun _ => rfl) (by decide) 0 rfl rfl rfl (Nat.le_of_ble_eq_true rfl) ⟨by decide, by decide⟩ dX6_hurt_58 (fun r u hr_6 => ?_)
      subst hr_6
      refine kw_aload_n C 2 dX6_hurt_61 rfl ?_
      refine kw_iconst (v := (-1)) C dX6_hurt_62 (by decide) ?_
      refine kw_iconst (v := nI 4) C dX6_hurt_63 (by decide) ?_
      refine kV_i (As := [.int (-1), .int (nI 4)]) (rest := [.int (wrL W H N D p1 p2 p3 blk o cl kk (nI ii) (fur (kk ii)))]) (ws' := fun (u : Unit) => kMain y q (fun i => some (q (55 + 6 * i)), kp) ++ (kWork y (fun i => q (3 + i)) (nI W, nI H, nI N, nI D, p1, p2, p3, col, od, blk, slp) ++ kSheet (q 75) (pfP W H D blk o cl kk (-1) 4 0 N, pfP W H D blk o cl kk (-1) 4 1 N, pfP W H D blk o cl kk (-1) 4 2 N))) C (c_X6_wrongCells l G y t q kp W H N D p1 p2 p3 col od blk slp o cl kk (pfP W H D blk o cl kk (nI ii) (fur (kk ii)) 0 N) (pfP W H D blk o cl kk (nI ii) (fur (kk ii)) 1 N) (pfP W H D blk o cl kk (nI ii) (fur (kk ii)) 2 N) (-1) 4 (by first | assumption | omega | decide) (by first | assumption | omega | decide) (by first | assumption | omega | decide) (by first | assumption | omega | decide) (by first | assumption | omega | decide) (by first | assumption | omega | decide) (by first | assumption | omega | decide) (by first | assumption | omega | decide)) (cwV 2 C.2.2.2.2.1 (goodV cT wd_431 wd_428 wd_430 wd_6 wd_41) rfl rfl rfl (by decide +kernel) ⟨by decide, by decide⟩) [0, 1, 2, 3, 4, 5, 6, 7, 8, 9] [] [0, 1, 2, 3, 4, 5, 6, 7, 8, 9] rfl (by decide) rfl (by decide) (by decide) (fun _ => rfl) (by decide) 0 rfl rfl rfl (Nat.le_of_ble_eq_true rfl) ⟨by decide, by decide⟩ dX6_hurt_64 (fun r u hr_7 => ?_)
      subst hr_7
      refine kw_isub C dX6_hurt_67 ?_
      refine kR_i C (pfP W H D blk o cl kk (-1) 4 0 N, pfP W H D blk o cl kk (-1) 4 1 N, pfP W H D blk o cl kk (-1) 4 2 N) dX6_hurt_68 ?_ rfl
      first | rfl | trivial | (simp; done) | omega
    refine kw_icmp_ne (tgt := 36) C dX6_hurt_29 (by decide) (fun c_29 => ?_) (fun c_29 => ?_)
    ·
      refine kw_iload_n C 0 dX6_hurt_36 rfl ?_
      refine kw_iconst (v := nI 1) C dX6_hurt_37 (by decide) ?_
      refine kw_iadd C dX6_hurt_38 ?_
      refine KW.loc (lv' := [(2, .int (nI ((kk ii) % 3) - nI 1)), (0, .ref (q 0)), (1, .int (nI ii))]) [0, 1, 2] rfl ?_
      refine KW.ass (congrArg (fun zz => ([.int zz] : List Value)) (show ((nI ((kk ii) % 3) - nI 1) + (nI 1)) = (if nI (kk ii % 3) - nI 1 = nI 1 then nI 0 else (nI (kk ii % 3) - nI 1) + nI 1) from by first | (rw [if_pos c_29]; done) | (rw [if_neg c_29]; done))) ?_
      exact J39_3 ()
    ·
      refine kw_iconst (v := nI 0) C dX6_hurt_32 (by decide) ?_
      refine kw_goto (tgt := 39) C dX6_hurt_33 (by decide) ?_
      refine KW.loc (lv' := [(2, .int (nI ((kk ii) % 3) - nI 1)), (0, .ref (q 0)), (1, .int (nI ii))]) [0, 1, 2] rfl ?_
      refine KW.ass (congrArg (fun zz => ([.int zz] : List Value)) (show (nI 0) = (if nI (kk ii % 3) - nI 1 = nI 1 then nI 0 else (nI (kk ii % 3) - nI 1) + nI 1) from by first | (rw [if_pos c_29]; done) | (rw [if_neg c_29]; done))) ?_
      exact J39_3 ()
  ·
    exact absurd (inR_of hii (by omega)) c_8

set_option maxHeartbeats 4000000 in
set_option maxRecDepth 100000 in
theorem c_X6_cell_bad (l : Launch) (G : va_G) (y : Nat → ClassId) (t : Nat) (q : Nat → Nat) (kp : Nat → Int32) (W : Nat) (H : Nat) (N : Nat) (D : Nat) (p1 : Int64) (p2 : Int64) (p3 : Int64) (col : Nat → Int32) (od : Nat → Int32) (blk : Nat → Int64) (slp : Nat → Int32) (x : Int32) (z : Int32) (wh : Int32) (hW : W ≤ 6) (hH : H ≤ 6) (hb : ¬ (inR x W ∧ inR z H)) (sz : Nat) : Met l yX6_cell (Cond.code yX6_cell cX6_cell 4 (some .int) :: TG) ({ frames := 1, cells := 0, slots := 0, locals := 22 }) (va_Pc [.ref (q 0), .int x, .int z, .int wh] (PR G y t (kMain y q (fun i => some (q (55 + 6 * i)), kp) ++ kWork y (fun i => q (3 + i)) (nI W, nI H, nI N, nI D, p1, p2, p3, col, od, blk, slp)) sz)) (va_Qi (fun (r : Int32) (u : Unit) => r = (-1)) (fun (u : Unit) t => PO G (va_A (kMain y q (fun i => some (q (55 + 6 * i)), kp) ++ kWork y (fun i => q (3 + i)) (nI W, nI H, nI N, nI D, p1, p2, p3, col, od, blk, slp)) sz) (kMain y q (fun i => some (q (55 + 6 * i)), kp) ++ kWork y (fun i => q (3 + i)) (nI W, nI H, nI N, nI D, p1, p2, p3, col, od, blk, slp)) t) (va_A (kMain y q (fun i => some (q (55 + 6 * i)), kp) ++ kWork y (fun i => q (3 + i)) (nI W, nI H, nI N, nI D, p1, p2, p3, col, od, blk, slp)) sz)) 0 0 (va_A (kMain y q (fun i => some (q (55 + 6 * i)), kp) ++ kWork y (fun i => q (3 + i)) (nI W, nI H, nI N, nI D, p1, p2, p3, col, od, blk, slp)) sz) := by
  refine kMet (cc := cX6_cell) (maxL := 4) (ret := some .int) (Qc := fun A => va_Qi (fun (r : Int32) (u : Unit) => r = (-1)) (fun (u : Unit) t => PO G A (kMain y q (fun i => some (q (55 + 6 * i)), kp) ++ kWork y (fun i => q (3 + i)) (nI W, nI H, nI N, nI D, p1, p2, p3, col, od, blk, slp)) t) A) (by decide) rfl (Nat.le_of_ble_eq_true rfl) (fun p e s m below meth c A hsz C hin => ?_)
  refine KW.loc (lv' := [(0, .ref (q 0)), (1, .int x), (2, .int z), (3, .int wh)]) [0, 1, 2, 3] rfl ?_
  refine kw_aload_n C 0 dX6_cell_0 rfl ?_
  refine kw_get (v := .ref (q 3)) (T := TX6) C 0 0 rfl rfl (by decide) (fun w h => mT (fwX6 w h)) rfl (mT wd_225) rfl dX6_cell_1 ?_
  refine kw_iload_n C 1 dX6_cell_4 rfl ?_
  refine kw_iload_n C 2 dX6_cell_5 rfl ?_
  refine kV_i (As := [.int x, .int z]) (rest := []) (ws' := fun (u : Unit) => kMain y q (fun i => some (q (55 + 6 * i)), kp) ++ kWork y (fun i => q (3 + i)) (nI W, nI H, nI N, nI D, p1, p2, p3, col, od, blk, slp)) C (c_X5_hasCell l G y t (fun i => q (3 + i)) W H N D p1 p2 p3 col od blk slp x z (by first | assumption | omega | decide) (by first | assumption | omega | decide)) (cwV 2 C.2.2.2.2.1 (goodV cT wd_407 wd_404 wd_405 wd_406 wd_42) rfl rfl rfl (by decide +kernel) ⟨by decide, by decide⟩) [3, 4, 5, 6, 7, 8] [0, 1, 2] [0, 1, 2, 3, 4, 5, 6, 7, 8] rfl (by decide) rfl (by decide) (by decide) (fun _ => rfl) (by decide) 3 rfl rfl rfl (Nat.le_of_ble_eq_true rfl) ⟨by decide, by decide⟩ dX6_cell_6 (fun r u hr_1 => ?_)
  subst hr_1
  refine kw_if_ne_D (tgt := 14) C dX6_cell_9 (by decide) (fun c_9 => ?_) (fun c_9 => ?_)
  ·
    exact absurd c_9 hb
  ·
    refine kw_iconst (v := (-1)) C dX6_cell_12 (by decide) ?_
    refine kR_i C () dX6_cell_13 ?_ rfl
    first | rfl | trivial | (simp; done) | omega

set_option maxHeartbeats 4000000 in
set_option maxRecDepth 100000 in
theorem c_X6_cell_wbad (l : Launch) (G : va_G) (y : Nat → ClassId) (t : Nat) (q : Nat → Nat) (kp : Nat → Int32) (W : Nat) (H : Nat) (N : Nat) (D : Nat) (p1 : Int64) (p2 : Int64) (p3 : Int64) (col : Nat → Int32) (od : Nat → Int32) (blk : Nat → Int64) (slp : Nat → Int32) (xx : Nat) (zz : Nat) (wh : Int32) (hW : W ≤ 6) (hH : H ≤ 6) (hxx : xx < W) (hzz : zz < H) (w0 : ¬ wh = 0) (w1 : ¬ wh = 1) (w2 : ¬ wh = 2) (sz : Nat) : Met l yX6_cell (Cond.code yX6_cell cX6_cell 4 (some .int) :: TG) ({ frames := 1, cells := 0, slots := 0, locals := 22 }) (va_Pc [.ref (q 0), .int (nI xx), .int (nI zz), .int wh] (PR G y t (kMain y q (fun i => some (q (55 + 6 * i)), kp) ++ kWork y (fun i => q (3 + i)) (nI W, nI H, nI N, nI D, p1, p2, p3, col, od, blk, slp)) sz)) (va_Qi (fun (r : Int32) (u : Unit) => r = (-1)) (fun (u : Unit) t => PO G (va_A (kMain y q (fun i => some (q (55 + 6 * i)), kp) ++ kWork y (fun i => q (3 + i)) (nI W, nI H, nI N, nI D, p1, p2, p3, col, od, blk, slp)) sz) (kMain y q (fun i => some (q (55 + 6 * i)), kp) ++ kWork y (fun i => q (3 + i)) (nI W, nI H, nI N, nI D, p1, p2, p3, col, od, blk, slp)) t) (va_A (kMain y q (fun i => some (q (55 + 6 * i)), kp) ++ kWork y (fun i => q (3 + i)) (nI W, nI H, nI N, nI D, p1, p2, p3, col, od, blk, slp)) sz)) 0 0 (va_A (kMain y q (fun i => some (q (55 + 6 * i)), kp) ++ kWork y (fun i => q (3 + i)) (nI W, nI H, nI N, nI D, p1, p2, p3, col, od, blk, slp)) sz) := by
  refine kMet (cc := cX6_cell) (maxL := 4) (ret := some .int) (Qc := fun A => va_Qi (fun (r : Int32) (u : Unit) => r = (-1)) (fun (u : Unit) t => PO G A (kMain y q (fun i => some (q (55 + 6 * i)), kp) ++ kWork y (fun i => q (3 + i)) (nI W, nI H, nI N, nI D, p1, p2, p3, col, od, blk, slp)) t) A) (by decide) rfl (Nat.le_of_ble_eq_true rfl) (fun p e s m below meth c A hsz C hin => ?_)
  refine KW.loc (lv' := [(0, .ref (q 0)), (1, .int (nI xx)), (2, .int (nI zz)), (3, .int wh)]) [0, 1, 2, 3] rfl ?_
  refine kw_aload_n C 0 dX6_cell_0 rfl ?_
  refine kw_get (v := .ref (q 3)) (T := TX6) C 0 0 rfl rfl (by decide) (fun w h => mT (fwX6 w h)) rfl (mT wd_225) rfl dX6_cell_1 ?_
  refine kw_iload_n C 1 dX6_cell_4 rfl ?_
  refine kw_iload_n C 2 dX6_cell_5 rfl ?_
  refine kV_i (As := [.int (nI xx), .int (nI zz)]) (rest := []) (ws' := fun (u : Unit) => kMain y q (fun i => some (q (55 + 6 * i)), kp) ++ kWork y (fun i => q (3 + i)) (nI W, nI H, nI N, nI D, p1, p2, p3, col, od, blk, slp)) C (c_X5_hasCell l G y t (fun i => q (3 + i)) W H N D p1 p2 p3 col od blk slp (nI xx) (nI zz) (by first | assumption | omega | decide) (by first | assumption | omega | decide)) (cwV 2 C.2.2.2.2.1 (goodV cT wd_407 wd_404 wd_405 wd_406 wd_42) rfl rfl rfl (by decide +kernel) ⟨by decide, by decide⟩) [3, 4, 5, 6, 7, 8] [0, 1, 2] [0, 1, 2, 3, 4, 5, 6, 7, 8] rfl (by decide) rfl (by decide) (by decide) (fun _ => rfl) (by decide) 3 rfl rfl rfl (Nat.le_of_ble_eq_true rfl) ⟨by decide, by decide⟩ dX6_cell_6 (fun r u hr_1 => ?_)
  subst hr_1
  refine kw_if_ne_D (tgt := 14) C dX6_cell_9 (by decide) (fun c_9 => ?_) (fun c_9 => ?_)
  ·
    refine kw_iload_n C 3 dX6_cell_14 rfl ?_
    refine kw_tabOut (tgt := 86) C dX6_cell_15 (sw_out3 w0 w1 w2) (by decide) ?_
    refine kw_iconst (v := (-1)) C dX6_cell_86 (by decide) ?_
    refine kR_i C () dX6_cell_87 ?_ rfl
    first | rfl | trivial | (simp; done) | omega
  ·
    exact absurd ⟨inR_of hxx (by omega), inR_of hzz (by omega)⟩ c_9

set_option maxHeartbeats 4000000 in
set_option maxRecDepth 100000 in
theorem c_X6_cell_0 (l : Launch) (G : va_G) (y : Nat → ClassId) (t : Nat) (q : Nat → Nat) (kp : Nat → Int32) (W : Nat) (H : Nat) (N : Nat) (D : Nat) (p1 : Int64) (p2 : Int64) (p3 : Int64) (col : Nat → Int32) (od : Nat → Int32) (blk : Nat → Int64) (slp : Nat → Int32) (xx : Nat) (zz : Nat) (hW : W ≤ 6) (hH : H ≤ 6) (hxx : xx < W) (hzz : zz < H) (sz : Nat) : Met l yX6_cell (Cond.code yX6_cell cX6_cell 4 (some .int) :: TG) ({ frames := 2, cells := 0, slots := 0, locals := 45 }) (va_Pc [.ref (q 0), .int (nI xx), .int (nI zz), .int (nI 0)] (PR G y t (kMain y q (fun i => some (q (55 + 6 * i)), kp) ++ kWork y (fun i => q (3 + i)) (nI W, nI H, nI N, nI D, p1, p2, p3, col, od, blk, slp)) sz)) (va_Qi (fun (r : Int32) (u : Unit) => r = (nI (atL p1 p2 p3 (8 * zz + xx)))) (fun (u : Unit) t => PO G (va_A (kMain y q (fun i => some (q (55 + 6 * i)), kp) ++ kWork y (fun i => q (3 + i)) (nI W, nI H, nI N, nI D, p1, p2, p3, col, od, blk, slp)) sz) (kMain y q (fun i => some (q (55 + 6 * i)), kp) ++ kWork y (fun i => q (3 + i)) (nI W, nI H, nI N, nI D, p1, p2, p3, col, od, blk, slp)) t) (va_A (kMain y q (fun i => some (q (55 + 6 * i)), kp) ++ kWork y (fun i => q (3 + i)) (nI W, nI H, nI N, nI D, p1, p2, p3, col, od, blk, slp)) sz)) 0 0 (va_A (kMain y q (fun i => some (q (55 + 6 * i)), kp) ++ kWork y (fun i => q (3 + i)) (nI W, nI H, nI N, nI D, p1, p2, p3, col, od, blk, slp)) sz) := by
  refine kMet (cc := cX6_cell) (maxL := 4) (ret := some .int) (Qc := fun A => va_Qi (fun (r : Int32) (u : Unit) => r = (nI (atL p1 p2 p3 (8 * zz + xx)))) (fun (u : Unit) t => PO G A (kMain y q (fun i => some (q (55 + 6 * i)), kp) ++ kWork y (fun i => q (3 + i)) (nI W, nI H, nI N, nI D, p1, p2, p3, col, od, blk, slp)) t) A) (by decide) rfl (Nat.le_of_ble_eq_true rfl) (fun p e s m below meth c A hsz C hin => ?_)
  refine KW.loc (lv' := [(0, .ref (q 0)), (1, .int (nI xx)), (2, .int (nI zz)), (3, .int (nI 0))]) [0, 1, 2, 3] rfl ?_
  refine kw_aload_n C 0 dX6_cell_0 rfl ?_
  refine kw_get (v := .ref (q 3)) (T := TX6) C 0 0 rfl rfl (by decide) (fun w h => mT (fwX6 w h)) rfl (mT wd_225) rfl dX6_cell_1 ?_
  refine kw_iload_n C 1 dX6_cell_4 rfl ?_
  refine kw_iload_n C 2 dX6_cell_5 rfl ?_
  refine kV_i (As := [.int (nI xx), .int (nI zz)]) (rest := []) (ws' := fun (u : Unit) => kMain y q (fun i => some (q (55 + 6 * i)), kp) ++ kWork y (fun i => q (3 + i)) (nI W, nI H, nI N, nI D, p1, p2, p3, col, od, blk, slp)) C (c_X5_hasCell l G y t (fun i => q (3 + i)) W H N D p1 p2 p3 col od blk slp (nI xx) (nI zz) (by first | assumption | omega | decide) (by first | assumption | omega | decide)) (cwV 2 C.2.2.2.2.1 (goodV cT wd_407 wd_404 wd_405 wd_406 wd_42) rfl rfl rfl (by decide +kernel) ⟨by decide, by decide⟩) [3, 4, 5, 6, 7, 8] [0, 1, 2] [0, 1, 2, 3, 4, 5, 6, 7, 8] rfl (by decide) rfl (by decide) (by decide) (fun _ => rfl) (by decide) 3 rfl rfl rfl (Nat.le_of_ble_eq_true rfl) ⟨by decide, by decide⟩ dX6_cell_6 (fun r u hr_1 => ?_)
  subst hr_1
  refine kw_if_ne_D (tgt := 14) C dX6_cell_9 (by decide) (fun c_9 => ?_) (fun c_9 => ?_)
  ·
    refine kw_iload_n C 3 dX6_cell_14 rfl ?_
    refine kw_tabIn (off := 25) (tgt := 40) (v := 0) C (by decide) dX6_cell_15 (by decide) (by decide) (by decide) (by decide) ?_
    refine kw_aload_n C 0 dX6_cell_40 rfl ?_
    refine kw_get (v := .ref (q 3)) (T := TX6) C 0 0 rfl rfl (by decide) (fun w h => mT (fwX6 w h)) rfl (mT wd_225) rfl dX6_cell_41 ?_
    refine kw_getN (v := .ref (q 4)) (T := TX5) C 3 4 rfl rfl (by decide) (fun w h => mT (fwX5 w h)) rfl (List.mem_of_getElem? (i := 11) rfl) rfl dX6_cell_44 ?_
    refine kw_iload_n C 1 dX6_cell_47 rfl ?_
    refine kw_iload_n C 2 dX6_cell_48 rfl ?_
    refine kV_i (As := [.int (nI xx), .int (nI zz)]) (rest := []) (ws' := fun (u : Unit) => kMain y q (fun i => some (q (55 + 6 * i)), kp) ++ kWork y (fun i => q (3 + i)) (nI W, nI H, nI N, nI D, p1, p2, p3, col, od, blk, slp)) C (c_X2_at l G y t (q 4) p1 p2 p3 xx zz) (cwV 2 C.2.2.2.2.1 (goodV cT wd_471 wd_468 wd_469 wd_470 wd_43) rfl rfl rfl (by decide +kernel) ⟨by decide, by decide⟩) [4] [0, 1, 2, 3, 5, 6, 7, 8] [0, 1, 2, 3, 8, 4, 5, 6, 7] rfl (by decide) rfl (by decide) (by decide) (fun _ => rfl) (by decide) 4 rfl rfl rfl (Nat.le_of_ble_eq_true rfl) ⟨by decide, by decide⟩ dX6_cell_49 (fun r u hr_2 => ?_)
    subst hr_2
    refine kR_i C () dX6_cell_52 ?_ rfl
    first | rfl | trivial | (simp; done) | omega
  ·
    exact absurd ⟨inR_of hxx (by omega), inR_of hzz (by omega)⟩ c_9

set_option maxHeartbeats 4000000 in
set_option maxRecDepth 100000 in
theorem c_X6_cell_1 (l : Launch) (G : va_G) (y : Nat → ClassId) (t : Nat) (q : Nat → Nat) (kp : Nat → Int32) (W : Nat) (H : Nat) (N : Nat) (D : Nat) (p1 : Int64) (p2 : Int64) (p3 : Int64) (col : Nat → Int32) (od : Nat → Int32) (blk : Nat → Int64) (slp : Nat → Int32) (o : Nat → Nat) (cl : Nat → Nat) (kk : Nat → Nat) (r1 : Int64) (r2 : Int64) (r3 : Int64) (xx : Nat) (zz : Nat) (hW : W ≤ 6) (hH : H ≤ 6) (hN : N ≤ 6) (hD : D < 64) (hod : ∀ q, q < N → od q = nI (o q) ∧ o q < N) (hcol : ∀ i, i < N → col i = nI (cl i) ∧ cl i < 8) (hsl : ∀ i, i < N → slp i = nI (kk i) ∧ kk i < 9) (hxx : xx < W) (hzz : zz < H) (sz : Nat) : Met l yX6_cell (Cond.code yX6_cell cX6_cell 4 (some .int) :: TG) ({ frames := 3, cells := 0, slots := 0, locals := 78 }) (va_Pc [.ref (q 0), .int (nI xx), .int (nI zz), .int (nI 1)] (PR G y t (kMain y q (fun i => some (q (55 + 6 * i)), kp) ++ (kWork y (fun i => q (3 + i)) (nI W, nI H, nI N, nI D, p1, p2, p3, col, od, blk, slp) ++ kSheet (q 75) (r1, r2, r3))) sz)) (va_Qi (fun (r : Int32) (u : Int64 × Int64 × Int64) => r = (nI (atL (pfP W H D blk o cl kk (-1) 4 0 N) (pfP W H D blk o cl kk (-1) 4 1 N) (pfP W H D blk o cl kk (-1) 4 2 N) (8 * zz + xx)))) (fun (u : Int64 × Int64 × Int64) t => PO G (va_A (kMain y q (fun i => some (q (55 + 6 * i)), kp) ++ (kWork y (fun i => q (3 + i)) (nI W, nI H, nI N, nI D, p1, p2, p3, col, od, blk, slp) ++ kSheet (q 75) (r1, r2, r3))) sz) (kMain y q (fun i => some (q (55 + 6 * i)), kp) ++ (kWork y (fun i => q (3 + i)) (nI W, nI H, nI N, nI D, p1, p2, p3, col, od, blk, slp) ++ kSheet (q 75) (u.1, u.2.1, u.2.2))) t) (va_A (kMain y q (fun i => some (q (55 + 6 * i)), kp) ++ (kWork y (fun i => q (3 + i)) (nI W, nI H, nI N, nI D, p1, p2, p3, col, od, blk, slp) ++ kSheet (q 75) (r1, r2, r3))) sz)) 0 0 (va_A (kMain y q (fun i => some (q (55 + 6 * i)), kp) ++ (kWork y (fun i => q (3 + i)) (nI W, nI H, nI N, nI D, p1, p2, p3, col, od, blk, slp) ++ kSheet (q 75) (r1, r2, r3))) sz) := by
  refine kMet (cc := cX6_cell) (maxL := 4) (ret := some .int) (Qc := fun A => va_Qi (fun (r : Int32) (u : Int64 × Int64 × Int64) => r = (nI (atL (pfP W H D blk o cl kk (-1) 4 0 N) (pfP W H D blk o cl kk (-1) 4 1 N) (pfP W H D blk o cl kk (-1) 4 2 N) (8 * zz + xx)))) (fun (u : Int64 × Int64 × Int64) t => PO G A (kMain y q (fun i => some (q (55 + 6 * i)), kp) ++ (kWork y (fun i => q (3 + i)) (nI W, nI H, nI N, nI D, p1, p2, p3, col, od, blk, slp) ++ kSheet (q 75) (u.1, u.2.1, u.2.2))) t) A) (by decide) rfl (Nat.le_of_ble_eq_true rfl) (fun p e s m below meth c A hsz C hin => ?_)
  refine KW.loc (lv' := [(0, .ref (q 0)), (1, .int (nI xx)), (2, .int (nI zz)), (3, .int (nI 1))]) [0, 1, 2, 3] rfl ?_
  refine kw_aload_n C 0 dX6_cell_0 rfl ?_
  refine kw_get (v := .ref (q 3)) (T := TX6) C 0 0 rfl rfl (by decide) (fun w h => mT (fwX6 w h)) rfl (mT wd_225) rfl dX6_cell_1 ?_
  refine kw_iload_n C 1 dX6_cell_4 rfl ?_
  refine kw_iload_n C 2 dX6_cell_5 rfl ?_
  refine kV_i (As := [.int (nI xx), .int (nI zz)]) (rest := []) (ws' := fun (u : Unit) => kMain y q (fun i => some (q (55 + 6 * i)), kp) ++ (kWork y (fun i => q (3 + i)) (nI W, nI H, nI N, nI D, p1, p2, p3, col, od, blk, slp) ++ kSheet (q 75) (r1, r2, r3))) C (c_X5_hasCell l G y t (fun i => q (3 + i)) W H N D p1 p2 p3 col od blk slp (nI xx) (nI zz) (by first | assumption | omega | decide) (by first | assumption | omega | decide)) (cwV 2 C.2.2.2.2.1 (goodV cT wd_407 wd_404 wd_405 wd_406 wd_42) rfl rfl rfl (by decide +kernel) ⟨by decide, by decide⟩) [3, 4, 5, 6, 7, 8] [0, 1, 2, 9] [0, 1, 2, 4, 5, 6, 7, 8, 9, 3] rfl (by decide) rfl (by decide) (by decide) (fun _ => rfl) (by decide) 3 rfl rfl rfl (Nat.le_of_ble_eq_true rfl) ⟨by decide, by decide⟩ dX6_cell_6 (fun r u hr_1 => ?_)
  subst hr_1
  refine kw_if_ne_D (tgt := 14) C dX6_cell_9 (by decide) (fun c_9 => ?_) (fun c_9 => ?_)
  ·
    refine kw_iload_n C 3 dX6_cell_14 rfl ?_
    refine kw_tabIn (off := 38) (tgt := 53) (v := 1) C (by decide) dX6_cell_15 (by decide) (by decide) (by decide) (by decide) ?_
    refine kw_aload_n C 0 dX6_cell_53 rfl ?_
    refine kw_get (v := .ref (q 3)) (T := TX6) C 0 0 rfl rfl (by decide) (fun w h => mT (fwX6 w h)) rfl (mT wd_225) rfl dX6_cell_54 ?_
    refine kw_aload_n C 0 dX6_cell_57 rfl ?_
    refine kw_get (v := .ref (q 75)) (T := TX6) C 0 8 rfl rfl (by decide) (fun w h => mT (fwX6 w h)) rfl (mT wd_233) rfl dX6_cell_58 ?_
    refine kw_iconst (v := (-1)) C dX6_cell_61 (by decide) ?_
    refine kw_iconst (v := nI 4) C dX6_cell_62 (by decide) ?_
    refine kV_v (As := [.ref (q 75), .int (-1), .int (nI 4)]) (rest := []) (ws' := fun (u : Unit) => kMain y q (fun i => some (q (55 + 6 * i)), kp) ++ (kWork y (fun i => q (3 + i)) (nI W, nI H, nI N, nI D, p1, p2, p3, col, od, blk, slp) ++ kSheet (q 75) (pfP W H D blk o cl kk (-1) 4 0 N, pfP W H D blk o cl kk (-1) 4 1 N, pfP W H D blk o cl kk (-1) 4 2 N))) C (c_X5_proofInto l G y t (fun i => q (3 + i)) W H N D p1 p2 p3 col od blk slp o cl kk (q 75) r1 r2 r3 (-1) 4 (by first | assumption | omega | decide) (by first | assumption | omega | decide) (by first | assumption | omega | decide) (by first | assumption | omega | decide) (by first | assumption | omega | decide) (by first | assumption | omega | decide) (by first | assumption | omega | decide) (by first | assumption | omega | decide)) (cwV 3 C.2.2.2.2.1 (goodV cT wd_435 wd_432 wd_433 wd_434 wd_42) rfl rfl rfl (by decide +kernel) ⟨by decide, by decide⟩) [3, 4, 5, 6, 7, 8, 9] [0, 1, 2] [0, 1, 2, 3, 4, 5, 6, 7, 8, 9] rfl (by decide) rfl (by decide) (by decide) (fun _ => rfl) (by decide) 3 rfl rfl rfl (Nat.le_of_ble_eq_true rfl) ⟨by decide, by decide⟩ dX6_cell_63 (fun u hr_2 => ?_)
    refine kw_aload_n C 0 dX6_cell_66 rfl ?_
    refine kw_get (v := .ref (q 75)) (T := TX6) C 0 8 rfl rfl (by decide) (fun w h => mT (fwX6 w h)) rfl (mT wd_233) rfl dX6_cell_67 ?_
    refine kw_iload_n C 1 dX6_cell_70 rfl ?_
    refine kw_iload_n C 2 dX6_cell_71 rfl ?_
    refine kV_i (As := [.int (nI xx), .int (nI zz)]) (rest := []) (ws' := fun (u : Unit) => kMain y q (fun i => some (q (55 + 6 * i)), kp) ++ (kWork y (fun i => q (3 + i)) (nI W, nI H, nI N, nI D, p1, p2, p3, col, od, blk, slp) ++ kSheet (q 75) (pfP W H D blk o cl kk (-1) 4 0 N, pfP W H D blk o cl kk (-1) 4 1 N, pfP W H D blk o cl kk (-1) 4 2 N))) C (c_X2_at l G y t (q 75) (pfP W H D blk o cl kk (-1) 4 0 N) (pfP W H D blk o cl kk (-1) 4 1 N) (pfP W H D blk o cl kk (-1) 4 2 N) xx zz) (cwV 2 C.2.2.2.2.1 (goodV cT wd_471 wd_468 wd_469 wd_470 wd_43) rfl rfl rfl (by decide +kernel) ⟨by decide, by decide⟩) [9] [0, 1, 2, 3, 4, 5, 6, 7, 8] [0, 1, 2, 3, 4, 5, 6, 7, 8, 9] rfl (by decide) rfl (by decide) (by decide) (fun _ => rfl) (by decide) 9 rfl rfl rfl (Nat.le_of_ble_eq_true rfl) ⟨by decide, by decide⟩ dX6_cell_72 (fun r u hr_3 => ?_)
    subst hr_3
    refine kR_i C (pfP W H D blk o cl kk (-1) 4 0 N, pfP W H D blk o cl kk (-1) 4 1 N, pfP W H D blk o cl kk (-1) 4 2 N) dX6_cell_75 ?_ rfl
    first | rfl | trivial | (simp; done) | omega
  ·
    exact absurd ⟨inR_of hxx (by omega), inR_of hzz (by omega)⟩ c_9

set_option maxHeartbeats 4000000 in
set_option maxRecDepth 100000 in
theorem c_X6_cell_2 (l : Launch) (G : va_G) (y : Nat → ClassId) (t : Nat) (q : Nat → Nat) (kp : Nat → Int32) (W : Nat) (H : Nat) (N : Nat) (D : Nat) (p1 : Int64) (p2 : Int64) (p3 : Int64) (col : Nat → Int32) (od : Nat → Int32) (blk : Nat → Int64) (slp : Nat → Int32) (xx : Nat) (zz : Nat) (hW : W ≤ 6) (hH : H ≤ 6) (hN : N ≤ 6) (hxx : xx < W) (hzz : zz < H) (sz : Nat) : Met l yX6_cell (Cond.code yX6_cell cX6_cell 4 (some .int) :: TG) ({ frames := 2, cells := 0, slots := 0, locals := 45 }) (va_Pc [.ref (q 0), .int (nI xx), .int (nI zz), .int (nI 2)] (PR G y t (kMain y q (fun i => some (q (55 + 6 * i)), kp) ++ kWork y (fun i => q (3 + i)) (nI W, nI H, nI N, nI D, p1, p2, p3, col, od, blk, slp)) sz)) (va_Qi (fun (r : Int32) (u : Unit) => r = (nI (inkS blk (8 * zz + xx) N))) (fun (u : Unit) t => PO G (va_A (kMain y q (fun i => some (q (55 + 6 * i)), kp) ++ kWork y (fun i => q (3 + i)) (nI W, nI H, nI N, nI D, p1, p2, p3, col, od, blk, slp)) sz) (kMain y q (fun i => some (q (55 + 6 * i)), kp) ++ kWork y (fun i => q (3 + i)) (nI W, nI H, nI N, nI D, p1, p2, p3, col, od, blk, slp)) t) (va_A (kMain y q (fun i => some (q (55 + 6 * i)), kp) ++ kWork y (fun i => q (3 + i)) (nI W, nI H, nI N, nI D, p1, p2, p3, col, od, blk, slp)) sz)) 0 0 (va_A (kMain y q (fun i => some (q (55 + 6 * i)), kp) ++ kWork y (fun i => q (3 + i)) (nI W, nI H, nI N, nI D, p1, p2, p3, col, od, blk, slp)) sz) := by
  refine kMet (cc := cX6_cell) (maxL := 4) (ret := some .int) (Qc := fun A => va_Qi (fun (r : Int32) (u : Unit) => r = (nI (inkS blk (8 * zz + xx) N))) (fun (u : Unit) t => PO G A (kMain y q (fun i => some (q (55 + 6 * i)), kp) ++ kWork y (fun i => q (3 + i)) (nI W, nI H, nI N, nI D, p1, p2, p3, col, od, blk, slp)) t) A) (by decide) rfl (Nat.le_of_ble_eq_true rfl) (fun p e s m below meth c A hsz C hin => ?_)
  refine KW.loc (lv' := [(0, .ref (q 0)), (1, .int (nI xx)), (2, .int (nI zz)), (3, .int (nI 2))]) [0, 1, 2, 3] rfl ?_
  refine kw_aload_n C 0 dX6_cell_0 rfl ?_
  refine kw_get (v := .ref (q 3)) (T := TX6) C 0 0 rfl rfl (by decide) (fun w h => mT (fwX6 w h)) rfl (mT wd_225) rfl dX6_cell_1 ?_
  refine kw_iload_n C 1 dX6_cell_4 rfl ?_
  refine kw_iload_n C 2 dX6_cell_5 rfl ?_
  refine kV_i (As := [.int (nI xx), .int (nI zz)]) (rest := []) (ws' := fun (u : Unit) => kMain y q (fun i => some (q (55 + 6 * i)), kp) ++ kWork y (fun i => q (3 + i)) (nI W, nI H, nI N, nI D, p1, p2, p3, col, od, blk, slp)) C (c_X5_hasCell l G y t (fun i => q (3 + i)) W H N D p1 p2 p3 col od blk slp (nI xx) (nI zz) (by first | assumption | omega | decide) (by first | assumption | omega | decide)) (cwV 2 C.2.2.2.2.1 (goodV cT wd_407 wd_404 wd_405 wd_406 wd_42) rfl rfl rfl (by decide +kernel) ⟨by decide, by decide⟩) [3, 4, 5, 6, 7, 8] [0, 1, 2] [0, 1, 2, 3, 4, 5, 6, 7, 8] rfl (by decide) rfl (by decide) (by decide) (fun _ => rfl) (by decide) 3 rfl rfl rfl (Nat.le_of_ble_eq_true rfl) ⟨by decide, by decide⟩ dX6_cell_6 (fun r u hr_1 => ?_)
  subst hr_1
  refine kw_if_ne_D (tgt := 14) C dX6_cell_9 (by decide) (fun c_9 => ?_) (fun c_9 => ?_)
  ·
    refine kw_iload_n C 3 dX6_cell_14 rfl ?_
    refine kw_tabIn (off := 61) (tgt := 76) (v := 2) C (by decide) dX6_cell_15 (by decide) (by decide) (by decide) (by decide) ?_
    refine kw_aload_n C 0 dX6_cell_76 rfl ?_
    refine kw_get (v := .ref (q 3)) (T := TX6) C 0 0 rfl rfl (by decide) (fun w h => mT (fwX6 w h)) rfl (mT wd_225) rfl dX6_cell_77 ?_
    refine kw_iload_n C 1 dX6_cell_80 rfl ?_
    refine kw_iload_n C 2 dX6_cell_81 rfl ?_
    refine kV_i (As := [.int (nI xx), .int (nI zz)]) (rest := []) (ws' := fun (u : Unit) => kMain y q (fun i => some (q (55 + 6 * i)), kp) ++ kWork y (fun i => q (3 + i)) (nI W, nI H, nI N, nI D, p1, p2, p3, col, od, blk, slp)) C (c_X5_inksOf l G y t (fun i => q (3 + i)) W H N D p1 p2 p3 col od blk slp xx zz (by first | assumption | omega | decide)) (cwV 2 C.2.2.2.2.1 (goodV cT wd_476 wd_473 wd_474 wd_475 wd_42) rfl rfl rfl (by decide +kernel) ⟨by decide, by decide⟩) [3, 4, 5, 6, 7, 8] [0, 1, 2] [0, 1, 2, 3, 4, 5, 6, 7, 8] rfl (by decide) rfl (by decide) (by decide) (fun _ => rfl) (by decide) 3 rfl rfl rfl (Nat.le_of_ble_eq_true rfl) ⟨by decide, by decide⟩ dX6_cell_82 (fun r u hr_2 => ?_)
    subst hr_2
    refine kR_i C () dX6_cell_85 ?_ rfl
    first | rfl | trivial | (simp; done) | omega
  ·
    exact absurd ⟨inR_of hxx (by omega), inR_of hzz (by omega)⟩ c_9

set_option maxHeartbeats 4000000 in
set_option maxRecDepth 100000 in
theorem c_X6_ink_bad (l : Launch) (G : va_G) (y : Nat → ClassId) (t : Nat) (q : Nat → Nat) (kp : Nat → Int32) (W : Nat) (H : Nat) (N : Nat) (D : Nat) (p1 : Int64) (p2 : Int64) (p3 : Int64) (col : Nat → Int32) (od : Nat → Int32) (blk : Nat → Int64) (slp : Nat → Int32) (i : Int32) (wh : Int32) (hN : N ≤ 6) (hb : ¬ inR i N) (sz : Nat) : Met l yX6_ink (Cond.code yX6_ink cX6_ink 3 (some .int) :: TG) ({ frames := 1, cells := 0, slots := 0, locals := 21 }) (va_Pc [.ref (q 0), .int i, .int wh] (PR G y t (kMain y q (fun i => some (q (55 + 6 * i)), kp) ++ kWork y (fun i => q (3 + i)) (nI W, nI H, nI N, nI D, p1, p2, p3, col, od, blk, slp)) sz)) (va_Qi (fun (r : Int32) (u : Unit) => r = (-1000000)) (fun (u : Unit) t => PO G (va_A (kMain y q (fun i => some (q (55 + 6 * i)), kp) ++ kWork y (fun i => q (3 + i)) (nI W, nI H, nI N, nI D, p1, p2, p3, col, od, blk, slp)) sz) (kMain y q (fun i => some (q (55 + 6 * i)), kp) ++ kWork y (fun i => q (3 + i)) (nI W, nI H, nI N, nI D, p1, p2, p3, col, od, blk, slp)) t) (va_A (kMain y q (fun i => some (q (55 + 6 * i)), kp) ++ kWork y (fun i => q (3 + i)) (nI W, nI H, nI N, nI D, p1, p2, p3, col, od, blk, slp)) sz)) 0 0 (va_A (kMain y q (fun i => some (q (55 + 6 * i)), kp) ++ kWork y (fun i => q (3 + i)) (nI W, nI H, nI N, nI D, p1, p2, p3, col, od, blk, slp)) sz) := by
  refine kMet (cc := cX6_ink) (maxL := 3) (ret := some .int) (Qc := fun A => va_Qi (fun (r : Int32) (u : Unit) => r = (-1000000)) (fun (u : Unit) t => PO G A (kMain y q (fun i => some (q (55 + 6 * i)), kp) ++ kWork y (fun i => q (3 + i)) (nI W, nI H, nI N, nI D, p1, p2, p3, col, od, blk, slp)) t) A) (by decide) rfl (Nat.le_of_ble_eq_true rfl) (fun p e s m below meth c A hsz C hin => ?_)
  refine KW.loc (lv' := [(0, .ref (q 0)), (1, .int i), (2, .int wh)]) [0, 1, 2] rfl ?_
  refine kw_aload_n C 0 dX6_ink_0 rfl ?_
  refine kw_get (v := .ref (q 3)) (T := TX6) C 0 0 rfl rfl (by decide) (fun w h => mT (fwX6 w h)) rfl (mT wd_225) rfl dX6_ink_1 ?_
  refine kw_iload_n C 1 dX6_ink_4 rfl ?_
  refine kV_i (As := [.int i]) (rest := []) (ws' := fun (u : Unit) => kMain y q (fun i => some (q (55 + 6 * i)), kp) ++ kWork y (fun i => q (3 + i)) (nI W, nI H, nI N, nI D, p1, p2, p3, col, od, blk, slp)) C (c_X5_hasInk l G y t (fun i => q (3 + i)) W H N D p1 p2 p3 col od blk slp i (by first | assumption | omega | decide)) (cwV 1 C.2.2.2.2.1 (goodV cT wd_403 wd_400 wd_401 wd_402 wd_42) rfl rfl rfl (by decide +kernel) ⟨by decide, by decide⟩) [3, 4, 5, 6, 7, 8] [0, 1, 2] [0, 1, 2, 3, 4, 5, 6, 7, 8] rfl (by decide) rfl (by decide) (by decide) (fun _ => rfl) (by decide) 3 rfl rfl rfl (Nat.le_of_ble_eq_true rfl) ⟨by decide, by decide⟩ dX6_ink_5 (fun r u hr_1 => ?_)
  subst hr_1
  refine kw_if_ne_D (tgt := 14) C dX6_ink_8 (by decide) (fun c_8 => ?_) (fun c_8 => ?_)
  ·
    exact absurd c_8 hb
  ·
    refine kw_ldc (v := (-1000000)) C (mT wd_482) dX6_ink_11 ?_
    refine kR_i C () dX6_ink_13 ?_ rfl
    first | rfl | trivial | (simp; done) | omega

set_option maxHeartbeats 4000000 in
set_option maxRecDepth 100000 in
theorem c_X6_ink_wbad (l : Launch) (G : va_G) (y : Nat → ClassId) (t : Nat) (q : Nat → Nat) (kp : Nat → Int32) (W : Nat) (H : Nat) (N : Nat) (D : Nat) (p1 : Int64) (p2 : Int64) (p3 : Int64) (col : Nat → Int32) (od : Nat → Int32) (blk : Nat → Int64) (slp : Nat → Int32) (ii : Nat) (wh : Int32) (hN : N ≤ 6) (hii : ii < N) (w0 : ¬ wh = 0) (w1 : ¬ wh = 1) (w2 : ¬ wh = 2) (w3 : ¬ wh = 3) (w4 : ¬ wh = 4) (w5 : ¬ wh = 5) (sz : Nat) : Met l yX6_ink (Cond.code yX6_ink cX6_ink 3 (some .int) :: TG) ({ frames := 1, cells := 0, slots := 0, locals := 21 }) (va_Pc [.ref (q 0), .int (nI ii), .int wh] (PR G y t (kMain y q (fun i => some (q (55 + 6 * i)), kp) ++ kWork y (fun i => q (3 + i)) (nI W, nI H, nI N, nI D, p1, p2, p3, col, od, blk, slp)) sz)) (va_Qi (fun (r : Int32) (u : Unit) => r = (-1000000)) (fun (u : Unit) t => PO G (va_A (kMain y q (fun i => some (q (55 + 6 * i)), kp) ++ kWork y (fun i => q (3 + i)) (nI W, nI H, nI N, nI D, p1, p2, p3, col, od, blk, slp)) sz) (kMain y q (fun i => some (q (55 + 6 * i)), kp) ++ kWork y (fun i => q (3 + i)) (nI W, nI H, nI N, nI D, p1, p2, p3, col, od, blk, slp)) t) (va_A (kMain y q (fun i => some (q (55 + 6 * i)), kp) ++ kWork y (fun i => q (3 + i)) (nI W, nI H, nI N, nI D, p1, p2, p3, col, od, blk, slp)) sz)) 0 0 (va_A (kMain y q (fun i => some (q (55 + 6 * i)), kp) ++ kWork y (fun i => q (3 + i)) (nI W, nI H, nI N, nI D, p1, p2, p3, col, od, blk, slp)) sz) := by
  refine kMet (cc := cX6_ink) (maxL := 3) (ret := some .int) (Qc := fun A => va_Qi (fun (r : Int32) (u : Unit) => r = (-1000000)) (fun (u : Unit) t => PO G A (kMain y q (fun i => some (q (55 + 6 * i)), kp) ++ kWork y (fun i => q (3 + i)) (nI W, nI H, nI N, nI D, p1, p2, p3, col, od, blk, slp)) t) A) (by decide) rfl (Nat.le_of_ble_eq_true rfl) (fun p e s m below meth c A hsz C hin => ?_)
  refine KW.loc (lv' := [(0, .ref (q 0)), (1, .int (nI ii)), (2, .int wh)]) [0, 1, 2] rfl ?_
  refine kw_aload_n C 0 dX6_ink_0 rfl ?_
  refine kw_get (v := .ref (q 3)) (T := TX6) C 0 0 rfl rfl (by decide) (fun w h => mT (fwX6 w h)) rfl (mT wd_225) rfl dX6_ink_1 ?_
  refine kw_iload_n C 1 dX6_ink_4 rfl ?_
  refine kV_i (As := [.int (nI ii)]) (rest := []) (ws' := fun (u : Unit) => kMain y q (fun i => some (q (55 + 6 * i)), kp) ++ kWork y (fun i => q (3 + i)) (nI W, nI H, nI N, nI D, p1, p2, p3, col, od, blk, slp)) C (c_X5_hasInk l G y t (fun i => q (3 + i)) W H N D p1 p2 p3 col od blk slp (nI ii) (by first | assumption | omega | decide)) (cwV 1 C.2.2.2.2.1 (goodV cT wd_403 wd_400 wd_401 wd_402 wd_42) rfl rfl rfl (by decide +kernel) ⟨by decide, by decide⟩) [3, 4, 5, 6, 7, 8] [0, 1, 2] [0, 1, 2, 3, 4, 5, 6, 7, 8] rfl (by decide) rfl (by decide) (by decide) (fun _ => rfl) (by decide) 3 rfl rfl rfl (Nat.le_of_ble_eq_true rfl) ⟨by decide, by decide⟩ dX6_ink_5 (fun r u hr_1 => ?_)
  subst hr_1
  refine kw_if_ne_D (tgt := 14) C dX6_ink_8 (by decide) (fun c_8 => ?_) (fun c_8 => ?_)
  ·
    refine kw_iload_n C 2 dX6_ink_14 rfl ?_
    refine kw_tabOut (tgt := 127) C dX6_ink_15 (sw_out6 w0 w1 w2 w3 w4 w5) (by decide) ?_
    refine kw_ldc (v := (-1000000)) C (mT wd_482) dX6_ink_127 ?_
    refine kR_i C () dX6_ink_129 ?_ rfl
    first | rfl | trivial | (simp; done) | omega
  ·
    exact absurd (inR_of hii (by omega)) c_8

set_option maxHeartbeats 4000000 in
set_option maxRecDepth 100000 in
theorem c_X6_ink_0 (l : Launch) (G : va_G) (y : Nat → ClassId) (t : Nat) (q : Nat → Nat) (kp : Nat → Int32) (W : Nat) (H : Nat) (N : Nat) (D : Nat) (p1 : Int64) (p2 : Int64) (p3 : Int64) (col : Nat → Int32) (od : Nat → Int32) (blk : Nat → Int64) (slp : Nat → Int32) (ii : Nat) (hN : N ≤ 6) (hii : ii < N) (sz : Nat) : Met l yX6_ink (Cond.code yX6_ink cX6_ink 3 (some .int) :: TG) ({ frames := 1, cells := 0, slots := 0, locals := 21 }) (va_Pc [.ref (q 0), .int (nI ii), .int (nI 0)] (PR G y t (kMain y q (fun i => some (q (55 + 6 * i)), kp) ++ kWork y (fun i => q (3 + i)) (nI W, nI H, nI N, nI D, p1, p2, p3, col, od, blk, slp)) sz)) (va_Qi (fun (r : Int32) (u : Unit) => r = (col ii)) (fun (u : Unit) t => PO G (va_A (kMain y q (fun i => some (q (55 + 6 * i)), kp) ++ kWork y (fun i => q (3 + i)) (nI W, nI H, nI N, nI D, p1, p2, p3, col, od, blk, slp)) sz) (kMain y q (fun i => some (q (55 + 6 * i)), kp) ++ kWork y (fun i => q (3 + i)) (nI W, nI H, nI N, nI D, p1, p2, p3, col, od, blk, slp)) t) (va_A (kMain y q (fun i => some (q (55 + 6 * i)), kp) ++ kWork y (fun i => q (3 + i)) (nI W, nI H, nI N, nI D, p1, p2, p3, col, od, blk, slp)) sz)) 0 0 (va_A (kMain y q (fun i => some (q (55 + 6 * i)), kp) ++ kWork y (fun i => q (3 + i)) (nI W, nI H, nI N, nI D, p1, p2, p3, col, od, blk, slp)) sz) := by
  refine kMet (cc := cX6_ink) (maxL := 3) (ret := some .int) (Qc := fun A => va_Qi (fun (r : Int32) (u : Unit) => r = (col ii)) (fun (u : Unit) t => PO G A (kMain y q (fun i => some (q (55 + 6 * i)), kp) ++ kWork y (fun i => q (3 + i)) (nI W, nI H, nI N, nI D, p1, p2, p3, col, od, blk, slp)) t) A) (by decide) rfl (Nat.le_of_ble_eq_true rfl) (fun p e s m below meth c A hsz C hin => ?_)
  refine KW.loc (lv' := [(0, .ref (q 0)), (1, .int (nI ii)), (2, .int (nI 0))]) [0, 1, 2] rfl ?_
  refine kw_aload_n C 0 dX6_ink_0 rfl ?_
  refine kw_get (v := .ref (q 3)) (T := TX6) C 0 0 rfl rfl (by decide) (fun w h => mT (fwX6 w h)) rfl (mT wd_225) rfl dX6_ink_1 ?_
  refine kw_iload_n C 1 dX6_ink_4 rfl ?_
  refine kV_i (As := [.int (nI ii)]) (rest := []) (ws' := fun (u : Unit) => kMain y q (fun i => some (q (55 + 6 * i)), kp) ++ kWork y (fun i => q (3 + i)) (nI W, nI H, nI N, nI D, p1, p2, p3, col, od, blk, slp)) C (c_X5_hasInk l G y t (fun i => q (3 + i)) W H N D p1 p2 p3 col od blk slp (nI ii) (by first | assumption | omega | decide)) (cwV 1 C.2.2.2.2.1 (goodV cT wd_403 wd_400 wd_401 wd_402 wd_42) rfl rfl rfl (by decide +kernel) ⟨by decide, by decide⟩) [3, 4, 5, 6, 7, 8] [0, 1, 2] [0, 1, 2, 3, 4, 5, 6, 7, 8] rfl (by decide) rfl (by decide) (by decide) (fun _ => rfl) (by decide) 3 rfl rfl rfl (Nat.le_of_ble_eq_true rfl) ⟨by decide, by decide⟩ dX6_ink_5 (fun r u hr_1 => ?_)
  subst hr_1
  refine kw_if_ne_D (tgt := 14) C dX6_ink_8 (by decide) (fun c_8 => ?_) (fun c_8 => ?_)
  ·
    refine kw_iload_n C 2 dX6_ink_14 rfl ?_
    refine kw_tabIn (off := 37) (tgt := 52) (v := 0) C (by decide) dX6_ink_15 (by decide) (by decide) (by decide) (by decide) ?_
    refine kw_aload_n C 0 dX6_ink_52 rfl ?_
    refine kw_get (v := .ref (q 3)) (T := TX6) C 0 0 rfl rfl (by decide) (fun w h => mT (fwX6 w h)) rfl (mT wd_225) rfl dX6_ink_53 ?_
    refine kw_getN (v := .ref (q 5)) (T := TX5) C 3 5 rfl rfl (by decide) (fun w h => mT (fwX5 w h)) rfl (List.mem_of_getElem? (i := 12) rfl) rfl dX6_ink_56 ?_
    refine kw_iload_n C 1 dX6_ink_59 rfl ?_
    refine kw_iald (f := col) C 5 rfl (by omega) (by decide) dX6_ink_60 ?_
    refine kR_i C () dX6_ink_61 ?_ rfl
    first | rfl | trivial | (simp; done) | omega
  ·
    exact absurd (inR_of hii (by omega)) c_8

set_option maxHeartbeats 4000000 in
set_option maxRecDepth 100000 in
theorem c_X6_ink_1 (l : Launch) (G : va_G) (y : Nat → ClassId) (t : Nat) (q : Nat → Nat) (kp : Nat → Int32) (W : Nat) (H : Nat) (N : Nat) (D : Nat) (p1 : Int64) (p2 : Int64) (p3 : Int64) (col : Nat → Int32) (od : Nat → Int32) (blk : Nat → Int64) (slp : Nat → Int32) (ii : Nat) (hN : N ≤ 6) (hii : ii < N) (hD : D < 64) (sz : Nat) : Met l yX6_ink (Cond.code yX6_ink cX6_ink 3 (some .int) :: TG) ({ frames := 1, cells := 0, slots := 0, locals := 21 }) (va_Pc [.ref (q 0), .int (nI ii), .int (nI 1)] (PR G y t (kMain y q (fun i => some (q (55 + 6 * i)), kp) ++ kWork y (fun i => q (3 + i)) (nI W, nI H, nI N, nI D, p1, p2, p3, col, od, blk, slp)) sz)) (va_Qi (fun (r : Int32) (u : Unit) => r = (bI (D.testBit ii))) (fun (u : Unit) t => PO G (va_A (kMain y q (fun i => some (q (55 + 6 * i)), kp) ++ kWork y (fun i => q (3 + i)) (nI W, nI H, nI N, nI D, p1, p2, p3, col, od, blk, slp)) sz) (kMain y q (fun i => some (q (55 + 6 * i)), kp) ++ kWork y (fun i => q (3 + i)) (nI W, nI H, nI N, nI D, p1, p2, p3, col, od, blk, slp)) t) (va_A (kMain y q (fun i => some (q (55 + 6 * i)), kp) ++ kWork y (fun i => q (3 + i)) (nI W, nI H, nI N, nI D, p1, p2, p3, col, od, blk, slp)) sz)) 0 0 (va_A (kMain y q (fun i => some (q (55 + 6 * i)), kp) ++ kWork y (fun i => q (3 + i)) (nI W, nI H, nI N, nI D, p1, p2, p3, col, od, blk, slp)) sz) := by
  refine kMet (cc := cX6_ink) (maxL := 3) (ret := some .int) (Qc := fun A => va_Qi (fun (r : Int32) (u : Unit) => r = (bI (D.testBit ii))) (fun (u : Unit) t => PO G A (kMain y q (fun i => some (q (55 + 6 * i)), kp) ++ kWork y (fun i => q (3 + i)) (nI W, nI H, nI N, nI D, p1, p2, p3, col, od, blk, slp)) t) A) (by decide) rfl (Nat.le_of_ble_eq_true rfl) (fun p e s m below meth c A hsz C hin => ?_)
  refine KW.loc (lv' := [(0, .ref (q 0)), (1, .int (nI ii)), (2, .int (nI 1))]) [0, 1, 2] rfl ?_
  refine kw_aload_n C 0 dX6_ink_0 rfl ?_
  refine kw_get (v := .ref (q 3)) (T := TX6) C 0 0 rfl rfl (by decide) (fun w h => mT (fwX6 w h)) rfl (mT wd_225) rfl dX6_ink_1 ?_
  refine kw_iload_n C 1 dX6_ink_4 rfl ?_
  refine kV_i (As := [.int (nI ii)]) (rest := []) (ws' := fun (u : Unit) => kMain y q (fun i => some (q (55 + 6 * i)), kp) ++ kWork y (fun i => q (3 + i)) (nI W, nI H, nI N, nI D, p1, p2, p3, col, od, blk, slp)) C (c_X5_hasInk l G y t (fun i => q (3 + i)) W H N D p1 p2 p3 col od blk slp (nI ii) (by first | assumption | omega | decide)) (cwV 1 C.2.2.2.2.1 (goodV cT wd_403 wd_400 wd_401 wd_402 wd_42) rfl rfl rfl (by decide +kernel) ⟨by decide, by decide⟩) [3, 4, 5, 6, 7, 8] [0, 1, 2] [0, 1, 2, 3, 4, 5, 6, 7, 8] rfl (by decide) rfl (by decide) (by decide) (fun _ => rfl) (by decide) 3 rfl rfl rfl (Nat.le_of_ble_eq_true rfl) ⟨by decide, by decide⟩ dX6_ink_5 (fun r u hr_1 => ?_)
  subst hr_1
  refine kw_if_ne_D (tgt := 14) C dX6_ink_8 (by decide) (fun c_8 => ?_) (fun c_8 => ?_)
  ·
    refine kw_iload_n C 2 dX6_ink_14 rfl ?_
    refine kw_tabIn (off := 47) (tgt := 62) (v := 1) C (by decide) dX6_ink_15 (by decide) (by decide) (by decide) (by decide) ?_
    refine kw_aload_n C 0 dX6_ink_62 rfl ?_
    refine kw_get (v := .ref (q 3)) (T := TX6) C 0 0 rfl rfl (by decide) (fun w h => mT (fwX6 w h)) rfl (mT wd_225) rfl dX6_ink_63 ?_
    refine kw_iload_n C 1 dX6_ink_66 rfl ?_
    refine kV_i (As := [.int (nI ii)]) (rest := []) (ws' := fun (u : Unit) => kMain y q (fun i => some (q (55 + 6 * i)), kp) ++ kWork y (fun i => q (3 + i)) (nI W, nI H, nI N, nI D, p1, p2, p3, col, od, blk, slp)) C (c_X5_isDense l G y t (fun i => q (3 + i)) W H N D p1 p2 p3 col od blk slp ii (by first | assumption | omega | decide) (by first | assumption | omega | decide)) (cwV 1 C.2.2.2.2.1 (goodV cT wd_376 wd_483 wd_374 wd_375 wd_42) rfl rfl rfl (by decide +kernel) ⟨by decide, by decide⟩) [3, 4, 5, 6, 7, 8] [0, 1, 2] [0, 1, 2, 3, 4, 5, 6, 7, 8] rfl (by decide) rfl (by decide) (by decide) (fun _ => rfl) (by decide) 3 rfl rfl rfl (Nat.le_of_ble_eq_true rfl) ⟨by decide, by decide⟩ dX6_ink_67 (fun r u hr_2 => ?_)
    subst hr_2
    refine kw_if_eq_B (tgt := 77) C dX6_ink_70 (by decide) (fun c_70 => ?_) (fun c_70 => ?_)
    ·
      refine kw_iconst (v := nI 0) C dX6_ink_77 (by decide) ?_
      refine kR_i C () dX6_ink_78 ?_ rfl
      rw [c_70]; rfl
    ·
      refine kw_iconst (v := nI 1) C dX6_ink_73 (by decide) ?_
      refine kw_goto (tgt := 78) C dX6_ink_74 (by decide) ?_
      refine kR_i C () dX6_ink_78 ?_ rfl
      rw [c_70]; rfl
  ·
    exact absurd (inR_of hii (by omega)) c_8

set_option maxHeartbeats 4000000 in
set_option maxRecDepth 100000 in
theorem c_X6_ink_2 (l : Launch) (G : va_G) (y : Nat → ClassId) (t : Nat) (q : Nat → Nat) (kp : Nat → Int32) (W : Nat) (H : Nat) (N : Nat) (D : Nat) (p1 : Int64) (p2 : Int64) (p3 : Int64) (col : Nat → Int32) (od : Nat → Int32) (blk : Nat → Int64) (slp : Nat → Int32) (o : Nat → Nat) (cl : Nat → Nat) (kk : Nat → Nat) (ii : Nat) (qa : Nat) (hN : N ≤ 6) (hii : ii < N) (hod : ∀ q, q < N → od q = nI (o q) ∧ o q < N) (hqa : qa < N) (hoa : o qa = ii) (hua : ∀ z, z < qa → o z ≠ ii) (sz : Nat) : Met l yX6_ink (Cond.code yX6_ink cX6_ink 3 (some .int) :: TG) ({ frames := 1, cells := 0, slots := 0, locals := 22 }) (va_Pc [.ref (q 0), .int (nI ii), .int (nI 2)] (PR G y t (kMain y q (fun i => some (q (55 + 6 * i)), kp) ++ kWork y (fun i => q (3 + i)) (nI W, nI H, nI N, nI D, p1, p2, p3, col, od, blk, slp)) sz)) (va_Qi (fun (r : Int32) (u : Unit) => r = (nI qa)) (fun (u : Unit) t => PO G (va_A (kMain y q (fun i => some (q (55 + 6 * i)), kp) ++ kWork y (fun i => q (3 + i)) (nI W, nI H, nI N, nI D, p1, p2, p3, col, od, blk, slp)) sz) (kMain y q (fun i => some (q (55 + 6 * i)), kp) ++ kWork y (fun i => q (3 + i)) (nI W, nI H, nI N, nI D, p1, p2, p3, col, od, blk, slp)) t) (va_A (kMain y q (fun i => some (q (55 + 6 * i)), kp) ++ kWork y (fun i => q (3 + i)) (nI W, nI H, nI N, nI D, p1, p2, p3, col, od, blk, slp)) sz)) 0 0 (va_A (kMain y q (fun i => some (q (55 + 6 * i)), kp) ++ kWork y (fun i => q (3 + i)) (nI W, nI H, nI N, nI D, p1, p2, p3, col, od, blk, slp)) sz) := by
  refine kMet (cc := cX6_ink) (maxL := 3) (ret := some .int) (Qc := fun A => va_Qi (fun (r : Int32) (u : Unit) => r = (nI qa)) (fun (u : Unit) t => PO G A (kMain y q (fun i => some (q (55 + 6 * i)), kp) ++ kWork y (fun i => q (3 + i)) (nI W, nI H, nI N, nI D, p1, p2, p3, col, od, blk, slp)) t) A) (by decide) rfl (Nat.le_of_ble_eq_true rfl) (fun p e s m below meth c A hsz C hin => ?_)
  refine KW.loc (lv' := [(0, .ref (q 0)), (1, .int (nI ii)), (2, .int (nI 2))]) [0, 1, 2] rfl ?_
  refine kw_aload_n C 0 dX6_ink_0 rfl ?_
  refine kw_get (v := .ref (q 3)) (T := TX6) C 0 0 rfl rfl (by decide) (fun w h => mT (fwX6 w h)) rfl (mT wd_225) rfl dX6_ink_1 ?_
  refine kw_iload_n C 1 dX6_ink_4 rfl ?_
  refine kV_i (As := [.int (nI ii)]) (rest := []) (ws' := fun (u : Unit) => kMain y q (fun i => some (q (55 + 6 * i)), kp) ++ kWork y (fun i => q (3 + i)) (nI W, nI H, nI N, nI D, p1, p2, p3, col, od, blk, slp)) C (c_X5_hasInk l G y t (fun i => q (3 + i)) W H N D p1 p2 p3 col od blk slp (nI ii) (by first | assumption | omega | decide)) (cwV 1 C.2.2.2.2.1 (goodV cT wd_403 wd_400 wd_401 wd_402 wd_42) rfl rfl rfl (by decide +kernel) ⟨by decide, by decide⟩) [3, 4, 5, 6, 7, 8] [0, 1, 2] [0, 1, 2, 3, 4, 5, 6, 7, 8] rfl (by decide) rfl (by decide) (by decide) (fun _ => rfl) (by decide) 3 rfl rfl rfl (Nat.le_of_ble_eq_true rfl) ⟨by decide, by decide⟩ dX6_ink_5 (fun r u hr_1 => ?_)
  subst hr_1
  refine kw_if_ne_D (tgt := 14) C dX6_ink_8 (by decide) (fun c_8 => ?_) (fun c_8 => ?_)
  ·
    refine kw_iload_n C 2 dX6_ink_14 rfl ?_
    refine kw_tabIn (off := 64) (tgt := 79) (v := 2) C (by decide) dX6_ink_15 (by decide) (by decide) (by decide) (by decide) ?_
    refine kw_aload_n C 0 dX6_ink_79 rfl ?_
    refine kw_get (v := .ref (q 3)) (T := TX6) C 0 0 rfl rfl (by decide) (fun w h => mT (fwX6 w h)) rfl (mT wd_225) rfl dX6_ink_80 ?_
    refine kw_iload_n C 1 dX6_ink_83 rfl ?_
    refine kV_i (As := [.int (nI ii)]) (rest := []) (ws' := fun (u : Unit) => kMain y q (fun i => some (q (55 + 6 * i)), kp) ++ kWork y (fun i => q (3 + i)) (nI W, nI H, nI N, nI D, p1, p2, p3, col, od, blk, slp)) C (c_X5_placeOf l G y t (fun i => q (3 + i)) W H N D p1 p2 p3 col od blk slp o cl kk ii qa (by first | assumption | omega | decide) (by first | assumption | omega | decide) (by first | assumption | omega | decide) (by first | assumption | omega | decide) (by first | assumption | omega | decide) (by first | assumption | omega | decide)) (cwV 1 C.2.2.2.2.1 (goodV cT wd_427 wd_484 wd_425 wd_426 wd_42) rfl rfl rfl (by decide +kernel) ⟨by decide, by decide⟩) [3, 4, 5, 6, 7, 8] [0, 1, 2] [0, 1, 2, 3, 4, 5, 6, 7, 8] rfl (by decide) rfl (by decide) (by decide) (fun _ => rfl) (by decide) 3 rfl rfl rfl (Nat.le_of_ble_eq_true rfl) ⟨by decide, by decide⟩ dX6_ink_84 (fun r u hr_2 => ?_)
    subst hr_2
    refine kR_i C () dX6_ink_87 ?_ rfl
    first | rfl | trivial | (simp; done) | omega
  ·
    exact absurd (inR_of hii (by omega)) c_8

set_option maxHeartbeats 4000000 in
set_option maxRecDepth 100000 in
theorem c_X6_ink_3 (l : Launch) (G : va_G) (y : Nat → ClassId) (t : Nat) (q : Nat → Nat) (kp : Nat → Int32) (W : Nat) (H : Nat) (N : Nat) (D : Nat) (p1 : Int64) (p2 : Int64) (p3 : Int64) (col : Nat → Int32) (od : Nat → Int32) (blk : Nat → Int64) (slp : Nat → Int32) (ii : Nat) (hN : N ≤ 6) (hii : ii < N) (sz : Nat) : Met l yX6_ink (Cond.code yX6_ink cX6_ink 3 (some .int) :: TG) ({ frames := 1, cells := 0, slots := 0, locals := 21 }) (va_Pc [.ref (q 0), .int (nI ii), .int (nI 3)] (PR G y t (kMain y q (fun i => some (q (55 + 6 * i)), kp) ++ kWork y (fun i => q (3 + i)) (nI W, nI H, nI N, nI D, p1, p2, p3, col, od, blk, slp)) sz)) (va_Qi (fun (r : Int32) (u : Unit) => r = (pcL (blk ii))) (fun (u : Unit) t => PO G (va_A (kMain y q (fun i => some (q (55 + 6 * i)), kp) ++ kWork y (fun i => q (3 + i)) (nI W, nI H, nI N, nI D, p1, p2, p3, col, od, blk, slp)) sz) (kMain y q (fun i => some (q (55 + 6 * i)), kp) ++ kWork y (fun i => q (3 + i)) (nI W, nI H, nI N, nI D, p1, p2, p3, col, od, blk, slp)) t) (va_A (kMain y q (fun i => some (q (55 + 6 * i)), kp) ++ kWork y (fun i => q (3 + i)) (nI W, nI H, nI N, nI D, p1, p2, p3, col, od, blk, slp)) sz)) 0 0 (va_A (kMain y q (fun i => some (q (55 + 6 * i)), kp) ++ kWork y (fun i => q (3 + i)) (nI W, nI H, nI N, nI D, p1, p2, p3, col, od, blk, slp)) sz) := by
  refine kMet (cc := cX6_ink) (maxL := 3) (ret := some .int) (Qc := fun A => va_Qi (fun (r : Int32) (u : Unit) => r = (pcL (blk ii))) (fun (u : Unit) t => PO G A (kMain y q (fun i => some (q (55 + 6 * i)), kp) ++ kWork y (fun i => q (3 + i)) (nI W, nI H, nI N, nI D, p1, p2, p3, col, od, blk, slp)) t) A) (by decide) rfl (Nat.le_of_ble_eq_true rfl) (fun p e s m below meth c A hsz C hin => ?_)
  refine KW.loc (lv' := [(0, .ref (q 0)), (1, .int (nI ii)), (2, .int (nI 3))]) [0, 1, 2] rfl ?_
  refine kw_aload_n C 0 dX6_ink_0 rfl ?_
  refine kw_get (v := .ref (q 3)) (T := TX6) C 0 0 rfl rfl (by decide) (fun w h => mT (fwX6 w h)) rfl (mT wd_225) rfl dX6_ink_1 ?_
  refine kw_iload_n C 1 dX6_ink_4 rfl ?_
  refine kV_i (As := [.int (nI ii)]) (rest := []) (ws' := fun (u : Unit) => kMain y q (fun i => some (q (55 + 6 * i)), kp) ++ kWork y (fun i => q (3 + i)) (nI W, nI H, nI N, nI D, p1, p2, p3, col, od, blk, slp)) C (c_X5_hasInk l G y t (fun i => q (3 + i)) W H N D p1 p2 p3 col od blk slp (nI ii) (by first | assumption | omega | decide)) (cwV 1 C.2.2.2.2.1 (goodV cT wd_403 wd_400 wd_401 wd_402 wd_42) rfl rfl rfl (by decide +kernel) ⟨by decide, by decide⟩) [3, 4, 5, 6, 7, 8] [0, 1, 2] [0, 1, 2, 3, 4, 5, 6, 7, 8] rfl (by decide) rfl (by decide) (by decide) (fun _ => rfl) (by decide) 3 rfl rfl rfl (Nat.le_of_ble_eq_true rfl) ⟨by decide, by decide⟩ dX6_ink_5 (fun r u hr_1 => ?_)
  subst hr_1
  refine kw_if_ne_D (tgt := 14) C dX6_ink_8 (by decide) (fun c_8 => ?_) (fun c_8 => ?_)
  ·
    refine kw_iload_n C 2 dX6_ink_14 rfl ?_
    refine kw_tabIn (off := 73) (tgt := 88) (v := 3) C (by decide) dX6_ink_15 (by decide) (by decide) (by decide) (by decide) ?_
    refine kw_aload_n C 0 dX6_ink_88 rfl ?_
    refine kw_get (v := .ref (q 3)) (T := TX6) C 0 0 rfl rfl (by decide) (fun w h => mT (fwX6 w h)) rfl (mT wd_225) rfl dX6_ink_89 ?_
    refine kw_getN (v := .ref (q 7)) (T := TX5) C 3 7 rfl rfl (by decide) (fun w h => mT (fwX5 w h)) rfl (List.mem_of_getElem? (i := 13) rfl) rfl dX6_ink_92 ?_
    refine kw_iload_n C 1 dX6_ink_95 rfl ?_
    refine kw_lald (f := blk) C 7 rfl (by omega) (by decide) dX6_ink_96 ?_
    refine kS_i (As := [.long (blk ii)]) (rest := []) (ws' := fun (u : Unit) => kMain y q (fun i => some (q (55 + 6 * i)), kp) ++ kWork y (fun i => q (3 + i)) (nI W, nI H, nI N, nI D, p1, p2, p3, col, od, blk, slp)) C (c_J13_bitCount_95d88 l G y t (blk ii)) (va_cwS 1 C.2.2.2.2.1 (goodS cT wd_452 wd_450 wd_451 wd_52) rfl rfl rfl (by decide +kernel) ⟨by decide, by decide⟩) [] [0, 1, 2, 3, 4, 5, 6, 7, 8] [0, 1, 2, 3, 4, 5, 6, 7, 8] rfl (by decide) rfl (by decide) (by decide) (fun _ => rfl) (by decide) rfl (Nat.le_of_ble_eq_true rfl) ⟨by decide, by decide⟩ dX6_ink_97 (fun r u hr_2 => ?_)
    subst hr_2
    refine kR_i C () dX6_ink_100 ?_ rfl
    first | rfl | trivial | (simp; done) | omega
  ·
    exact absurd (inR_of hii (by omega)) c_8

set_option maxHeartbeats 4000000 in
set_option maxRecDepth 100000 in
theorem c_X6_ink_4 (l : Launch) (G : va_G) (y : Nat → ClassId) (t : Nat) (q : Nat → Nat) (kp : Nat → Int32) (W : Nat) (H : Nat) (N : Nat) (D : Nat) (p1 : Int64) (p2 : Int64) (p3 : Int64) (col : Nat → Int32) (od : Nat → Int32) (blk : Nat → Int64) (slp : Nat → Int32) (o : Nat → Nat) (cl : Nat → Nat) (kk : Nat → Nat) (ii : Nat) (hN : N ≤ 6) (hii : ii < N) (hsl : ∀ i, i < N → slp i = nI (kk i) ∧ kk i < 9) (sz : Nat) : Met l yX6_ink (Cond.code yX6_ink cX6_ink 3 (some .int) :: TG) ({ frames := 1, cells := 0, slots := 0, locals := 21 }) (va_Pc [.ref (q 0), .int (nI ii), .int (nI 4)] (PR G y t (kMain y q (fun i => some (q (55 + 6 * i)), kp) ++ kWork y (fun i => q (3 + i)) (nI W, nI H, nI N, nI D, p1, p2, p3, col, od, blk, slp)) sz)) (va_Qi (fun (r : Int32) (u : Unit) => r = (nI (kk ii % 3) - nI 1)) (fun (u : Unit) t => PO G (va_A (kMain y q (fun i => some (q (55 + 6 * i)), kp) ++ kWork y (fun i => q (3 + i)) (nI W, nI H, nI N, nI D, p1, p2, p3, col, od, blk, slp)) sz) (kMain y q (fun i => some (q (55 + 6 * i)), kp) ++ kWork y (fun i => q (3 + i)) (nI W, nI H, nI N, nI D, p1, p2, p3, col, od, blk, slp)) t) (va_A (kMain y q (fun i => some (q (55 + 6 * i)), kp) ++ kWork y (fun i => q (3 + i)) (nI W, nI H, nI N, nI D, p1, p2, p3, col, od, blk, slp)) sz)) 0 0 (va_A (kMain y q (fun i => some (q (55 + 6 * i)), kp) ++ kWork y (fun i => q (3 + i)) (nI W, nI H, nI N, nI D, p1, p2, p3, col, od, blk, slp)) sz) := by
  refine kMet (cc := cX6_ink) (maxL := 3) (ret := some .int) (Qc := fun A => va_Qi (fun (r : Int32) (u : Unit) => r = (nI (kk ii % 3) - nI 1)) (fun (u : Unit) t => PO G A (kMain y q (fun i => some (q (55 + 6 * i)), kp) ++ kWork y (fun i => q (3 + i)) (nI W, nI H, nI N, nI D, p1, p2, p3, col, od, blk, slp)) t) A) (by decide) rfl (Nat.le_of_ble_eq_true rfl) (fun p e s m below meth c A hsz C hin => ?_)
  refine KW.loc (lv' := [(0, .ref (q 0)), (1, .int (nI ii)), (2, .int (nI 4))]) [0, 1, 2] rfl ?_
  refine kw_aload_n C 0 dX6_ink_0 rfl ?_
  refine kw_get (v := .ref (q 3)) (T := TX6) C 0 0 rfl rfl (by decide) (fun w h => mT (fwX6 w h)) rfl (mT wd_225) rfl dX6_ink_1 ?_
  refine kw_iload_n C 1 dX6_ink_4 rfl ?_
  refine kV_i (As := [.int (nI ii)]) (rest := []) (ws' := fun (u : Unit) => kMain y q (fun i => some (q (55 + 6 * i)), kp) ++ kWork y (fun i => q (3 + i)) (nI W, nI H, nI N, nI D, p1, p2, p3, col, od, blk, slp)) C (c_X5_hasInk l G y t (fun i => q (3 + i)) W H N D p1 p2 p3 col od blk slp (nI ii) (by first | assumption | omega | decide)) (cwV 1 C.2.2.2.2.1 (goodV cT wd_403 wd_400 wd_401 wd_402 wd_42) rfl rfl rfl (by decide +kernel) ⟨by decide, by decide⟩) [3, 4, 5, 6, 7, 8] [0, 1, 2] [0, 1, 2, 3, 4, 5, 6, 7, 8] rfl (by decide) rfl (by decide) (by decide) (fun _ => rfl) (by decide) 3 rfl rfl rfl (Nat.le_of_ble_eq_true rfl) ⟨by decide, by decide⟩ dX6_ink_5 (fun r u hr_1 => ?_)
  subst hr_1
  refine kw_if_ne_D (tgt := 14) C dX6_ink_8 (by decide) (fun c_8 => ?_) (fun c_8 => ?_)
  ·
    refine kw_iload_n C 2 dX6_ink_14 rfl ?_
    refine kw_tabIn (off := 86) (tgt := 101) (v := 4) C (by decide) dX6_ink_15 (by decide) (by decide) (by decide) (by decide) ?_
    refine kw_aload_n C 0 dX6_ink_101 rfl ?_
    refine kw_get (v := .ref (q 3)) (T := TX6) C 0 0 rfl rfl (by decide) (fun w h => mT (fwX6 w h)) rfl (mT wd_225) rfl dX6_ink_102 ?_
    refine kw_getN (v := .ref (q 8)) (T := TX5) C 3 8 rfl rfl (by decide) (fun w h => mT (fwX5 w h)) rfl (List.mem_of_getElem? (i := 15) rfl) rfl dX6_ink_105 ?_
    refine kw_iload_n C 1 dX6_ink_108 rfl ?_
    refine kw_iald (f := slp) C 8 rfl (by omega) (by decide) dX6_ink_109 ?_
    refine kw_top (show (slp ii) = (nI (kk ii)) from by exact (hsl ii hii).1) ?_
    have hk9 := (hsl ii hii).2
    refine kS_i (As := [.int (nI (kk ii))]) (rest := []) (ws' := fun (u : Unit) => kMain y q (fun i => some (q (55 + 6 * i)), kp) ++ kWork y (fun i => q (3 + i)) (nI W, nI H, nI N, nI D, p1, p2, p3, col, od, blk, slp)) C (c_X6_dxOf l G y t (kk ii) (by first | assumption | omega | decide)) (va_cwS 1 C.2.2.2.2.1 (goodS cT wd_444 wd_442 wd_443 wd_41) rfl rfl rfl (by decide +kernel) ⟨by decide, by decide⟩) [] [0, 1, 2, 3, 4, 5, 6, 7, 8] [0, 1, 2, 3, 4, 5, 6, 7, 8] rfl (by decide) rfl (by decide) (by decide) (fun _ => rfl) (by decide) rfl (Nat.le_of_ble_eq_true rfl) ⟨by decide, by decide⟩ dX6_ink_110 (fun r u hr_2 => ?_)
    subst hr_2
    refine kR_i C () dX6_ink_113 ?_ rfl
    first | rfl | trivial | (simp; done) | omega
  ·
    exact absurd (inR_of hii (by omega)) c_8

set_option maxHeartbeats 4000000 in
set_option maxRecDepth 100000 in
theorem c_X6_ink_5 (l : Launch) (G : va_G) (y : Nat → ClassId) (t : Nat) (q : Nat → Nat) (kp : Nat → Int32) (W : Nat) (H : Nat) (N : Nat) (D : Nat) (p1 : Int64) (p2 : Int64) (p3 : Int64) (col : Nat → Int32) (od : Nat → Int32) (blk : Nat → Int64) (slp : Nat → Int32) (o : Nat → Nat) (cl : Nat → Nat) (kk : Nat → Nat) (ii : Nat) (hN : N ≤ 6) (hii : ii < N) (hsl : ∀ i, i < N → slp i = nI (kk i) ∧ kk i < 9) (sz : Nat) : Met l yX6_ink (Cond.code yX6_ink cX6_ink 3 (some .int) :: TG) ({ frames := 1, cells := 0, slots := 0, locals := 21 }) (va_Pc [.ref (q 0), .int (nI ii), .int (nI 5)] (PR G y t (kMain y q (fun i => some (q (55 + 6 * i)), kp) ++ kWork y (fun i => q (3 + i)) (nI W, nI H, nI N, nI D, p1, p2, p3, col, od, blk, slp)) sz)) (va_Qi (fun (r : Int32) (u : Unit) => r = (nI (kk ii / 3) - nI 1)) (fun (u : Unit) t => PO G (va_A (kMain y q (fun i => some (q (55 + 6 * i)), kp) ++ kWork y (fun i => q (3 + i)) (nI W, nI H, nI N, nI D, p1, p2, p3, col, od, blk, slp)) sz) (kMain y q (fun i => some (q (55 + 6 * i)), kp) ++ kWork y (fun i => q (3 + i)) (nI W, nI H, nI N, nI D, p1, p2, p3, col, od, blk, slp)) t) (va_A (kMain y q (fun i => some (q (55 + 6 * i)), kp) ++ kWork y (fun i => q (3 + i)) (nI W, nI H, nI N, nI D, p1, p2, p3, col, od, blk, slp)) sz)) 0 0 (va_A (kMain y q (fun i => some (q (55 + 6 * i)), kp) ++ kWork y (fun i => q (3 + i)) (nI W, nI H, nI N, nI D, p1, p2, p3, col, od, blk, slp)) sz) := by
  refine kMet (cc := cX6_ink) (maxL := 3) (ret := some .int) (Qc := fun A => va_Qi (fun (r : Int32) (u : Unit) => r = (nI (kk ii / 3) - nI 1)) (fun (u : Unit) t => PO G A (kMain y q (fun i => some (q (55 + 6 * i)), kp) ++ kWork y (fun i => q (3 + i)) (nI W, nI H, nI N, nI D, p1, p2, p3, col, od, blk, slp)) t) A) (by decide) rfl (Nat.le_of_ble_eq_true rfl) (fun p e s m below meth c A hsz C hin => ?_)
  refine KW.loc (lv' := [(0, .ref (q 0)), (1, .int (nI ii)), (2, .int (nI 5))]) [0, 1, 2] rfl ?_
  refine kw_aload_n C 0 dX6_ink_0 rfl ?_
  refine kw_get (v := .ref (q 3)) (T := TX6) C 0 0 rfl rfl (by decide) (fun w h => mT (fwX6 w h)) rfl (mT wd_225) rfl dX6_ink_1 ?_
  refine kw_iload_n C 1 dX6_ink_4 rfl ?_
  refine kV_i (As := [.int (nI ii)]) (rest := []) (ws' := fun (u : Unit) => kMain y q (fun i => some (q (55 + 6 * i)), kp) ++ kWork y (fun i => q (3 + i)) (nI W, nI H, nI N, nI D, p1, p2, p3, col, od, blk, slp)) C (c_X5_hasInk l G y t (fun i => q (3 + i)) W H N D p1 p2 p3 col od blk slp (nI ii) (by first | assumption | omega | decide)) (cwV 1 C.2.2.2.2.1 (goodV cT wd_403 wd_400 wd_401 wd_402 wd_42) rfl rfl rfl (by decide +kernel) ⟨by decide, by decide⟩) [3, 4, 5, 6, 7, 8] [0, 1, 2] [0, 1, 2, 3, 4, 5, 6, 7, 8] rfl (by decide) rfl (by decide) (by decide) (fun _ => rfl) (by decide) 3 rfl rfl rfl (Nat.le_of_ble_eq_true rfl) ⟨by decide, by decide⟩ dX6_ink_5 (fun r u hr_1 => ?_)
  subst hr_1
  refine kw_if_ne_D (tgt := 14) C dX6_ink_8 (by decide) (fun c_8 => ?_) (fun c_8 => ?_)
  ·
    refine kw_iload_n C 2 dX6_ink_14 rfl ?_
    refine kw_tabIn (off := 99) (tgt := 114) (v := 5) C (by decide) dX6_ink_15 (by decide) (by decide) (by decide) (by decide) ?_
    refine kw_aload_n C 0 dX6_ink_114 rfl ?_
    refine kw_get (v := .ref (q 3)) (T := TX6) C 0 0 rfl rfl (by decide) (fun w h => mT (fwX6 w h)) rfl (mT wd_225) rfl dX6_ink_115 ?_
    refine kw_getN (v := .ref (q 8)) (T := TX5) C 3 8 rfl rfl (by decide) (fun w h => mT (fwX5 w h)) rfl (List.mem_of_getElem? (i := 15) rfl) rfl dX6_ink_118 ?_
    refine kw_iload_n C 1 dX6_ink_121 rfl ?_
    refine kw_iald (f := slp) C 8 rfl (by omega) (by decide) dX6_ink_122 ?_
    refine kw_top (show (slp ii) = (nI (kk ii)) from by exact (hsl ii hii).1) ?_
    have hk9 := (hsl ii hii).2
    refine kS_i (As := [.int (nI (kk ii))]) (rest := []) (ws' := fun (u : Unit) => kMain y q (fun i => some (q (55 + 6 * i)), kp) ++ kWork y (fun i => q (3 + i)) (nI W, nI H, nI N, nI D, p1, p2, p3, col, od, blk, slp)) C (c_X6_dyOf l G y t (kk ii) (by first | assumption | omega | decide)) (va_cwS 1 C.2.2.2.2.1 (goodS cT wd_441 wd_439 wd_440 wd_41) rfl rfl rfl (by decide +kernel) ⟨by decide, by decide⟩) [] [0, 1, 2, 3, 4, 5, 6, 7, 8] [0, 1, 2, 3, 4, 5, 6, 7, 8] rfl (by decide) rfl (by decide) (by decide) (fun _ => rfl) (by decide) rfl (Nat.le_of_ble_eq_true rfl) ⟨by decide, by decide⟩ dX6_ink_123 (fun r u hr_2 => ?_)
    subst hr_2
    refine kR_i C () dX6_ink_126 ?_ rfl
    first | rfl | trivial | (simp; done) | omega
  ·
    exact absurd (inR_of hii (by omega)) c_8

set_option maxHeartbeats 4000000 in
set_option maxRecDepth 100000 in
theorem c_X6_made_bad (l : Launch) (G : va_G) (y : Nat → ClassId) (t : Nat) (q : Nat → Nat) (kp : Nat → Int32) (W : Nat) (H : Nat) (N : Nat) (D : Nat) (p1 : Int64) (p2 : Int64) (p3 : Int64) (col : Nat → Int32) (od : Nat → Int32) (blk : Nat → Int64) (slp : Nat → Int32) (i : Int32) (hN : N ≤ 6) (hb : ¬ inR i (2 ^ N)) (sz : Nat) : Met l yX6_made (Cond.code yX6_made cX6_made 2 (some .int) :: TG) ({ frames := 1, cells := 0, slots := 0, locals := 20 }) (va_Pc [.ref (q 0), .int i] (PR G y t (kMain y q (fun i => some (q (55 + 6 * i)), kp) ++ kWork y (fun i => q (3 + i)) (nI W, nI H, nI N, nI D, p1, p2, p3, col, od, blk, slp)) sz)) (va_Qi (fun (r : Int32) (u : Unit) => r = (-1)) (fun (u : Unit) t => PO G (va_A (kMain y q (fun i => some (q (55 + 6 * i)), kp) ++ kWork y (fun i => q (3 + i)) (nI W, nI H, nI N, nI D, p1, p2, p3, col, od, blk, slp)) sz) (kMain y q (fun i => some (q (55 + 6 * i)), kp) ++ kWork y (fun i => q (3 + i)) (nI W, nI H, nI N, nI D, p1, p2, p3, col, od, blk, slp)) t) (va_A (kMain y q (fun i => some (q (55 + 6 * i)), kp) ++ kWork y (fun i => q (3 + i)) (nI W, nI H, nI N, nI D, p1, p2, p3, col, od, blk, slp)) sz)) 0 0 (va_A (kMain y q (fun i => some (q (55 + 6 * i)), kp) ++ kWork y (fun i => q (3 + i)) (nI W, nI H, nI N, nI D, p1, p2, p3, col, od, blk, slp)) sz) := by
  refine kMet (cc := cX6_made) (maxL := 2) (ret := some .int) (Qc := fun A => va_Qi (fun (r : Int32) (u : Unit) => r = (-1)) (fun (u : Unit) t => PO G A (kMain y q (fun i => some (q (55 + 6 * i)), kp) ++ kWork y (fun i => q (3 + i)) (nI W, nI H, nI N, nI D, p1, p2, p3, col, od, blk, slp)) t) A) (by decide) rfl (Nat.le_of_ble_eq_true rfl) (fun p e s m below meth c A hsz C hin => ?_)
  have h64 := pow6 hN
  refine KW.loc (lv' := [(0, .ref (q 0)), (1, .int i)]) [0, 1] rfl ?_
  refine kw_iload_n C 1 dX6_made_0 rfl ?_
  refine kw_if_lt (tgt := 15) C dX6_made_1 (by decide) (fun c_1 => ?_) (fun c_1 => ?_)
  ·
    refine kw_iconst (v := (-1)) C dX6_made_15 (by decide) ?_
    refine kR_i C () dX6_made_16 ?_ rfl
    first | rfl | trivial | (simp; done) | omega
  ·
    refine kw_iload_n C 1 dX6_made_4 rfl ?_
    refine kw_aload_n C 0 dX6_made_5 rfl ?_
    refine kw_get (v := .ref (q 3)) (T := TX6) C 0 0 rfl rfl (by decide) (fun w h => mT (fwX6 w h)) rfl (mT wd_225) rfl dX6_made_6 ?_
    refine kV_i (As := []) (rest := [.int i]) (ws' := fun (u : Unit) => kMain y q (fun i => some (q (55 + 6 * i)), kp) ++ kWork y (fun i => q (3 + i)) (nI W, nI H, nI N, nI D, p1, p2, p3, col, od, blk, slp)) C (c_X5_sets l G y t (fun i => q (3 + i)) W H N D p1 p2 p3 col od blk slp (by first | assumption | omega | decide)) (cwV 0 C.2.2.2.2.1 (goodV cT wd_358 wd_489 wd_356 wd_357 wd_42) rfl rfl rfl (by decide +kernel) ⟨by decide, by decide⟩) [3, 4, 5, 6, 7, 8] [0, 1, 2] [0, 1, 2, 3, 4, 5, 6, 7, 8] rfl (by decide) rfl (by decide) (by decide) (fun _ => rfl) (by decide) 3 rfl rfl rfl (Nat.le_of_ble_eq_true rfl) ⟨by decide, by decide⟩ dX6_made_9 (fun r u hr_1 => ?_)
    subst hr_1
    refine kw_icmp_lt (tgt := 17) C dX6_made_12 (by decide) (fun c_12 => ?_) (fun c_12 => ?_)
    ·
      exact absurd (ir5 (by omega) c_1 c_12) hb
    ·
      refine kw_iconst (v := (-1)) C dX6_made_15 (by decide) ?_
      refine kR_i C () dX6_made_16 ?_ rfl
      first | rfl | trivial | (simp; done) | omega

set_option maxHeartbeats 4000000 in
set_option maxRecDepth 100000 in
theorem c_X6_made_ok (l : Launch) (G : va_G) (y : Nat → ClassId) (t : Nat) (q : Nat → Nat) (kp : Nat → Int32) (W : Nat) (H : Nat) (N : Nat) (D : Nat) (p1 : Int64) (p2 : Int64) (p3 : Int64) (col : Nat → Int32) (od : Nat → Int32) (blk : Nat → Int64) (slp : Nat → Int32) (o : Nat → Nat) (cl : Nat → Nat) (kk : Nat → Nat) (set : Nat) (hN : N ≤ 6) (hD : D < 64) (hod : ∀ q, q < N → od q = nI (o q) ∧ o q < N) (hcol : ∀ i, i < N → col i = nI (cl i) ∧ cl i < 8) (hset : set < 2 ^ N) (sz : Nat) : Met l yX6_made (Cond.code yX6_made cX6_made 2 (some .int) :: TG) ({ frames := 3, cells := 0, slots := 0, locals := 70 }) (va_Pc [.ref (q 0), .int (nI set)] (PR G y t (kMain y q (fun i => some (q (55 + 6 * i)), kp) ++ kWork y (fun i => q (3 + i)) (nI W, nI H, nI N, nI D, p1, p2, p3, col, od, blk, slp)) sz)) (va_Qi (fun (r : Int32) (u : Unit) => r = (nI (cbyF D o cl set N))) (fun (u : Unit) t => PO G (va_A (kMain y q (fun i => some (q (55 + 6 * i)), kp) ++ kWork y (fun i => q (3 + i)) (nI W, nI H, nI N, nI D, p1, p2, p3, col, od, blk, slp)) sz) (kMain y q (fun i => some (q (55 + 6 * i)), kp) ++ kWork y (fun i => q (3 + i)) (nI W, nI H, nI N, nI D, p1, p2, p3, col, od, blk, slp)) t) (va_A (kMain y q (fun i => some (q (55 + 6 * i)), kp) ++ kWork y (fun i => q (3 + i)) (nI W, nI H, nI N, nI D, p1, p2, p3, col, od, blk, slp)) sz)) 0 0 (va_A (kMain y q (fun i => some (q (55 + 6 * i)), kp) ++ kWork y (fun i => q (3 + i)) (nI W, nI H, nI N, nI D, p1, p2, p3, col, od, blk, slp)) sz) := by
  refine kMet (cc := cX6_made) (maxL := 2) (ret := some .int) (Qc := fun A => va_Qi (fun (r : Int32) (u : Unit) => r = (nI (cbyF D o cl set N))) (fun (u : Unit) t => PO G A (kMain y q (fun i => some (q (55 + 6 * i)), kp) ++ kWork y (fun i => q (3 + i)) (nI W, nI H, nI N, nI D, p1, p2, p3, col, od, blk, slp)) t) A) (by decide) rfl (Nat.le_of_ble_eq_true rfl) (fun p e s m below meth c A hsz C hin => ?_)
  have h64 := pow6 hN
  refine KW.loc (lv' := [(0, .ref (q 0)), (1, .int (nI set))]) [0, 1] rfl ?_
  refine kw_iload_n C 1 dX6_made_0 rfl ?_
  refine kw_if_lt_N (tgt := 15) C (by omega) dX6_made_1 (by decide) ?_
  refine kw_iload_n C 1 dX6_made_4 rfl ?_
  refine kw_aload_n C 0 dX6_made_5 rfl ?_
  refine kw_get (v := .ref (q 3)) (T := TX6) C 0 0 rfl rfl (by decide) (fun w h => mT (fwX6 w h)) rfl (mT wd_225) rfl dX6_made_6 ?_
  refine kV_i (As := []) (rest := [.int (nI set)]) (ws' := fun (u : Unit) => kMain y q (fun i => some (q (55 + 6 * i)), kp) ++ kWork y (fun i => q (3 + i)) (nI W, nI H, nI N, nI D, p1, p2, p3, col, od, blk, slp)) C (c_X5_sets l G y t (fun i => q (3 + i)) W H N D p1 p2 p3 col od blk slp (by first | assumption | omega | decide)) (cwV 0 C.2.2.2.2.1 (goodV cT wd_358 wd_489 wd_356 wd_357 wd_42) rfl rfl rfl (by decide +kernel) ⟨by decide, by decide⟩) [3, 4, 5, 6, 7, 8] [0, 1, 2] [0, 1, 2, 3, 4, 5, 6, 7, 8] rfl (by decide) rfl (by decide) (by decide) (fun _ => rfl) (by decide) 3 rfl rfl rfl (Nat.le_of_ble_eq_true rfl) ⟨by decide, by decide⟩ dX6_made_9 (fun r u hr_1 => ?_)
  subst hr_1
  refine kw_icmp_lt_N (tgt := 17) C (by omega) (by omega) dX6_made_12 (by decide) (fun c_12 => ?_) (fun c_12 => ?_)
  ·
    refine kw_aload_n C 0 dX6_made_17 rfl ?_
    refine kw_get (v := .ref (q 3)) (T := TX6) C 0 0 rfl rfl (by decide) (fun w h => mT (fwX6 w h)) rfl (mT wd_225) rfl dX6_made_18 ?_
    refine kw_iload_n C 1 dX6_made_21 rfl ?_
    refine kV_i (As := [.int (nI set)]) (rest := []) (ws' := fun (u : Unit) => kMain y q (fun i => some (q (55 + 6 * i)), kp) ++ kWork y (fun i => q (3 + i)) (nI W, nI H, nI N, nI D, p1, p2, p3, col, od, blk, slp)) C (c_X5_coloursBy l G y t (fun i => q (3 + i)) W H N D p1 p2 p3 col od blk slp o cl kk set (by first | assumption | omega | decide) (by first | assumption | omega | decide) (by first | assumption | omega | decide) (by first | assumption | omega | decide) (by first | assumption | omega | decide)) (cwV 1 C.2.2.2.2.1 (goodV cT wd_368 wd_490 wd_366 wd_367 wd_42) rfl rfl rfl (by decide +kernel) ⟨by decide, by decide⟩) [3, 4, 5, 6, 7, 8] [0, 1, 2] [0, 1, 2, 3, 4, 5, 6, 7, 8] rfl (by decide) rfl (by decide) (by decide) (fun _ => rfl) (by decide) 3 rfl rfl rfl (Nat.le_of_ble_eq_true rfl) ⟨by decide, by decide⟩ dX6_made_22 (fun r u hr_2 => ?_)
    subst hr_2
    refine kR_i C () dX6_made_25 ?_ rfl
    first | rfl | trivial | (simp; done) | omega
  ·
    omega

set_option maxHeartbeats 4000000 in
set_option maxRecDepth 100000 in
theorem c_X6_least_bad (l : Launch) (G : va_G) (y : Nat → ClassId) (t : Nat) (q : Nat → Nat) (kp : Nat → Int32) (i : Int32) (hb : ¬ inR i 2) (sz : Nat) : Met l yX6_least (Cond.code yX6_least cX6_least 3 (some .int) :: TG) ({ frames := 0, cells := 0, slots := 0, locals := 0 }) (va_Pc [.ref (q 0), .int i] (PR G y t (kMain y q (fun i => some (q (55 + 6 * i)), kp)) sz)) (va_Qi (fun (r : Int32) (u : Unit) => r = (-1)) (fun (u : Unit) t => PO G (va_A (kMain y q (fun i => some (q (55 + 6 * i)), kp)) sz) (kMain y q (fun i => some (q (55 + 6 * i)), kp)) t) (va_A (kMain y q (fun i => some (q (55 + 6 * i)), kp)) sz)) 0 0 (va_A (kMain y q (fun i => some (q (55 + 6 * i)), kp)) sz) := by
  refine kMet (cc := cX6_least) (maxL := 3) (ret := some .int) (Qc := fun A => va_Qi (fun (r : Int32) (u : Unit) => r = (-1)) (fun (u : Unit) t => PO G A (kMain y q (fun i => some (q (55 + 6 * i)), kp)) t) A) (by decide) rfl (Nat.le_of_ble_eq_true rfl) (fun p e s m below meth c A hsz C hin => ?_)
  refine KW.loc (lv' := [(0, .ref (q 0)), (1, .int i)]) [0, 1] rfl ?_
  refine kw_iload_n C 1 dX6_least_0 rfl ?_
  refine kw_if_lt (tgt := 9) C dX6_least_1 (by decide) (fun c_1 => ?_) (fun c_1 => ?_)
  ·
    refine kw_iconst (v := (-1)) C dX6_least_9 (by decide) ?_
    refine kR_i C () dX6_least_10 ?_ rfl
    first | rfl | trivial | (simp; done) | omega
  ·
    refine kw_iload_n C 1 dX6_least_4 rfl ?_
    refine kw_iconst (v := nI 1) C dX6_least_5 (by decide) ?_
    refine kw_icmp_le (tgt := 11) C dX6_least_6 (by decide) (fun c_6 => ?_) (fun c_6 => ?_)
    ·
      exact absurd (ir4 (by decide) c_1 c_6) hb
    ·
      refine kw_iconst (v := (-1)) C dX6_least_9 (by decide) ?_
      refine kR_i C () dX6_least_10 ?_ rfl
      first | rfl | trivial | (simp; done) | omega

set_option maxHeartbeats 4000000 in
set_option maxRecDepth 100000 in
theorem c_X6_least_0 (l : Launch) (G : va_G) (y : Nat → ClassId) (t : Nat) (q : Nat → Nat) (kp : Nat → Int32) (W : Nat) (H : Nat) (N : Nat) (D : Nat) (p1 : Int64) (p2 : Int64) (p3 : Int64) (col : Nat → Int32) (od : Nat → Int32) (blk : Nat → Int64) (slp : Nat → Int32) (o : Nat → Nat) (cl : Nat → Nat) (kk : Nat → Nat) (hW : W ≤ 6) (hH : H ≤ 6) (hN : N ≤ 6) (hD : D < 64) (hod : ∀ q, q < N → od q = nI (o q) ∧ o q < N) (hcol : ∀ i, i < N → col i = nI (cl i) ∧ cl i < 8) (sz : Nat) : Met l yX6_least (Cond.code yX6_least cX6_least 3 (some .int) :: TG) ({ frames := 4, cells := 0, slots := 0, locals := 94 }) (va_Pc [.ref (q 0), .int (nI 0)] (PR G y t (kMain y q (fun i => some (q (55 + 6 * i)), kp) ++ kWork y (fun i => q (3 + i)) (nI W, nI H, nI N, nI D, p1, p2, p3, col, od, blk, slp)) sz)) (va_Qi (fun (r : Int32) (u : Unit) => r = (if lsF (palN p1 p2 p3 (papL W H) 8) (fun set => cbyF D o cl set N) (2 ^ N) = -9 then lsF (palN p1 p2 p3 (papL W H) 8) (fun set => cbyF D o cl set N) (2 ^ N) else pcI (lsF (palN p1 p2 p3 (papL W H) 8) (fun set => cbyF D o cl set N) (2 ^ N)))) (fun (u : Unit) t => PO G (va_A (kMain y q (fun i => some (q (55 + 6 * i)), kp) ++ kWork y (fun i => q (3 + i)) (nI W, nI H, nI N, nI D, p1, p2, p3, col, od, blk, slp)) sz) (kMain y q (fun i => some (q (55 + 6 * i)), kp) ++ kWork y (fun i => q (3 + i)) (nI W, nI H, nI N, nI D, p1, p2, p3, col, od, blk, slp)) t) (va_A (kMain y q (fun i => some (q (55 + 6 * i)), kp) ++ kWork y (fun i => q (3 + i)) (nI W, nI H, nI N, nI D, p1, p2, p3, col, od, blk, slp)) sz)) 0 0 (va_A (kMain y q (fun i => some (q (55 + 6 * i)), kp) ++ kWork y (fun i => q (3 + i)) (nI W, nI H, nI N, nI D, p1, p2, p3, col, od, blk, slp)) sz) := by
  refine kMet (cc := cX6_least) (maxL := 3) (ret := some .int) (Qc := fun A => va_Qi (fun (r : Int32) (u : Unit) => r = (if lsF (palN p1 p2 p3 (papL W H) 8) (fun set => cbyF D o cl set N) (2 ^ N) = -9 then lsF (palN p1 p2 p3 (papL W H) 8) (fun set => cbyF D o cl set N) (2 ^ N) else pcI (lsF (palN p1 p2 p3 (papL W H) 8) (fun set => cbyF D o cl set N) (2 ^ N)))) (fun (u : Unit) t => PO G A (kMain y q (fun i => some (q (55 + 6 * i)), kp) ++ kWork y (fun i => q (3 + i)) (nI W, nI H, nI N, nI D, p1, p2, p3, col, od, blk, slp)) t) A) (by decide) rfl (Nat.le_of_ble_eq_true rfl) (fun p e s m below meth c A hsz C hin => ?_)
  refine KW.loc (lv' := [(0, .ref (q 0)), (1, .int (nI 0))]) [0, 1] rfl ?_
  refine kw_iload_n C 1 dX6_least_0 rfl ?_
  refine kw_if_lt_N (tgt := 9) C (by omega) dX6_least_1 (by decide) ?_
  refine kw_iload_n C 1 dX6_least_4 rfl ?_
  refine kw_iconst (v := nI 1) C dX6_least_5 (by decide) ?_
  refine kw_icmp_le_N (tgt := 11) C (by omega) (by omega) dX6_least_6 (by decide) (fun c_6 => ?_) (fun c_6 => ?_)
  ·
    refine kw_aload_n C 0 dX6_least_11 rfl ?_
    refine kw_get (v := .ref (q 3)) (T := TX6) C 0 0 rfl rfl (by decide) (fun w h => mT (fwX6 w h)) rfl (mT wd_225) rfl dX6_least_12 ?_
    refine kV_i (As := []) (rest := []) (ws' := fun (u : Unit) => kMain y q (fun i => some (q (55 + 6 * i)), kp) ++ kWork y (fun i => q (3 + i)) (nI W, nI H, nI N, nI D, p1, p2, p3, col, od, blk, slp)) C (c_X5_leastSet l G y t (fun i => q (3 + i)) W H N D p1 p2 p3 col od blk slp o cl kk (by first | assumption | omega | decide) (by first | assumption | omega | decide) (by first | assumption | omega | decide) (by first | assumption | omega | decide) (by first | assumption | omega | decide) (by first | assumption | omega | decide)) (cwV 0 C.2.2.2.2.1 (goodV cT wd_342 wd_339 wd_340 wd_341 wd_42) rfl rfl rfl (by decide +kernel) ⟨by decide, by decide⟩) [3, 4, 5, 6, 7, 8] [0, 1, 2] [0, 1, 2, 3, 4, 5, 6, 7, 8] rfl (by decide) rfl (by decide) (by decide) (fun _ => rfl) (by decide) 3 rfl rfl rfl (Nat.le_of_ble_eq_true rfl) ⟨by decide, by decide⟩ dX6_least_15 (fun r u hr_1 => ?_)
    subst hr_1
    refine kw_istore_n C [(2, .int (lsF (palN p1 p2 p3 (papL W H) 8) (fun set => cbyF D o cl set N) (2 ^ N))), (0, .ref (q 0)), (1, .int (nI 0))] dX6_least_18 rfl (by decide) rfl ?_
    refine kw_iload_n C 0 dX6_least_19 rfl ?_
    refine kw_bipush (v := (-9)) C dX6_least_20 (by decide) ?_
    refine kw_icmp_eq (tgt := 30) C dX6_least_22 (by decide) (fun c_22 => ?_) (fun c_22 => ?_)
    ·
      refine kw_iload_n C 0 dX6_least_30 rfl ?_
      refine kR_i C () dX6_least_31 ?_ rfl
      rw [if_pos c_22]
    ·
      refine kw_iload_n C 2 dX6_least_25 rfl ?_
      refine kw_iconst (v := nI 1) C dX6_least_26 (by decide) ?_
      refine kw_icmp_ne_N (tgt := 32) C (by omega) (by omega) dX6_least_27 (by decide) (fun c_27 => ?_) (fun c_27 => ?_)
      ·
        refine kw_iload_n C 0 dX6_least_32 rfl ?_
        refine kS_i (As := [.int (lsF (palN p1 p2 p3 (papL W H) 8) (fun set => cbyF D o cl set N) (2 ^ N))]) (rest := []) (ws' := fun (u : Unit) => kMain y q (fun i => some (q (55 + 6 * i)), kp) ++ kWork y (fun i => q (3 + i)) (nI W, nI H, nI N, nI D, p1, p2, p3, col, od, blk, slp)) C (c_J6_bitCount_0f7a4 l G y t (lsF (palN p1 p2 p3 (papL W H) 8) (fun set => cbyF D o cl set N) (2 ^ N))) (va_cwS 1 C.2.2.2.2.1 (goodS cT wd_361 wd_395 wd_360 wd_51) rfl rfl rfl (by decide +kernel) ⟨by decide, by decide⟩) [] [0, 1, 2, 3, 4, 5, 6, 7, 8] [0, 1, 2, 3, 4, 5, 6, 7, 8] rfl (by decide) rfl (by decide) (by decide) (fun _ => rfl) (by decide) rfl (Nat.le_of_ble_eq_true rfl) ⟨by decide, by decide⟩ dX6_least_33 (fun r u hr_2 => ?_)
        subst hr_2
        refine kR_i C () dX6_least_36 ?_ rfl
        rw [if_neg c_22]
      ·
        omega
  ·
    omega

set_option maxHeartbeats 4000000 in
set_option maxRecDepth 100000 in
theorem c_X6_least_1 (l : Launch) (G : va_G) (y : Nat → ClassId) (t : Nat) (q : Nat → Nat) (kp : Nat → Int32) (W : Nat) (H : Nat) (N : Nat) (D : Nat) (p1 : Int64) (p2 : Int64) (p3 : Int64) (col : Nat → Int32) (od : Nat → Int32) (blk : Nat → Int64) (slp : Nat → Int32) (o : Nat → Nat) (cl : Nat → Nat) (kk : Nat → Nat) (hW : W ≤ 6) (hH : H ≤ 6) (hN : N ≤ 6) (hD : D < 64) (hod : ∀ q, q < N → od q = nI (o q) ∧ o q < N) (hcol : ∀ i, i < N → col i = nI (cl i) ∧ cl i < 8) (sz : Nat) : Met l yX6_least (Cond.code yX6_least cX6_least 3 (some .int) :: TG) ({ frames := 4, cells := 0, slots := 0, locals := 94 }) (va_Pc [.ref (q 0), .int (nI 1)] (PR G y t (kMain y q (fun i => some (q (55 + 6 * i)), kp) ++ kWork y (fun i => q (3 + i)) (nI W, nI H, nI N, nI D, p1, p2, p3, col, od, blk, slp)) sz)) (va_Qi (fun (r : Int32) (u : Unit) => r = (lsF (palN p1 p2 p3 (papL W H) 8) (fun set => cbyF D o cl set N) (2 ^ N))) (fun (u : Unit) t => PO G (va_A (kMain y q (fun i => some (q (55 + 6 * i)), kp) ++ kWork y (fun i => q (3 + i)) (nI W, nI H, nI N, nI D, p1, p2, p3, col, od, blk, slp)) sz) (kMain y q (fun i => some (q (55 + 6 * i)), kp) ++ kWork y (fun i => q (3 + i)) (nI W, nI H, nI N, nI D, p1, p2, p3, col, od, blk, slp)) t) (va_A (kMain y q (fun i => some (q (55 + 6 * i)), kp) ++ kWork y (fun i => q (3 + i)) (nI W, nI H, nI N, nI D, p1, p2, p3, col, od, blk, slp)) sz)) 0 0 (va_A (kMain y q (fun i => some (q (55 + 6 * i)), kp) ++ kWork y (fun i => q (3 + i)) (nI W, nI H, nI N, nI D, p1, p2, p3, col, od, blk, slp)) sz) := by
  refine kMet (cc := cX6_least) (maxL := 3) (ret := some .int) (Qc := fun A => va_Qi (fun (r : Int32) (u : Unit) => r = (lsF (palN p1 p2 p3 (papL W H) 8) (fun set => cbyF D o cl set N) (2 ^ N))) (fun (u : Unit) t => PO G A (kMain y q (fun i => some (q (55 + 6 * i)), kp) ++ kWork y (fun i => q (3 + i)) (nI W, nI H, nI N, nI D, p1, p2, p3, col, od, blk, slp)) t) A) (by decide) rfl (Nat.le_of_ble_eq_true rfl) (fun p e s m below meth c A hsz C hin => ?_)
  refine KW.loc (lv' := [(0, .ref (q 0)), (1, .int (nI 1))]) [0, 1] rfl ?_
  refine kw_iload_n C 1 dX6_least_0 rfl ?_
  refine kw_if_lt_N (tgt := 9) C (by omega) dX6_least_1 (by decide) ?_
  refine kw_iload_n C 1 dX6_least_4 rfl ?_
  refine kw_iconst (v := nI 1) C dX6_least_5 (by decide) ?_
  refine kw_icmp_le_N (tgt := 11) C (by omega) (by omega) dX6_least_6 (by decide) (fun c_6 => ?_) (fun c_6 => ?_)
  ·
    refine kw_aload_n C 0 dX6_least_11 rfl ?_
    refine kw_get (v := .ref (q 3)) (T := TX6) C 0 0 rfl rfl (by decide) (fun w h => mT (fwX6 w h)) rfl (mT wd_225) rfl dX6_least_12 ?_
    refine kV_i (As := []) (rest := []) (ws' := fun (u : Unit) => kMain y q (fun i => some (q (55 + 6 * i)), kp) ++ kWork y (fun i => q (3 + i)) (nI W, nI H, nI N, nI D, p1, p2, p3, col, od, blk, slp)) C (c_X5_leastSet l G y t (fun i => q (3 + i)) W H N D p1 p2 p3 col od blk slp o cl kk (by first | assumption | omega | decide) (by first | assumption | omega | decide) (by first | assumption | omega | decide) (by first | assumption | omega | decide) (by first | assumption | omega | decide) (by first | assumption | omega | decide)) (cwV 0 C.2.2.2.2.1 (goodV cT wd_342 wd_339 wd_340 wd_341 wd_42) rfl rfl rfl (by decide +kernel) ⟨by decide, by decide⟩) [3, 4, 5, 6, 7, 8] [0, 1, 2] [0, 1, 2, 3, 4, 5, 6, 7, 8] rfl (by decide) rfl (by decide) (by decide) (fun _ => rfl) (by decide) 3 rfl rfl rfl (Nat.le_of_ble_eq_true rfl) ⟨by decide, by decide⟩ dX6_least_15 (fun r u hr_1 => ?_)
    subst hr_1
    refine kw_istore_n C [(2, .int (lsF (palN p1 p2 p3 (papL W H) 8) (fun set => cbyF D o cl set N) (2 ^ N))), (0, .ref (q 0)), (1, .int (nI 1))] dX6_least_18 rfl (by decide) rfl ?_
    refine kw_iload_n C 0 dX6_least_19 rfl ?_
    refine kw_bipush (v := (-9)) C dX6_least_20 (by decide) ?_
    refine kw_icmp_eq (tgt := 30) C dX6_least_22 (by decide) (fun c_22 => ?_) (fun c_22 => ?_)
    ·
      refine kw_iload_n C 0 dX6_least_30 rfl ?_
      refine kR_i C () dX6_least_31 ?_ rfl
      first | rfl | trivial | (simp; done) | omega
    ·
      refine kw_iload_n C 2 dX6_least_25 rfl ?_
      refine kw_iconst (v := nI 1) C dX6_least_26 (by decide) ?_
      refine kw_icmp_ne_N (tgt := 32) C (by omega) (by omega) dX6_least_27 (by decide) (fun c_27 => ?_) (fun c_27 => ?_)
      ·
        omega
      ·
        refine kw_iload_n C 0 dX6_least_30 rfl ?_
        refine kR_i C () dX6_least_31 ?_ rfl
        first | rfl | trivial | (simp; done) | omega
  ·
    omega

set_option maxHeartbeats 4000000 in
set_option maxRecDepth 100000 in
theorem c_X6_order_bad (l : Launch) (G : va_G) (y : Nat → ClassId) (t : Nat) (q : Nat → Nat) (kp : Nat → Int32) (i : Int32) (hb : i < -1) (sz : Nat) : Met l yX6_order (Cond.code yX6_order cX6_order 2 (some .int) :: TG) ({ frames := 0, cells := 0, slots := 0, locals := 0 }) (va_Pc [.ref (q 0), .int i] (PR G y t (kMain y q (fun i => some (q (55 + 6 * i)), kp)) sz)) (va_Qi (fun (r : Int32) (u : Unit) => r = (-1)) (fun (u : Unit) t => PO G (va_A (kMain y q (fun i => some (q (55 + 6 * i)), kp)) sz) (kMain y q (fun i => some (q (55 + 6 * i)), kp)) t) (va_A (kMain y q (fun i => some (q (55 + 6 * i)), kp)) sz)) 0 0 (va_A (kMain y q (fun i => some (q (55 + 6 * i)), kp)) sz) := by
  refine kMet (cc := cX6_order) (maxL := 2) (ret := some .int) (Qc := fun A => va_Qi (fun (r : Int32) (u : Unit) => r = (-1)) (fun (u : Unit) t => PO G A (kMain y q (fun i => some (q (55 + 6 * i)), kp)) t) A) (by decide) rfl (Nat.le_of_ble_eq_true rfl) (fun p e s m below meth c A hsz C hin => ?_)
  refine KW.loc (lv' := [(0, .ref (q 0)), (1, .int i)]) [0, 1] rfl ?_
  refine kw_iload_n C 1 dX6_order_0 rfl ?_
  refine kw_iconst (v := (-1)) C dX6_order_1 (by decide) ?_
  refine kw_icmp_ge (tgt := 7) C dX6_order_2 (by decide) (fun c_2 => ?_) (fun c_2 => ?_)
  ·
    exact absurd hb (Int32.not_lt.mpr c_2)
  ·
    refine kw_iconst (v := (-1)) C dX6_order_5 (by decide) ?_
    refine kR_i C () dX6_order_6 ?_ rfl
    first | rfl | trivial | (simp; done) | omega

set_option maxHeartbeats 4000000 in
set_option maxRecDepth 100000 in
theorem c_X6_order_big (l : Launch) (G : va_G) (y : Nat → ClassId) (t : Nat) (q : Nat → Nat) (kp : Nat → Int32) (W : Nat) (H : Nat) (N : Nat) (D : Nat) (p1 : Int64) (p2 : Int64) (p3 : Int64) (col : Nat → Int32) (od : Nat → Int32) (blk : Nat → Int64) (slp : Nat → Int32) (i : Int32) (hb : ¬ i < -1) (hbg : nI N ≤ i) (sz : Nat) : Met l yX6_order (Cond.code yX6_order cX6_order 2 (some .int) :: TG) ({ frames := 0, cells := 0, slots := 0, locals := 0 }) (va_Pc [.ref (q 0), .int i] (PR G y t (kMain y q (fun i => some (q (55 + 6 * i)), kp) ++ kWork y (fun i => q (3 + i)) (nI W, nI H, nI N, nI D, p1, p2, p3, col, od, blk, slp)) sz)) (va_Qi (fun (r : Int32) (u : Unit) => r = (-9)) (fun (u : Unit) t => PO G (va_A (kMain y q (fun i => some (q (55 + 6 * i)), kp) ++ kWork y (fun i => q (3 + i)) (nI W, nI H, nI N, nI D, p1, p2, p3, col, od, blk, slp)) sz) (kMain y q (fun i => some (q (55 + 6 * i)), kp) ++ kWork y (fun i => q (3 + i)) (nI W, nI H, nI N, nI D, p1, p2, p3, col, od, blk, slp)) t) (va_A (kMain y q (fun i => some (q (55 + 6 * i)), kp) ++ kWork y (fun i => q (3 + i)) (nI W, nI H, nI N, nI D, p1, p2, p3, col, od, blk, slp)) sz)) 0 0 (va_A (kMain y q (fun i => some (q (55 + 6 * i)), kp) ++ kWork y (fun i => q (3 + i)) (nI W, nI H, nI N, nI D, p1, p2, p3, col, od, blk, slp)) sz) := by
  refine kMet (cc := cX6_order) (maxL := 2) (ret := some .int) (Qc := fun A => va_Qi (fun (r : Int32) (u : Unit) => r = (-9)) (fun (u : Unit) t => PO G A (kMain y q (fun i => some (q (55 + 6 * i)), kp) ++ kWork y (fun i => q (3 + i)) (nI W, nI H, nI N, nI D, p1, p2, p3, col, od, blk, slp)) t) A) (by decide) rfl (Nat.le_of_ble_eq_true rfl) (fun p e s m below meth c A hsz C hin => ?_)
  refine KW.loc (lv' := [(0, .ref (q 0)), (1, .int i)]) [0, 1] rfl ?_
  refine kw_iload_n C 1 dX6_order_0 rfl ?_
  refine kw_iconst (v := (-1)) C dX6_order_1 (by decide) ?_
  refine kw_icmp_ge (tgt := 7) C dX6_order_2 (by decide) (fun c_2 => ?_) (fun c_2 => ?_)
  ·
    refine kw_iload_n C 1 dX6_order_7 rfl ?_
    refine kw_aload_n C 0 dX6_order_8 rfl ?_
    refine kw_get (v := .ref (q 3)) (T := TX6) C 0 0 rfl rfl (by decide) (fun w h => mT (fwX6 w h)) rfl (mT wd_225) rfl dX6_order_9 ?_
    refine kw_getN (v := .int (nI N)) (T := TX5) C 3 2 rfl rfl (by decide) (fun w h => mT (fwX5 w h)) rfl (List.mem_of_getElem? (i := 8) rfl) rfl dX6_order_12 ?_
    refine kw_icmp_lt (tgt := 21) C dX6_order_15 (by decide) (fun c_15 => ?_) (fun c_15 => ?_)
    ·
      exact absurd c_15 (Int32.not_lt.mpr hbg)
    ·
      refine kw_bipush (v := (-9)) C dX6_order_18 (by decide) ?_
      refine kR_i C () dX6_order_20 ?_ rfl
      first | rfl | trivial | (simp; done) | omega
  ·
    exact absurd (not_le32 c_2) hb

set_option maxHeartbeats 4000000 in
set_option maxRecDepth 100000 in
theorem c_X6_order_run (l : Launch) (G : va_G) (y : Nat → ClassId) (t : Nat) (q : Nat → Nat) (kp : Nat → Int32) (W : Nat) (H : Nat) (N : Nat) (D : Nat) (p1 : Int64) (p2 : Int64) (p3 : Int64) (col : Nat → Int32) (od : Nat → Int32) (blk : Nat → Int64) (slp : Nat → Int32) (o : Nat → Nat) (cl : Nat → Nat) (kk : Nat → Nat) (pal : Int32) (fnd : Bool) (few : Int32) (bst : Int32) (srw : Nat → Int32) (g : Nat) (hW : W ≤ 6) (hH : H ≤ 6) (hN : N ≤ 6) (hD : D < 64) (hod : ∀ q, q < N → od q = nI (o q) ∧ o q < N) (hcol : ∀ i, i < N → col i = nI (cl i) ∧ cl i < 8) (hg : g ≤ N) (sz : Nat) : Met l yX6_order (Cond.code yX6_order cX6_order 2 (some .int) :: TG) ({ frames := 10, cells := 0, slots := 0, locals := 263 }) (va_Pc [.ref (q 0), .int (gs g)] (PR G y t (kMain y q (fun i => some (q (55 + 6 * i)), kp) ++ (kWork y (fun i => q (3 + i)) (nI W, nI H, nI N, nI D, p1, p2, p3, col, od, blk, slp) ++ kSearch y (fun i => q (73 + i)) (pal, bI fnd, few, bst, srw))) sz)) (va_Qi (fun (r : Int32) (u : Bool × Nat × Int32 × (Nat → Int32)) => r = (if (grF N D (palN p1 p2 p3 (papL W H) 8) cl 6 [] 0 1 (false, 0, nI 0)).1 = false then (-9) else if g = 0 then nI (grF N D (palN p1 p2 p3 (papL W H) 8) cl 6 [] 0 1 (false, 0, nI 0)).2.1 else ((grF N D (palN p1 p2 p3 (papL W H) 8) cl 6 [] 0 1 (false, 0, nI 0)).2.2 >>> (nI (3 * (N - 1 - (g - 1))) &&& 31)) &&& nI 7)) (fun (u : Bool × Nat × Int32 × (Nat → Int32)) t => PO G (va_A (kMain y q (fun i => some (q (55 + 6 * i)), kp) ++ (kWork y (fun i => q (3 + i)) (nI W, nI H, nI N, nI D, p1, p2, p3, col, od, blk, slp) ++ kSearch y (fun i => q (73 + i)) (pal, bI fnd, few, bst, srw))) sz) (kMain y q (fun i => some (q (55 + 6 * i)), kp) ++ (kWork y (fun i => q (3 + i)) (nI W, nI H, nI N, nI D, p1, p2, p3, col, od, blk, slp) ++ kSearch y (fun i => q (73 + i)) (nI (palN p1 p2 p3 (papL W H) 8), bI u.1, nI u.2.1, u.2.2.1, u.2.2.2))) t) (va_A (kMain y q (fun i => some (q (55 + 6 * i)), kp) ++ (kWork y (fun i => q (3 + i)) (nI W, nI H, nI N, nI D, p1, p2, p3, col, od, blk, slp) ++ kSearch y (fun i => q (73 + i)) (pal, bI fnd, few, bst, srw))) sz)) 0 0 (va_A (kMain y q (fun i => some (q (55 + 6 * i)), kp) ++ (kWork y (fun i => q (3 + i)) (nI W, nI H, nI N, nI D, p1, p2, p3, col, od, blk, slp) ++ kSearch y (fun i => q (73 + i)) (pal, bI fnd, few, bst, srw))) sz) := by
  refine kMet (cc := cX6_order) (maxL := 2) (ret := some .int) (Qc := fun A => va_Qi (fun (r : Int32) (u : Bool × Nat × Int32 × (Nat → Int32)) => r = (if (grF N D (palN p1 p2 p3 (papL W H) 8) cl 6 [] 0 1 (false, 0, nI 0)).1 = false then (-9) else if g = 0 then nI (grF N D (palN p1 p2 p3 (papL W H) 8) cl 6 [] 0 1 (false, 0, nI 0)).2.1 else ((grF N D (palN p1 p2 p3 (papL W H) 8) cl 6 [] 0 1 (false, 0, nI 0)).2.2 >>> (nI (3 * (N - 1 - (g - 1))) &&& 31)) &&& nI 7)) (fun (u : Bool × Nat × Int32 × (Nat → Int32)) t => PO G A (kMain y q (fun i => some (q (55 + 6 * i)), kp) ++ (kWork y (fun i => q (3 + i)) (nI W, nI H, nI N, nI D, p1, p2, p3, col, od, blk, slp) ++ kSearch y (fun i => q (73 + i)) (nI (palN p1 p2 p3 (papL W H) 8), bI u.1, nI u.2.1, u.2.2.1, u.2.2.2))) t) A) (by decide) rfl (Nat.le_of_ble_eq_true rfl) (fun p e s m below meth c A hsz C hin => ?_)
  refine KW.loc (lv' := [(0, .ref (q 0)), (1, .int (gs g))]) [0, 1] rfl ?_
  refine kw_iload_n C 1 dX6_order_0 rfl ?_
  refine kw_iconst (v := (-1)) C dX6_order_1 (by decide) ?_
  refine kw_icmp_ge (tgt := 7) C dX6_order_2 (by decide) (fun c_2 => ?_) (fun c_2 => ?_)
  ·
    refine kw_iload_n C 1 dX6_order_7 rfl ?_
    refine kw_aload_n C 0 dX6_order_8 rfl ?_
    refine kw_get (v := .ref (q 3)) (T := TX6) C 0 0 rfl rfl (by decide) (fun w h => mT (fwX6 w h)) rfl (mT wd_225) rfl dX6_order_9 ?_
    refine kw_getN (v := .int (nI N)) (T := TX5) C 3 2 rfl rfl (by decide) (fun w h => mT (fwX5 w h)) rfl (List.mem_of_getElem? (i := 8) rfl) rfl dX6_order_12 ?_
    refine kw_icmp_lt (tgt := 21) C dX6_order_15 (by decide) (fun c_15 => ?_) (fun c_15 => ?_)
    ·
      refine kw_aload_n C 0 dX6_order_21 rfl ?_
      refine kw_get (v := .ref (q 73)) (T := TX6) C 0 7 rfl rfl (by decide) (fun w h => mT (fwX6 w h)) rfl (mT wd_232) rfl dX6_order_22 ?_
      refine kw_aload_n C 0 dX6_order_25 rfl ?_
      refine kw_get (v := .ref (q 3)) (T := TX6) C 0 0 rfl rfl (by decide) (fun w h => mT (fwX6 w h)) rfl (mT wd_225) rfl dX6_order_26 ?_
      refine kV_v (As := [.ref (q 3)]) (rest := []) (ws' := fun (u : Bool × Nat × Int32 × (Nat → Int32)) => kMain y q (fun i => some (q (55 + 6 * i)), kp) ++ (kWork y (fun i => q (3 + i)) (nI W, nI H, nI N, nI D, p1, p2, p3, col, od, blk, slp) ++ kSearch y (fun i => q (73 + i)) (nI (palN p1 p2 p3 (papL W H) 8), bI u.1, nI u.2.1, u.2.2.1, u.2.2.2))) C (c_X1_run l G y t (fun i => q (73 + i)) pal fnd few bst srw (fun i => q (3 + i)) W H N D p1 p2 p3 col od blk slp o cl kk (by first | assumption | omega | decide) (by first | assumption | omega | decide) (by first | assumption | omega | decide) (by first | assumption | omega | decide) (by first | assumption | omega | decide) (by first | assumption | omega | decide)) (cwV 1 C.2.2.2.2.1 (goodV cT wd_502 wd_499 wd_500 wd_501 wd_47) rfl rfl rfl (by decide +kernel) ⟨by decide, by decide⟩) [9, 10, 3, 4, 5, 6, 7, 8] [0, 1, 2] [0, 1, 2, 5, 6, 7, 8, 9, 10, 3, 4] rfl (by decide) rfl (by decide) (by decide) (fun _ => rfl) (by decide) 9 rfl rfl rfl (Nat.le_of_ble_eq_true rfl) ⟨by decide, by decide⟩ dX6_order_29 (fun u hr_2 => ?_)
      obtain ⟨f1, f2, f3, srw1_1⟩ := u
      try dsimp only at hr_2
      have hpo := hr_2
      refine kw_aload_n C 0 dX6_order_32 rfl ?_
      refine kw_get (v := .ref (q 73)) (T := TX6) C 0 7 rfl rfl (by decide) (fun w h => mT (fwX6 w h)) rfl (mT wd_232) rfl dX6_order_33 ?_
      refine kw_getN (v := .int (bI f1)) (T := TX1) C 9 2 rfl rfl (by decide) (fun w h => mT (fwX1 w h)) rfl (List.mem_of_getElem? (i := 19) rfl) rfl dX6_order_36 ?_
      refine kw_if_ne_B (tgt := 45) C dX6_order_39 (by decide) (fun c_39 => ?_) (fun c_39 => ?_)
      ·
        refine kw_iload_n C 1 dX6_order_45 rfl ?_
        refine kw_iconst (v := (-1)) C dX6_order_46 (by decide) ?_
        refine kw_icmp_ne (tgt := 60) C dX6_order_47 (by decide) (fun c_47 => ?_) (fun c_47 => ?_)
        ·
          have hg0 : ¬ g = 0 := fun h => c_47 ((gs_m1 (by omega)).mpr h)
          refine kw_aload_n C 0 dX6_order_60 rfl ?_
          refine kw_get (v := .ref (q 73)) (T := TX6) C 0 7 rfl rfl (by decide) (fun w h => mT (fwX6 w h)) rfl (mT wd_232) rfl dX6_order_61 ?_
          refine kw_iload_n C 1 dX6_order_64 rfl ?_
          refine kw_top (show (gs g) = (nI (g - 1)) from by rw [show g = (g - 1) + 1 from by omega, gs_s]; rfl) ?_
          refine kw_aload_n C 0 dX6_order_65 rfl ?_
          refine kw_get (v := .ref (q 3)) (T := TX6) C 0 0 rfl rfl (by decide) (fun w h => mT (fwX6 w h)) rfl (mT wd_225) rfl dX6_order_66 ?_
          refine kw_getN (v := .int (nI N)) (T := TX5) C 3 2 rfl rfl (by decide) (fun w h => mT (fwX5 w h)) rfl (List.mem_of_getElem? (i := 8) rfl) rfl dX6_order_69 ?_
          refine kV_i (As := [.int (nI (g - 1)), .int (nI N)]) (rest := []) (ws' := fun (u : Unit) => kMain y q (fun i => some (q (55 + 6 * i)), kp) ++ (kWork y (fun i => q (3 + i)) (nI W, nI H, nI N, nI D, p1, p2, p3, col, od, blk, slp) ++ kSearch y (fun i => q (73 + i)) (nI (palN p1 p2 p3 (papL W H) 8), bI f1, nI f2, f3, srw1_1))) C (c_X1_inkAt l G y t (fun i => q (73 + i)) (palN p1 p2 p3 (papL W H) 8) f1 f2 f3 srw1_1 N (g - 1) (by first | assumption | omega | decide) (by first | assumption | omega | decide)) (cwV 2 C.2.2.2.2.1 (goodV cT wd_519 wd_516 wd_517 wd_518 wd_47) rfl rfl rfl (by decide +kernel) ⟨by decide, by decide⟩) [9, 10] [0, 1, 2, 3, 4, 5, 6, 7, 8] [0, 1, 2, 3, 4, 5, 6, 7, 8, 9, 10] rfl (by decide) rfl (by decide) (by decide) (fun _ => rfl) (by decide) 9 rfl rfl rfl (Nat.le_of_ble_eq_true rfl) ⟨by decide, by decide⟩ dX6_order_72 (fun r u hr_3 => ?_)
          subst hr_3
          refine kR_i C (f1, f2, f3, srw1_1) dX6_order_75 ?_ rfl
          first | (rw [← hpo.1, if_neg (by rw [c_39]; simp), if_pos hg0]; done) | (rw [← hpo.1, if_neg (by rw [c_39]; simp), if_neg hg0]; done)
        ·
          have hg0 : g = 0 := (gs_m1 (by omega)).mp c_47
          refine kw_aload_n C 0 dX6_order_50 rfl ?_
          refine kw_get (v := .ref (q 73)) (T := TX6) C 0 7 rfl rfl (by decide) (fun w h => mT (fwX6 w h)) rfl (mT wd_232) rfl dX6_order_51 ?_
          refine kw_getN (v := .int (nI f2)) (T := TX1) C 9 3 rfl rfl (by decide) (fun w h => mT (fwX1 w h)) rfl (List.mem_of_getElem? (i := 20) rfl) rfl dX6_order_54 ?_
          refine kw_goto (tgt := 75) C dX6_order_57 (by decide) ?_
          refine kR_i C (f1, f2, f3, srw1_1) dX6_order_75 ?_ rfl
          first | (rw [← hpo.1, if_neg (by rw [c_39]; simp), if_pos hg0]; done) | (rw [← hpo.1, if_neg (by rw [c_39]; simp), if_neg hg0]; done)
      ·
        refine kw_bipush (v := (-9)) C dX6_order_42 (by decide) ?_
        refine kR_i C (f1, f2, f3, srw1_1) dX6_order_44 ?_ rfl
        rw [← hpo.1, if_pos c_39]
    ·
      exact absurd ((gs_ge (by omega) (by omega)).mp (Int32.not_lt.mp c_15)) (by omega)
  ·
    exact absurd (gs_le (by omega)) c_2

set_option maxHeartbeats 4000000 in
set_option maxRecDepth 100000 in
theorem c_X6_sees_bad (l : Launch) (G : va_G) (y : Nat → ClassId) (t : Nat) (q : Nat → Nat) (kp : Nat → Int32) (x : Int32) (z : Int32) (v : Int32) (hb : ¬ ((inR x 6 ∧ inR z 6) ∧ inR v 8)) (sz : Nat) : Met l yX6_sees (Cond.code yX6_sees cX6_sees 4 (some .int) :: TG) ({ frames := 1, cells := 0, slots := 0, locals := 21 }) (va_Pc [.ref (q 0), .int x, .int z, .int v] (PR G y t (kMain y q (fun i => some (q (55 + 6 * i)), kp)) sz)) (va_Qi (fun (r : Int32) (u : Unit) => r = (-1)) (fun (u : Unit) t => PO G (va_A (kMain y q (fun i => some (q (55 + 6 * i)), kp)) sz) (kMain y q (fun i => some (q (55 + 6 * i)), kp)) t) (va_A (kMain y q (fun i => some (q (55 + 6 * i)), kp)) sz)) 0 0 (va_A (kMain y q (fun i => some (q (55 + 6 * i)), kp)) sz) := by
  refine kMet (cc := cX6_sees) (maxL := 4) (ret := some .int) (Qc := fun A => va_Qi (fun (r : Int32) (u : Unit) => r = (-1)) (fun (u : Unit) t => PO G A (kMain y q (fun i => some (q (55 + 6 * i)), kp)) t) A) (by decide) rfl (Nat.le_of_ble_eq_true rfl) (fun p e s m below meth c A hsz C hin => ?_)
  refine KW.loc (lv' := [(0, .ref (q 0)), (1, .int x), (2, .int z), (3, .int v)]) [0, 1, 2, 3] rfl ?_
  refine kw_iload_n C 1 dX6_sees_0 rfl ?_
  refine kw_iload_n C 2 dX6_sees_1 rfl ?_
  refine kS_i (As := [.int x, .int z]) (rest := []) (ws' := fun (u : Unit) => kMain y q (fun i => some (q (55 + 6 * i)), kp)) C (c_X6_onBoard l G y t x z) (va_cwS 2 C.2.2.2.2.1 (goodS cT wd_534 wd_532 wd_533 wd_41) rfl rfl rfl (by decide +kernel) ⟨by decide, by decide⟩) [] [0, 1, 2] [0, 1, 2] rfl (by decide) rfl (by decide) (by decide) (fun _ => rfl) (by decide) rfl (Nat.le_of_ble_eq_true rfl) ⟨by decide, by decide⟩ dX6_sees_2 (fun r u hr_1 => ?_)
  subst hr_1
  refine kw_if_eq_D (tgt := 18) C dX6_sees_5 (by decide) (fun c_5 => ?_) (fun c_5 => ?_)
  ·
    refine kw_iconst (v := (-1)) C dX6_sees_18 (by decide) ?_
    refine kR_i C () dX6_sees_19 ?_ rfl
    first | rfl | trivial | (simp; done) | omega
  ·
    refine kw_iload_n C 3 dX6_sees_8 rfl ?_
    refine kw_if_lt (tgt := 18) C dX6_sees_9 (by decide) (fun c_9 => ?_) (fun c_9 => ?_)
    ·
      refine kw_iconst (v := (-1)) C dX6_sees_18 (by decide) ?_
      refine kR_i C () dX6_sees_19 ?_ rfl
      first | rfl | trivial | (simp; done) | omega
    ·
      refine kw_iload_n C 3 dX6_sees_12 rfl ?_
      refine kw_bipush (v := nI 8) C dX6_sees_13 (by decide) ?_
      refine kw_icmp_lt (tgt := 20) C dX6_sees_15 (by decide) (fun c_15 => ?_) (fun c_15 => ?_)
      ·
        exact absurd ⟨c_5, ir5 (by decide) c_9 c_15⟩ hb
      ·
        refine kw_iconst (v := (-1)) C dX6_sees_18 (by decide) ?_
        refine kR_i C () dX6_sees_19 ?_ rfl
        first | rfl | trivial | (simp; done) | omega

set_option maxHeartbeats 4000000 in
set_option maxRecDepth 100000 in
theorem c_X6_sees_ok (l : Launch) (G : va_G) (y : Nat → ClassId) (t : Nat) (q : Nat → Nat) (kp : Nat → Int32) (M : Nat) (q1 : Int64) (q2 : Int64) (q3 : Int64) (xs : Nat → Int32) (ys : Nat → Int32) (cs : Nat → Int32) (tal : Nat → Int32) (x0 : Nat) (z0 : Nat) (v0 : Nat) (hM : M ≤ 6) (hx0 : x0 < 6) (hz0 : z0 < 6) (hv0 : v0 < 8) (sz : Nat) : Met l yX6_sees (Cond.code yX6_sees cX6_sees 4 (some .int) :: TG) ({ frames := 1, cells := 0, slots := 0, locals := 23 }) (va_Pc [.ref (q 0), .int (nI x0), .int (nI z0), .int (nI v0)] (PR G y t (kMain y q (fun i => some (q (55 + 6 * i)), kp) ++ kSight y (fun i => q (67 + i)) (nI M, q1, q2, q3, xs, ys, cs, tal)) sz)) (va_Qi (fun (r : Int32) (u : Nat × (Nat → Int32) × (Nat → Int32) × (Nat → Int32)) => r = (if M < 6 then nI (M + 1) else (-3)) ∧ (M < 6 → u.1 = M + 1 ∧ u.2.1 = upd xs M (nI x0) ∧ u.2.2.1 = upd ys M (nI z0) ∧ u.2.2.2 = upd cs M (nI v0)) ∧ (¬ M < 6 → u.1 = M ∧ u.2.1 = xs ∧ u.2.2.1 = ys ∧ u.2.2.2 = cs)) (fun (u : Nat × (Nat → Int32) × (Nat → Int32) × (Nat → Int32)) t => PO G (va_A (kMain y q (fun i => some (q (55 + 6 * i)), kp) ++ kSight y (fun i => q (67 + i)) (nI M, q1, q2, q3, xs, ys, cs, tal)) sz) (kMain y q (fun i => some (q (55 + 6 * i)), kp) ++ kSight y (fun i => q (67 + i)) (nI u.1, q1, q2, q3, u.2.1, u.2.2.1, u.2.2.2, tal)) t) (va_A (kMain y q (fun i => some (q (55 + 6 * i)), kp) ++ kSight y (fun i => q (67 + i)) (nI M, q1, q2, q3, xs, ys, cs, tal)) sz)) 0 0 (va_A (kMain y q (fun i => some (q (55 + 6 * i)), kp) ++ kSight y (fun i => q (67 + i)) (nI M, q1, q2, q3, xs, ys, cs, tal)) sz) := by
  refine kMet (cc := cX6_sees) (maxL := 4) (ret := some .int) (Qc := fun A => va_Qi (fun (r : Int32) (u : Nat × (Nat → Int32) × (Nat → Int32) × (Nat → Int32)) => r = (if M < 6 then nI (M + 1) else (-3)) ∧ (M < 6 → u.1 = M + 1 ∧ u.2.1 = upd xs M (nI x0) ∧ u.2.2.1 = upd ys M (nI z0) ∧ u.2.2.2 = upd cs M (nI v0)) ∧ (¬ M < 6 → u.1 = M ∧ u.2.1 = xs ∧ u.2.2.1 = ys ∧ u.2.2.2 = cs)) (fun (u : Nat × (Nat → Int32) × (Nat → Int32) × (Nat → Int32)) t => PO G A (kMain y q (fun i => some (q (55 + 6 * i)), kp) ++ kSight y (fun i => q (67 + i)) (nI u.1, q1, q2, q3, u.2.1, u.2.2.1, u.2.2.2, tal)) t) A) (by decide) rfl (Nat.le_of_ble_eq_true rfl) (fun p e s m below meth c A hsz C hin => ?_)
  refine KW.loc (lv' := [(0, .ref (q 0)), (1, .int (nI x0)), (2, .int (nI z0)), (3, .int (nI v0))]) [0, 1, 2, 3] rfl ?_
  refine kw_iload_n C 1 dX6_sees_0 rfl ?_
  refine kw_iload_n C 2 dX6_sees_1 rfl ?_
  refine kS_i (As := [.int (nI x0), .int (nI z0)]) (rest := []) (ws' := fun (u : Unit) => kMain y q (fun i => some (q (55 + 6 * i)), kp) ++ kSight y (fun i => q (67 + i)) (nI M, q1, q2, q3, xs, ys, cs, tal)) C (c_X6_onBoard l G y t (nI x0) (nI z0)) (va_cwS 2 C.2.2.2.2.1 (goodS cT wd_534 wd_532 wd_533 wd_41) rfl rfl rfl (by decide +kernel) ⟨by decide, by decide⟩) [] [0, 1, 2, 3, 4, 5, 6, 7, 8] [0, 1, 2, 3, 4, 5, 6, 7, 8] rfl (by decide) rfl (by decide) (by decide) (fun _ => rfl) (by decide) rfl (Nat.le_of_ble_eq_true rfl) ⟨by decide, by decide⟩ dX6_sees_2 (fun r u hr_1 => ?_)
  subst hr_1
  refine kw_if_eq_D (tgt := 18) C dX6_sees_5 (by decide) (fun c_5 => ?_) (fun c_5 => ?_)
  ·
    exact absurd ⟨inR_of hx0 (by decide), inR_of hz0 (by decide)⟩ c_5
  ·
    refine kw_iload_n C 3 dX6_sees_8 rfl ?_
    refine kw_if_lt_N (tgt := 18) C (by omega) dX6_sees_9 (by decide) ?_
    refine kw_iload_n C 3 dX6_sees_12 rfl ?_
    refine kw_bipush (v := nI 8) C dX6_sees_13 (by decide) ?_
    refine kw_icmp_lt_N (tgt := 20) C (by omega) (by omega) dX6_sees_15 (by decide) (fun c_15 => ?_) (fun c_15 => ?_)
    ·
      refine kw_aload_n C 0 dX6_sees_20 rfl ?_
      refine kw_get (v := .ref (q 67)) (T := TX6) C 0 6 rfl rfl (by decide) (fun w h => mT (fwX6 w h)) rfl (mT wd_231) rfl dX6_sees_21 ?_
      refine kw_iload_n C 1 dX6_sees_24 rfl ?_
      refine kw_iload_n C 2 dX6_sees_25 rfl ?_
      refine kw_iload_n C 3 dX6_sees_26 rfl ?_
      refine kV_i (As := [.int (nI x0), .int (nI z0), .int (nI v0)]) (rest := []) (ws' := fun (u : Nat × (Nat → Int32) × (Nat → Int32) × (Nat → Int32)) => kMain y q (fun i => some (q (55 + 6 * i)), kp) ++ kSight y (fun i => q (67 + i)) (nI u.1, q1, q2, q3, u.2.1, u.2.2.1, u.2.2.2, tal)) C (c_X3_add l G y t (fun i => q (67 + i)) M q1 q2 q3 xs ys cs tal x0 z0 v0 (by first | assumption | omega | decide)) (cwV 3 C.2.2.2.2.1 (goodV cT wd_538 wd_535 wd_536 wd_537 wd_46) rfl rfl rfl (by decide +kernel) ⟨by decide, by decide⟩) [3, 4, 5, 6, 7, 8] [0, 1, 2] [0, 1, 2, 3, 4, 5, 6, 7, 8] rfl (by decide) rfl (by decide) (by decide) (fun _ => rfl) (by decide) 3 rfl rfl rfl (Nat.le_of_ble_eq_true rfl) ⟨by decide, by decide⟩ dX6_sees_27 (fun r u hr_6 => ?_)
      obtain ⟨M1_2, xs1_3, ys1_4, cs1_5⟩ := u
      try dsimp only at hr_6
      obtain ⟨hq, hpo⟩ := hr_6
      subst hq
      refine kw_if_eq_D (tgt := 43) C dX6_sees_30 (by decide) (fun c_30 => ?_) (fun c_30 => ?_)
      ·
        refine kw_bipush (v := (-3)) C dX6_sees_43 (by decide) ?_
        refine kR_i C (M1_2, xs1_3, ys1_4, cs1_5) dX6_sees_45 ?_ rfl
        first | (refine ⟨?_, hpo⟩; rw [if_pos c_30, (hpo.1 c_30).1]; done) | (refine ⟨?_, hpo⟩; rw [if_neg c_30]; done)
      ·
        refine kw_aload_n C 0 dX6_sees_33 rfl ?_
        refine kw_get (v := .ref (q 67)) (T := TX6) C 0 6 rfl rfl (by decide) (fun w h => mT (fwX6 w h)) rfl (mT wd_231) rfl dX6_sees_34 ?_
        refine kw_getN (v := .int (nI M1_2)) (T := TX3) C 3 3 rfl rfl (by decide) (fun w h => mT (fwX3 w h)) rfl (List.mem_of_getElem? (i := 18) rfl) rfl dX6_sees_37 ?_
        refine kw_goto (tgt := 45) C dX6_sees_40 (by decide) ?_
        refine kR_i C (M1_2, xs1_3, ys1_4, cs1_5) dX6_sees_45 ?_ rfl
        first | (refine ⟨?_, hpo⟩; rw [if_pos c_30, (hpo.1 c_30).1]; done) | (refine ⟨?_, hpo⟩; rw [if_neg c_30]; done)
    ·
      omega

set_option maxHeartbeats 4000000 in
set_option maxRecDepth 100000 in
theorem c_X6_forget_ok (l : Launch) (G : va_G) (y : Nat → ClassId) (t : Nat) (q : Nat → Nat) (kp : Nat → Int32) (M : Nat) (q1 : Int64) (q2 : Int64) (q3 : Int64) (xs : Nat → Int32) (ys : Nat → Int32) (cs : Nat → Int32) (tal : Nat → Int32) (sz : Nat) : Met l yX6_forget (Cond.code yX6_forget cX6_forget 2 (some .int) :: TG) ({ frames := 0, cells := 0, slots := 0, locals := 0 }) (va_Pc [.ref (q 0)] (PR G y t (kMain y q (fun i => some (q (55 + 6 * i)), kp) ++ kSight y (fun i => q (67 + i)) (nI M, q1, q2, q3, xs, ys, cs, tal)) sz)) (va_Qi (fun (r : Int32) (u : Unit) => r = (nI M)) (fun (u : Unit) t => PO G (va_A (kMain y q (fun i => some (q (55 + 6 * i)), kp) ++ kSight y (fun i => q (67 + i)) (nI M, q1, q2, q3, xs, ys, cs, tal)) sz) (kMain y q (fun i => some (q (55 + 6 * i)), kp) ++ kSight y (fun i => q (67 + i)) (nI 0, q1, q2, q3, xs, ys, cs, tal)) t) (va_A (kMain y q (fun i => some (q (55 + 6 * i)), kp) ++ kSight y (fun i => q (67 + i)) (nI M, q1, q2, q3, xs, ys, cs, tal)) sz)) 0 0 (va_A (kMain y q (fun i => some (q (55 + 6 * i)), kp) ++ kSight y (fun i => q (67 + i)) (nI M, q1, q2, q3, xs, ys, cs, tal)) sz) := by
  refine kMet (cc := cX6_forget) (maxL := 2) (ret := some .int) (Qc := fun A => va_Qi (fun (r : Int32) (u : Unit) => r = (nI M)) (fun (u : Unit) t => PO G A (kMain y q (fun i => some (q (55 + 6 * i)), kp) ++ kSight y (fun i => q (67 + i)) (nI 0, q1, q2, q3, xs, ys, cs, tal)) t) A) (by decide) rfl (Nat.le_of_ble_eq_true rfl) (fun p e s m below meth c A hsz C hin => ?_)
  refine KW.loc (lv' := [(0, .ref (q 0))]) [0] rfl ?_
  refine kw_aload_n C 0 dX6_forget_0 rfl ?_
  refine kw_get (v := .ref (q 67)) (T := TX6) C 0 6 rfl rfl (by decide) (fun w h => mT (fwX6 w h)) rfl (mT wd_231) rfl dX6_forget_1 ?_
  refine kw_getN (v := .int (nI M)) (T := TX3) C 3 3 rfl rfl (by decide) (fun w h => mT (fwX3 w h)) rfl (List.mem_of_getElem? (i := 18) rfl) rfl dX6_forget_4 ?_
  refine kw_istore_n C [(1, .int (nI M)), (0, .ref (q 0))] dX6_forget_7 rfl (by decide) rfl ?_
  refine kw_aload_n C 1 dX6_forget_8 rfl ?_
  refine kw_get (v := .ref (q 67)) (T := TX6) C 0 6 rfl rfl (by decide) (fun w h => mT (fwX6 w h)) rfl (mT wd_231) rfl dX6_forget_9 ?_
  refine kw_iconst (v := nI 0) C dX6_forget_12 (by decide) ?_
  refine kw_putN (T := TX3) (ty := .int) C 3 3 (kMain y q (fun i => some (q (55 + 6 * i)), kp) ++ kSight y (fun i => q (67 + i)) (nI 0, q1, q2, q3, xs, ys, cs, tal)) rfl rfl (by decide) (fun w h => mT (fwX3 w h)) tyX3 tyX3_ok nmX3 rfl (List.mem_of_getElem? (i := 18) rfl) rfl (by decide +kernel) rfl rfl (Nat.le_of_ble_eq_true rfl) dX6_forget_13 rfl ?_
  refine kw_iload_n C 0 dX6_forget_16 rfl ?_
  refine kR_i C () dX6_forget_17 ?_ rfl
  first | rfl | trivial | (simp; done) | omega

set_option maxHeartbeats 4000000 in
set_option maxRecDepth 100000 in
theorem c_X6_which_bad (l : Launch) (G : va_G) (y : Nat → ClassId) (t : Nat) (q : Nat → Nat) (kp : Nat → Int32) (wh : Int32) (w0 : ¬ wh = 0) (w1 : ¬ wh = 1) (sz : Nat) : Met l yX6_which (Cond.code yX6_which cX6_which 2 (some .int) :: TG) ({ frames := 0, cells := 0, slots := 0, locals := 0 }) (va_Pc [.ref (q 0), .int wh] (PR G y t (kMain y q (fun i => some (q (55 + 6 * i)), kp)) sz)) (va_Qi (fun (r : Int32) (u : Unit) => r = (-1000000)) (fun (u : Unit) t => PO G (va_A (kMain y q (fun i => some (q (55 + 6 * i)), kp)) sz) (kMain y q (fun i => some (q (55 + 6 * i)), kp)) t) (va_A (kMain y q (fun i => some (q (55 + 6 * i)), kp)) sz)) 0 0 (va_A (kMain y q (fun i => some (q (55 + 6 * i)), kp)) sz) := by
  refine kMet (cc := cX6_which) (maxL := 2) (ret := some .int) (Qc := fun A => va_Qi (fun (r : Int32) (u : Unit) => r = (-1000000)) (fun (u : Unit) t => PO G A (kMain y q (fun i => some (q (55 + 6 * i)), kp)) t) A) (by decide) rfl (Nat.le_of_ble_eq_true rfl) (fun p e s m below meth c A hsz C hin => ?_)
  refine KW.loc (lv' := [(0, .ref (q 0)), (1, .int wh)]) [0, 1] rfl ?_
  refine kw_iload_n C 1 dX6_which_0 rfl ?_
  refine kw_look (off := 51) (tgt := 52) C dX6_which_1 (by decide) (look_out w0 w1) (by decide) ?_
  refine kw_ldc (v := (-1000000)) C (mT wd_482) dX6_which_52 ?_
  refine kR_i C () dX6_which_54 ?_ rfl
  first | rfl | trivial | (simp; done) | omega

set_option maxHeartbeats 4000000 in
set_option maxRecDepth 100000 in
theorem c_X6_which_0 (l : Launch) (G : va_G) (y : Nat → ClassId) (t : Nat) (q : Nat → Nat) (kp : Nat → Int32) (W : Nat) (H : Nat) (N : Nat) (D : Nat) (p1 : Int64) (p2 : Int64) (p3 : Int64) (col : Nat → Int32) (od : Nat → Int32) (blk : Nat → Int64) (slp : Nat → Int32) (o : Nat → Nat) (cl : Nat → Nat) (kk : Nat → Nat) (M : Nat) (q1 : Int64) (q2 : Int64) (q3 : Int64) (xs : Nat → Int32) (ys : Nat → Int32) (cs : Nat → Int32) (tal : Nat → Int32) (sx : Nat → Nat) (sy : Nat → Nat) (sc : Nat → Nat) (hW : W ≤ 6) (hH : H ≤ 6) (hN : N ≤ 6) (hD : D < 64) (hod : ∀ q, q < N → od q = nI (o q) ∧ o q < N) (hcol : ∀ i, i < N → col i = nI (cl i) ∧ cl i < 8) (hsl : ∀ i, i < N → slp i = nI (kk i) ∧ kk i < 9) (hM : M ≤ 6) (hse : ∀ i, i < M → xs i = nI (sx i) ∧ ys i = nI (sy i) ∧ cs i = nI (sc i) ∧ sx i < 6 ∧ sy i < 6 ∧ sc i < 8) (sz : Nat) : Met l yX6_which (Cond.code yX6_which cX6_which 2 (some .int) :: TG) ({ frames := 5, cells := 0, slots := 0, locals := 126 }) (va_Pc [.ref (q 0), .int (nI 0)] (PR G y t (kMain y q (fun i => some (q (55 + 6 * i)), kp) ++ (kWork y (fun i => q (3 + i)) (nI W, nI H, nI N, nI D, p1, p2, p3, col, od, blk, slp) ++ kSight y (fun i => q (67 + i)) (nI M, q1, q2, q3, xs, ys, cs, tal))) sz)) (va_Qi (fun (r : Int32) (u : Int64 × Int64 × Int64) => r = (nI (cntG (exB W H N D blk o cl kk M sx sy sc) (9 * N + 1)))) (fun (u : Int64 × Int64 × Int64) t => PO G (va_A (kMain y q (fun i => some (q (55 + 6 * i)), kp) ++ (kWork y (fun i => q (3 + i)) (nI W, nI H, nI N, nI D, p1, p2, p3, col, od, blk, slp) ++ kSight y (fun i => q (67 + i)) (nI M, q1, q2, q3, xs, ys, cs, tal))) sz) (kMain y q (fun i => some (q (55 + 6 * i)), kp) ++ (kWork y (fun i => q (3 + i)) (nI W, nI H, nI N, nI D, p1, p2, p3, col, od, blk, slp) ++ kSight y (fun i => q (67 + i)) (nI M, u.1, u.2.1, u.2.2, xs, ys, cs, tal))) t) (va_A (kMain y q (fun i => some (q (55 + 6 * i)), kp) ++ (kWork y (fun i => q (3 + i)) (nI W, nI H, nI N, nI D, p1, p2, p3, col, od, blk, slp) ++ kSight y (fun i => q (67 + i)) (nI M, q1, q2, q3, xs, ys, cs, tal))) sz)) 0 0 (va_A (kMain y q (fun i => some (q (55 + 6 * i)), kp) ++ (kWork y (fun i => q (3 + i)) (nI W, nI H, nI N, nI D, p1, p2, p3, col, od, blk, slp) ++ kSight y (fun i => q (67 + i)) (nI M, q1, q2, q3, xs, ys, cs, tal))) sz) := by
  refine kMet (cc := cX6_which) (maxL := 2) (ret := some .int) (Qc := fun A => va_Qi (fun (r : Int32) (u : Int64 × Int64 × Int64) => r = (nI (cntG (exB W H N D blk o cl kk M sx sy sc) (9 * N + 1)))) (fun (u : Int64 × Int64 × Int64) t => PO G A (kMain y q (fun i => some (q (55 + 6 * i)), kp) ++ (kWork y (fun i => q (3 + i)) (nI W, nI H, nI N, nI D, p1, p2, p3, col, od, blk, slp) ++ kSight y (fun i => q (67 + i)) (nI M, u.1, u.2.1, u.2.2, xs, ys, cs, tal))) t) A) (by decide) rfl (Nat.le_of_ble_eq_true rfl) (fun p e s m below meth c A hsz C hin => ?_)
  refine KW.loc (lv' := [(0, .ref (q 0)), (1, .int (nI 0))]) [0, 1] rfl ?_
  refine kw_iload_n C 1 dX6_which_0 rfl ?_
  refine kw_look (off := 27) (tgt := 28) C dX6_which_1 (by decide) (by decide) (by decide) ?_
  refine kw_aload_n C 0 dX6_which_28 rfl ?_
  refine kw_get (v := .ref (q 67)) (T := TX6) C 0 6 rfl rfl (by decide) (fun w h => mT (fwX6 w h)) rfl (mT wd_231) rfl dX6_which_29 ?_
  refine kw_aload_n C 0 dX6_which_32 rfl ?_
  refine kw_get (v := .ref (q 3)) (T := TX6) C 0 0 rfl rfl (by decide) (fun w h => mT (fwX6 w h)) rfl (mT wd_225) rfl dX6_which_33 ?_
  refine kV_i (As := [.ref (q 3)]) (rest := []) (ws' := fun (u : Int64 × Int64 × Int64) => kMain y q (fun i => some (q (55 + 6 * i)), kp) ++ (kWork y (fun i => q (3 + i)) (nI W, nI H, nI N, nI D, p1, p2, p3, col, od, blk, slp) ++ kSight y (fun i => q (67 + i)) (nI M, u.1, u.2.1, u.2.2, xs, ys, cs, tal))) C (c_X3_howManyExplain l G y t (fun i => q (67 + i)) M q1 q2 q3 xs ys cs tal (fun i => q (3 + i)) W H N D p1 p2 p3 col od blk slp o cl kk sx sy sc (by first | assumption | omega | decide) (by first | assumption | omega | decide) (by first | assumption | omega | decide) (by first | assumption | omega | decide) (by first | assumption | omega | decide) (by first | assumption | omega | decide) (by first | assumption | omega | decide) (by first | assumption | omega | decide) (by first | assumption | omega | decide)) (cwV 1 C.2.2.2.2.1 (goodV cT wd_550 wd_547 wd_548 wd_549 wd_46) rfl rfl rfl (by decide +kernel) ⟨by decide, by decide⟩) [9, 10, 11, 12, 13, 14, 3, 4, 5, 6, 7, 8] [0, 1, 2] [0, 1, 2, 9, 10, 11, 12, 13, 14, 3, 4, 5, 6, 7, 8] rfl (by decide) rfl (by decide) (by decide) (fun _ => rfl) (by decide) 9 rfl rfl rfl (Nat.le_of_ble_eq_true rfl) ⟨by decide, by decide⟩ dX6_which_36 (fun r u hr_4 => ?_)
  obtain ⟨r1_1, r2_2, r3_3⟩ := u
  try dsimp only at hr_4
  subst hr_4
  refine kR_i C (r1_1, r2_2, r3_3) dX6_which_39 ?_ rfl
  first | rfl | trivial | (simp; done) | omega

set_option maxHeartbeats 4000000 in
set_option maxRecDepth 100000 in
theorem c_X6_which_1 (l : Launch) (G : va_G) (y : Nat → ClassId) (t : Nat) (q : Nat → Nat) (kp : Nat → Int32) (W : Nat) (H : Nat) (N : Nat) (D : Nat) (p1 : Int64) (p2 : Int64) (p3 : Int64) (col : Nat → Int32) (od : Nat → Int32) (blk : Nat → Int64) (slp : Nat → Int32) (o : Nat → Nat) (cl : Nat → Nat) (kk : Nat → Nat) (M : Nat) (q1 : Int64) (q2 : Int64) (q3 : Int64) (xs : Nat → Int32) (ys : Nat → Int32) (cs : Nat → Int32) (tal : Nat → Int32) (sx : Nat → Nat) (sy : Nat → Nat) (sc : Nat → Nat) (hW : W ≤ 6) (hH : H ≤ 6) (hN : N ≤ 6) (hD : D < 64) (hod : ∀ q, q < N → od q = nI (o q) ∧ o q < N) (hcol : ∀ i, i < N → col i = nI (cl i) ∧ cl i < 8) (hsl : ∀ i, i < N → slp i = nI (kk i) ∧ kk i < 9) (hM : M ≤ 6) (hse : ∀ i, i < M → xs i = nI (sx i) ∧ ys i = nI (sy i) ∧ cs i = nI (sc i) ∧ sx i < 6 ∧ sy i < 6 ∧ sc i < 8) (sz : Nat) : Met l yX6_which (Cond.code yX6_which cX6_which 2 (some .int) :: TG) ({ frames := 5, cells := 0, slots := 0, locals := 125 }) (va_Pc [.ref (q 0), .int (nI 1)] (PR G y t (kMain y q (fun i => some (q (55 + 6 * i)), kp) ++ (kWork y (fun i => q (3 + i)) (nI W, nI H, nI N, nI D, p1, p2, p3, col, od, blk, slp) ++ kSight y (fun i => q (67 + i)) (nI M, q1, q2, q3, xs, ys, cs, tal))) sz)) (va_Qi (fun (r : Int32) (u : Int64 × Int64 × Int64) => r = (frG (exB W H N D blk o cl kk M sx sy sc) (9 * N + 1) 0)) (fun (u : Int64 × Int64 × Int64) t => PO G (va_A (kMain y q (fun i => some (q (55 + 6 * i)), kp) ++ (kWork y (fun i => q (3 + i)) (nI W, nI H, nI N, nI D, p1, p2, p3, col, od, blk, slp) ++ kSight y (fun i => q (67 + i)) (nI M, q1, q2, q3, xs, ys, cs, tal))) sz) (kMain y q (fun i => some (q (55 + 6 * i)), kp) ++ (kWork y (fun i => q (3 + i)) (nI W, nI H, nI N, nI D, p1, p2, p3, col, od, blk, slp) ++ kSight y (fun i => q (67 + i)) (nI M, u.1, u.2.1, u.2.2, xs, ys, cs, tal))) t) (va_A (kMain y q (fun i => some (q (55 + 6 * i)), kp) ++ (kWork y (fun i => q (3 + i)) (nI W, nI H, nI N, nI D, p1, p2, p3, col, od, blk, slp) ++ kSight y (fun i => q (67 + i)) (nI M, q1, q2, q3, xs, ys, cs, tal))) sz)) 0 0 (va_A (kMain y q (fun i => some (q (55 + 6 * i)), kp) ++ (kWork y (fun i => q (3 + i)) (nI W, nI H, nI N, nI D, p1, p2, p3, col, od, blk, slp) ++ kSight y (fun i => q (67 + i)) (nI M, q1, q2, q3, xs, ys, cs, tal))) sz) := by
  refine kMet (cc := cX6_which) (maxL := 2) (ret := some .int) (Qc := fun A => va_Qi (fun (r : Int32) (u : Int64 × Int64 × Int64) => r = (frG (exB W H N D blk o cl kk M sx sy sc) (9 * N + 1) 0)) (fun (u : Int64 × Int64 × Int64) t => PO G A (kMain y q (fun i => some (q (55 + 6 * i)), kp) ++ (kWork y (fun i => q (3 + i)) (nI W, nI H, nI N, nI D, p1, p2, p3, col, od, blk, slp) ++ kSight y (fun i => q (67 + i)) (nI M, u.1, u.2.1, u.2.2, xs, ys, cs, tal))) t) A) (by decide) rfl (Nat.le_of_ble_eq_true rfl) (fun p e s m below meth c A hsz C hin => ?_)
  refine KW.loc (lv' := [(0, .ref (q 0)), (1, .int (nI 1))]) [0, 1] rfl ?_
  refine kw_iload_n C 1 dX6_which_0 rfl ?_
  refine kw_look (off := 39) (tgt := 40) C dX6_which_1 (by decide) (by decide) (by decide) ?_
  refine kw_aload_n C 0 dX6_which_40 rfl ?_
  refine kw_get (v := .ref (q 67)) (T := TX6) C 0 6 rfl rfl (by decide) (fun w h => mT (fwX6 w h)) rfl (mT wd_231) rfl dX6_which_41 ?_
  refine kw_aload_n C 0 dX6_which_44 rfl ?_
  refine kw_get (v := .ref (q 3)) (T := TX6) C 0 0 rfl rfl (by decide) (fun w h => mT (fwX6 w h)) rfl (mT wd_225) rfl dX6_which_45 ?_
  refine kV_i (As := [.ref (q 3)]) (rest := []) (ws' := fun (u : Int64 × Int64 × Int64) => kMain y q (fun i => some (q (55 + 6 * i)), kp) ++ (kWork y (fun i => q (3 + i)) (nI W, nI H, nI N, nI D, p1, p2, p3, col, od, blk, slp) ++ kSight y (fun i => q (67 + i)) (nI M, u.1, u.2.1, u.2.2, xs, ys, cs, tal))) C (c_X3_firstExplaining l G y t (fun i => q (67 + i)) M q1 q2 q3 xs ys cs tal (fun i => q (3 + i)) W H N D p1 p2 p3 col od blk slp o cl kk sx sy sc (by first | assumption | omega | decide) (by first | assumption | omega | decide) (by first | assumption | omega | decide) (by first | assumption | omega | decide) (by first | assumption | omega | decide) (by first | assumption | omega | decide) (by first | assumption | omega | decide) (by first | assumption | omega | decide) (by first | assumption | omega | decide)) (cwV 1 C.2.2.2.2.1 (goodV cT wd_562 wd_559 wd_560 wd_561 wd_46) rfl rfl rfl (by decide +kernel) ⟨by decide, by decide⟩) [9, 10, 11, 12, 13, 14, 3, 4, 5, 6, 7, 8] [0, 1, 2] [0, 1, 2, 9, 10, 11, 12, 13, 14, 3, 4, 5, 6, 7, 8] rfl (by decide) rfl (by decide) (by decide) (fun _ => rfl) (by decide) 9 rfl rfl rfl (Nat.le_of_ble_eq_true rfl) ⟨by decide, by decide⟩ dX6_which_48 (fun r u hr_4 => ?_)
  obtain ⟨r1_1, r2_2, r3_3⟩ := u
  try dsimp only at hr_4
  subst hr_4
  refine kR_i C (r1_1, r2_2, r3_3) dX6_which_51 ?_ rfl
  first | rfl | trivial | (simp; done) | omega

set_option maxHeartbeats 4000000 in
set_option maxRecDepth 100000 in
theorem c_X6_ask_ok (l : Launch) (G : va_G) (y : Nat → ClassId) (t : Nat) (q : Nat → Nat) (kp : Nat → Int32) (W : Nat) (H : Nat) (N : Nat) (D : Nat) (p1 : Int64) (p2 : Int64) (p3 : Int64) (col : Nat → Int32) (od : Nat → Int32) (blk : Nat → Int64) (slp : Nat → Int32) (o : Nat → Nat) (cl : Nat → Nat) (kk : Nat → Nat) (M : Nat) (q1 : Int64) (q2 : Int64) (q3 : Int64) (xs : Nat → Int32) (ys : Nat → Int32) (cs : Nat → Int32) (tal : Nat → Int32) (sx : Nat → Nat) (sy : Nat → Nat) (sc : Nat → Nat) (hW : W ≤ 6) (hH : H ≤ 6) (hN : N ≤ 6) (hD : D < 64) (hod : ∀ q, q < N → od q = nI (o q) ∧ o q < N) (hcol : ∀ i, i < N → col i = nI (cl i) ∧ cl i < 8) (hsl : ∀ i, i < N → slp i = nI (kk i) ∧ kk i < 9) (hM : M ≤ 6) (hse : ∀ i, i < M → xs i = nI (sx i) ∧ ys i = nI (sy i) ∧ cs i = nI (sc i) ∧ sx i < 6 ∧ sy i < 6 ∧ sc i < 8) (sz : Nat) : Met l yX6_ask (Cond.code yX6_ask cX6_ask 1 (some .int) :: TG) ({ frames := 5, cells := 0, slots := 0, locals := 126 }) (va_Pc [.ref (q 0)] (PR G y t (kMain y q (fun i => some (q (55 + 6 * i)), kp) ++ (kWork y (fun i => q (3 + i)) (nI W, nI H, nI N, nI D, p1, p2, p3, col, od, blk, slp) ++ kSight y (fun i => q (67 + i)) (nI M, q1, q2, q3, xs, ys, cs, tal))) sz)) (va_Qi (fun (r : Int32) (u : Int64 × Int64 × Int64 × (Nat → Int32)) => r = (if 1 < cntG (exB W H N D blk o cl kk M sx sy sc) (9 * N + 1) then (mtY (talG (exB W H N D blk o cl kk M sx sy sc) (PG W H N D blk o cl kk) W H (9 * N + 1)) W H).1 else (-9))) (fun (u : Int64 × Int64 × Int64 × (Nat → Int32)) t => PO G (va_A (kMain y q (fun i => some (q (55 + 6 * i)), kp) ++ (kWork y (fun i => q (3 + i)) (nI W, nI H, nI N, nI D, p1, p2, p3, col, od, blk, slp) ++ kSight y (fun i => q (67 + i)) (nI M, q1, q2, q3, xs, ys, cs, tal))) sz) (kMain y q (fun i => some (q (55 + 6 * i)), kp) ++ (kWork y (fun i => q (3 + i)) (nI W, nI H, nI N, nI D, p1, p2, p3, col, od, blk, slp) ++ kSight y (fun i => q (67 + i)) (nI M, u.1, u.2.1, u.2.2.1, xs, ys, cs, u.2.2.2))) t) (va_A (kMain y q (fun i => some (q (55 + 6 * i)), kp) ++ (kWork y (fun i => q (3 + i)) (nI W, nI H, nI N, nI D, p1, p2, p3, col, od, blk, slp) ++ kSight y (fun i => q (67 + i)) (nI M, q1, q2, q3, xs, ys, cs, tal))) sz)) 0 0 (va_A (kMain y q (fun i => some (q (55 + 6 * i)), kp) ++ (kWork y (fun i => q (3 + i)) (nI W, nI H, nI N, nI D, p1, p2, p3, col, od, blk, slp) ++ kSight y (fun i => q (67 + i)) (nI M, q1, q2, q3, xs, ys, cs, tal))) sz) := by
  refine kMet (cc := cX6_ask) (maxL := 1) (ret := some .int) (Qc := fun A => va_Qi (fun (r : Int32) (u : Int64 × Int64 × Int64 × (Nat → Int32)) => r = (if 1 < cntG (exB W H N D blk o cl kk M sx sy sc) (9 * N + 1) then (mtY (talG (exB W H N D blk o cl kk M sx sy sc) (PG W H N D blk o cl kk) W H (9 * N + 1)) W H).1 else (-9))) (fun (u : Int64 × Int64 × Int64 × (Nat → Int32)) t => PO G A (kMain y q (fun i => some (q (55 + 6 * i)), kp) ++ (kWork y (fun i => q (3 + i)) (nI W, nI H, nI N, nI D, p1, p2, p3, col, od, blk, slp) ++ kSight y (fun i => q (67 + i)) (nI M, u.1, u.2.1, u.2.2.1, xs, ys, cs, u.2.2.2))) t) A) (by decide) rfl (Nat.le_of_ble_eq_true rfl) (fun p e s m below meth c A hsz C hin => ?_)
  refine KW.loc (lv' := [(0, .ref (q 0))]) [0] rfl ?_
  refine kw_aload_n C 0 dX6_ask_0 rfl ?_
  refine kw_get (v := .ref (q 67)) (T := TX6) C 0 6 rfl rfl (by decide) (fun w h => mT (fwX6 w h)) rfl (mT wd_231) rfl dX6_ask_1 ?_
  refine kw_aload_n C 0 dX6_ask_4 rfl ?_
  refine kw_get (v := .ref (q 3)) (T := TX6) C 0 0 rfl rfl (by decide) (fun w h => mT (fwX6 w h)) rfl (mT wd_225) rfl dX6_ask_5 ?_
  refine kV_i (As := [.ref (q 3)]) (rest := []) (ws' := fun (u : Int64 × Int64 × Int64 × (Nat → Int32)) => kMain y q (fun i => some (q (55 + 6 * i)), kp) ++ (kWork y (fun i => q (3 + i)) (nI W, nI H, nI N, nI D, p1, p2, p3, col, od, blk, slp) ++ kSight y (fun i => q (67 + i)) (nI M, u.1, u.2.1, u.2.2.1, xs, ys, cs, u.2.2.2))) C (c_X3_bestCell l G y t (fun i => q (67 + i)) M q1 q2 q3 xs ys cs tal (fun i => q (3 + i)) W H N D p1 p2 p3 col od blk slp o cl kk sx sy sc (by first | assumption | omega | decide) (by first | assumption | omega | decide) (by first | assumption | omega | decide) (by first | assumption | omega | decide) (by first | assumption | omega | decide) (by first | assumption | omega | decide) (by first | assumption | omega | decide) (by first | assumption | omega | decide) (by first | assumption | omega | decide)) (cwV 1 C.2.2.2.2.1 (goodV cT wd_571 wd_568 wd_569 wd_570 wd_46) rfl rfl rfl (by decide +kernel) ⟨by decide, by decide⟩) [9, 10, 11, 12, 13, 14, 3, 4, 5, 6, 7, 8] [0, 1, 2] [0, 1, 2, 9, 10, 11, 12, 13, 14, 3, 4, 5, 6, 7, 8] rfl (by decide) rfl (by decide) (by decide) (fun _ => rfl) (by decide) 9 rfl rfl rfl (Nat.le_of_ble_eq_true rfl) ⟨by decide, by decide⟩ dX6_ask_8 (fun r u hr_5 => ?_)
  obtain ⟨r1_1, r2_2, r3_3, tal1_4⟩ := u
  try dsimp only at hr_5
  subst hr_5
  refine kR_i C (r1_1, r2_2, r3_3, tal1_4) dX6_ask_11 ?_ rfl
  first | rfl | trivial | (simp; done) | omega

set_option maxHeartbeats 4000000 in
set_option maxRecDepth 100000 in
theorem c_X6_keep_bad (l : Launch) (G : va_G) (y : Nat → ClassId) (t : Nat) (q : Nat → Nat) (kp : Nat → Int32) (i : Int32) (hb : ¬ inR i 2) (sz : Nat) : Met l yX6_keep (Cond.code yX6_keep cX6_keep 2 (some .int) :: TG) ({ frames := 0, cells := 0, slots := 0, locals := 0 }) (va_Pc [.ref (q 0), .int i] (PR G y t (kMain y q (fun i => some (q (55 + 6 * i)), kp)) sz)) (va_Qi (fun (r : Int32) (u : Unit) => r = (-1)) (fun (u : Unit) t => PO G (va_A (kMain y q (fun i => some (q (55 + 6 * i)), kp)) sz) (kMain y q (fun i => some (q (55 + 6 * i)), kp)) t) (va_A (kMain y q (fun i => some (q (55 + 6 * i)), kp)) sz)) 0 0 (va_A (kMain y q (fun i => some (q (55 + 6 * i)), kp)) sz) := by
  refine kMet (cc := cX6_keep) (maxL := 2) (ret := some .int) (Qc := fun A => va_Qi (fun (r : Int32) (u : Unit) => r = (-1)) (fun (u : Unit) t => PO G A (kMain y q (fun i => some (q (55 + 6 * i)), kp)) t) A) (by decide) rfl (Nat.le_of_ble_eq_true rfl) (fun p e s m below meth c A hsz C hin => ?_)
  refine KW.loc (lv' := [(0, .ref (q 0)), (1, .int i)]) [0, 1] rfl ?_
  refine kw_iload_n C 1 dX6_keep_0 rfl ?_
  refine kw_if_lt (tgt := 9) C dX6_keep_1 (by decide) (fun c_1 => ?_) (fun c_1 => ?_)
  ·
    refine kw_iconst (v := (-1)) C dX6_keep_9 (by decide) ?_
    refine kR_i C () dX6_keep_10 ?_ rfl
    first | rfl | trivial | (simp; done) | omega
  ·
    refine kw_iload_n C 1 dX6_keep_4 rfl ?_
    refine kw_iconst (v := nI 2) C dX6_keep_5 (by decide) ?_
    refine kw_icmp_lt (tgt := 11) C dX6_keep_6 (by decide) (fun c_6 => ?_) (fun c_6 => ?_)
    ·
      exact absurd (ir5 (by decide) c_1 c_6) hb
    ·
      refine kw_iconst (v := (-1)) C dX6_keep_9 (by decide) ?_
      refine kR_i C () dX6_keep_10 ?_ rfl
      first | rfl | trivial | (simp; done) | omega

set_option maxHeartbeats 4000000 in
set_option maxRecDepth 100000 in
theorem c_X6_keep_0 (l : Launch) (G : va_G) (y : Nat → ClassId) (t : Nat) (q : Nat → Nat) (kp : Nat → Int32) (wn : TWork) (wi : TWork) (sz : Nat) : Met l yX6_keep (Cond.code yX6_keep cX6_keep 2 (some .int) :: TG) ({ frames := 2, cells := 0, slots := 0, locals := 47 }) (va_Pc [.ref (q 0), .int (nI 0)] (PR G y t (kMain y q (fun i => some (q (55 + 6 * i)), kp) ++ (kWork y (fun i => q (3 + i)) wn ++ kWork y (fun i => q (55 + i)) wi)) sz)) (va_Qi (fun (r : Int32) (u : Unit) => r = wn.2.2.1) (fun (u : Unit) t => PO G (va_A (kMain y q (fun i => some (q (55 + 6 * i)), kp) ++ (kWork y (fun i => q (3 + i)) wn ++ kWork y (fun i => q (55 + i)) wi)) sz) (kMain y q (fun i => some (q (55 + 6 * i)), upd kp 0 (nI 1)) ++ (kWork y (fun i => q (3 + i)) wn ++ kWork y (fun i => q (55 + i)) wn)) t) (va_A (kMain y q (fun i => some (q (55 + 6 * i)), kp) ++ (kWork y (fun i => q (3 + i)) wn ++ kWork y (fun i => q (55 + i)) wi)) sz)) 0 0 (va_A (kMain y q (fun i => some (q (55 + 6 * i)), kp) ++ (kWork y (fun i => q (3 + i)) wn ++ kWork y (fun i => q (55 + i)) wi)) sz) := by
  refine kMet (cc := cX6_keep) (maxL := 2) (ret := some .int) (Qc := fun A => va_Qi (fun (r : Int32) (u : Unit) => r = wn.2.2.1) (fun (u : Unit) t => PO G A (kMain y q (fun i => some (q (55 + 6 * i)), upd kp 0 (nI 1)) ++ (kWork y (fun i => q (3 + i)) wn ++ kWork y (fun i => q (55 + i)) wn)) t) A) (by decide) rfl (Nat.le_of_ble_eq_true rfl) (fun p e s m below meth c A hsz C hin => ?_)
  refine KW.loc (lv' := [(0, .ref (q 0)), (1, .int (nI 0))]) [0, 1] rfl ?_
  refine kw_iload_n C 1 dX6_keep_0 rfl ?_
  refine kw_if_lt_N (tgt := 9) C (by omega) dX6_keep_1 (by decide) ?_
  refine kw_iload_n C 1 dX6_keep_4 rfl ?_
  refine kw_iconst (v := nI 2) C dX6_keep_5 (by decide) ?_
  refine kw_icmp_lt_N (tgt := 11) C (by omega) (by omega) dX6_keep_6 (by decide) (fun c_6 => ?_) (fun c_6 => ?_)
  ·
    refine kw_aload_n C 0 dX6_keep_11 rfl ?_
    refine kw_get (v := .ref (q 1)) (T := TX6) C 0 4 rfl rfl (by decide) (fun w h => mT (fwX6 w h)) rfl (mT wd_229) rfl dX6_keep_12 ?_
    refine kw_iload_n C 1 dX6_keep_15 rfl ?_
    refine kw_aldq (b := (q 55)) C 1 rfl (by omega) (by decide) (by rfl) dX6_keep_16 ?_
    refine kw_aload_n C 0 dX6_keep_17 rfl ?_
    refine kw_get (v := .ref (q 3)) (T := TX6) C 0 0 rfl rfl (by decide) (fun w h => mT (fwX6 w h)) rfl (mT wd_225) rfl dX6_keep_18 ?_
    refine kV_v (As := [.ref (q 3)]) (rest := []) (ws' := fun (u : Unit) => kMain y q (fun i => some (q (55 + 6 * i)), kp) ++ (kWork y (fun i => q (3 + i)) wn ++ kWork y (fun i => q (55 + i)) wn)) C (c_X5_copy l G y t (fun i => q (55 + i)) (fun i => q (3 + i)) wi.1 wi.2.1 wi.2.2.1 wi.2.2.2.1 wi.2.2.2.2.1 wi.2.2.2.2.2.1 wi.2.2.2.2.2.2.1 wi.2.2.2.2.2.2.2.1 wi.2.2.2.2.2.2.2.2.1 wi.2.2.2.2.2.2.2.2.2.1 wi.2.2.2.2.2.2.2.2.2.2 wn.1 wn.2.1 wn.2.2.1 wn.2.2.2.1 wn.2.2.2.2.1 wn.2.2.2.2.2.1 wn.2.2.2.2.2.2.1 wn.2.2.2.2.2.2.2.1 wn.2.2.2.2.2.2.2.2.1 wn.2.2.2.2.2.2.2.2.2.1 wn.2.2.2.2.2.2.2.2.2.2) (cwV 1 C.2.2.2.2.1 (goodV cT wd_323 wd_334 wd_321 wd_322 wd_42) rfl rfl rfl (by decide +kernel) ⟨by decide, by decide⟩) [9, 10, 11, 12, 13, 14, 3, 4, 5, 6, 7, 8] [0, 1, 2] [0, 1, 2, 9, 10, 11, 12, 13, 14, 3, 4, 5, 6, 7, 8] rfl (by decide) rfl (by decide) (by decide) (fun _ => rfl) (by decide) 9 rfl rfl rfl (Nat.le_of_ble_eq_true rfl) ⟨by decide, by decide⟩ dX6_keep_21 (fun u hr_1 => ?_)
    refine kw_aload_n C 0 dX6_keep_24 rfl ?_
    refine kw_get (v := .ref (q 2)) (T := TX6) C 0 5 rfl rfl (by decide) (fun w h => mT (fwX6 w h)) rfl (mT wd_230) rfl dX6_keep_25 ?_
    refine kw_iload_n C 1 dX6_keep_28 rfl ?_
    refine kw_iconst (v := nI 1) C dX6_keep_29 (by decide) ?_
    refine kw_zast C 2 (kMain y q (fun i => some (q (55 + 6 * i)), upd kp 0 (nI 1)) ++ (kWork y (fun i => q (3 + i)) wn ++ kWork y (fun i => q (55 + i)) wn)) rfl (by omega) (by decide) (by decide) dX6_keep_30 rfl ?_
    refine kw_aload_n C 0 dX6_keep_31 rfl ?_
    refine kw_get (v := .ref (q 3)) (T := TX6) C 0 0 rfl rfl (by decide) (fun w h => mT (fwX6 w h)) rfl (mT wd_225) rfl dX6_keep_32 ?_
    refine kw_getN (v := .int wn.2.2.1) (T := TX5) C 3 2 rfl rfl (by decide) (fun w h => mT (fwX5 w h)) rfl (List.mem_of_getElem? (i := 8) rfl) rfl dX6_keep_35 ?_
    refine kR_i C () dX6_keep_38 ?_ rfl
    first | rfl | trivial | (simp; done) | omega
  ·
    omega

set_option maxHeartbeats 4000000 in
set_option maxRecDepth 100000 in
theorem c_X6_keep_1 (l : Launch) (G : va_G) (y : Nat → ClassId) (t : Nat) (q : Nat → Nat) (kp : Nat → Int32) (wn : TWork) (wi : TWork) (sz : Nat) : Met l yX6_keep (Cond.code yX6_keep cX6_keep 2 (some .int) :: TG) ({ frames := 2, cells := 0, slots := 0, locals := 47 }) (va_Pc [.ref (q 0), .int (nI 1)] (PR G y t (kMain y q (fun i => some (q (55 + 6 * i)), kp) ++ (kWork y (fun i => q (3 + i)) wn ++ kWork y (fun i => q (61 + i)) wi)) sz)) (va_Qi (fun (r : Int32) (u : Unit) => r = wn.2.2.1) (fun (u : Unit) t => PO G (va_A (kMain y q (fun i => some (q (55 + 6 * i)), kp) ++ (kWork y (fun i => q (3 + i)) wn ++ kWork y (fun i => q (61 + i)) wi)) sz) (kMain y q (fun i => some (q (55 + 6 * i)), upd kp 1 (nI 1)) ++ (kWork y (fun i => q (3 + i)) wn ++ kWork y (fun i => q (61 + i)) wn)) t) (va_A (kMain y q (fun i => some (q (55 + 6 * i)), kp) ++ (kWork y (fun i => q (3 + i)) wn ++ kWork y (fun i => q (61 + i)) wi)) sz)) 0 0 (va_A (kMain y q (fun i => some (q (55 + 6 * i)), kp) ++ (kWork y (fun i => q (3 + i)) wn ++ kWork y (fun i => q (61 + i)) wi)) sz) := by
  refine kMet (cc := cX6_keep) (maxL := 2) (ret := some .int) (Qc := fun A => va_Qi (fun (r : Int32) (u : Unit) => r = wn.2.2.1) (fun (u : Unit) t => PO G A (kMain y q (fun i => some (q (55 + 6 * i)), upd kp 1 (nI 1)) ++ (kWork y (fun i => q (3 + i)) wn ++ kWork y (fun i => q (61 + i)) wn)) t) A) (by decide) rfl (Nat.le_of_ble_eq_true rfl) (fun p e s m below meth c A hsz C hin => ?_)
  refine KW.loc (lv' := [(0, .ref (q 0)), (1, .int (nI 1))]) [0, 1] rfl ?_
  refine kw_iload_n C 1 dX6_keep_0 rfl ?_
  refine kw_if_lt_N (tgt := 9) C (by omega) dX6_keep_1 (by decide) ?_
  refine kw_iload_n C 1 dX6_keep_4 rfl ?_
  refine kw_iconst (v := nI 2) C dX6_keep_5 (by decide) ?_
  refine kw_icmp_lt_N (tgt := 11) C (by omega) (by omega) dX6_keep_6 (by decide) (fun c_6 => ?_) (fun c_6 => ?_)
  ·
    refine kw_aload_n C 0 dX6_keep_11 rfl ?_
    refine kw_get (v := .ref (q 1)) (T := TX6) C 0 4 rfl rfl (by decide) (fun w h => mT (fwX6 w h)) rfl (mT wd_229) rfl dX6_keep_12 ?_
    refine kw_iload_n C 1 dX6_keep_15 rfl ?_
    refine kw_aldq (b := (q 61)) C 1 rfl (by omega) (by decide) (by rfl) dX6_keep_16 ?_
    refine kw_aload_n C 0 dX6_keep_17 rfl ?_
    refine kw_get (v := .ref (q 3)) (T := TX6) C 0 0 rfl rfl (by decide) (fun w h => mT (fwX6 w h)) rfl (mT wd_225) rfl dX6_keep_18 ?_
    refine kV_v (As := [.ref (q 3)]) (rest := []) (ws' := fun (u : Unit) => kMain y q (fun i => some (q (55 + 6 * i)), kp) ++ (kWork y (fun i => q (3 + i)) wn ++ kWork y (fun i => q (61 + i)) wn)) C (c_X5_copy l G y t (fun i => q (61 + i)) (fun i => q (3 + i)) wi.1 wi.2.1 wi.2.2.1 wi.2.2.2.1 wi.2.2.2.2.1 wi.2.2.2.2.2.1 wi.2.2.2.2.2.2.1 wi.2.2.2.2.2.2.2.1 wi.2.2.2.2.2.2.2.2.1 wi.2.2.2.2.2.2.2.2.2.1 wi.2.2.2.2.2.2.2.2.2.2 wn.1 wn.2.1 wn.2.2.1 wn.2.2.2.1 wn.2.2.2.2.1 wn.2.2.2.2.2.1 wn.2.2.2.2.2.2.1 wn.2.2.2.2.2.2.2.1 wn.2.2.2.2.2.2.2.2.1 wn.2.2.2.2.2.2.2.2.2.1 wn.2.2.2.2.2.2.2.2.2.2) (cwV 1 C.2.2.2.2.1 (goodV cT wd_323 wd_334 wd_321 wd_322 wd_42) rfl rfl rfl (by decide +kernel) ⟨by decide, by decide⟩) [9, 10, 11, 12, 13, 14, 3, 4, 5, 6, 7, 8] [0, 1, 2] [0, 1, 2, 9, 10, 11, 12, 13, 14, 3, 4, 5, 6, 7, 8] rfl (by decide) rfl (by decide) (by decide) (fun _ => rfl) (by decide) 9 rfl rfl rfl (Nat.le_of_ble_eq_true rfl) ⟨by decide, by decide⟩ dX6_keep_21 (fun u hr_1 => ?_)
    refine kw_aload_n C 0 dX6_keep_24 rfl ?_
    refine kw_get (v := .ref (q 2)) (T := TX6) C 0 5 rfl rfl (by decide) (fun w h => mT (fwX6 w h)) rfl (mT wd_230) rfl dX6_keep_25 ?_
    refine kw_iload_n C 1 dX6_keep_28 rfl ?_
    refine kw_iconst (v := nI 1) C dX6_keep_29 (by decide) ?_
    refine kw_zast C 2 (kMain y q (fun i => some (q (55 + 6 * i)), upd kp 1 (nI 1)) ++ (kWork y (fun i => q (3 + i)) wn ++ kWork y (fun i => q (61 + i)) wn)) rfl (by omega) (by decide) (by decide) dX6_keep_30 rfl ?_
    refine kw_aload_n C 0 dX6_keep_31 rfl ?_
    refine kw_get (v := .ref (q 3)) (T := TX6) C 0 0 rfl rfl (by decide) (fun w h => mT (fwX6 w h)) rfl (mT wd_225) rfl dX6_keep_32 ?_
    refine kw_getN (v := .int wn.2.2.1) (T := TX5) C 3 2 rfl rfl (by decide) (fun w h => mT (fwX5 w h)) rfl (List.mem_of_getElem? (i := 8) rfl) rfl dX6_keep_35 ?_
    refine kR_i C () dX6_keep_38 ?_ rfl
    first | rfl | trivial | (simp; done) | omega
  ·
    omega

set_option maxHeartbeats 4000000 in
set_option maxRecDepth 100000 in
theorem c_X6_back_bad (l : Launch) (G : va_G) (y : Nat → ClassId) (t : Nat) (q : Nat → Nat) (kp : Nat → Int32) (i : Int32) (hb : ¬ inR i 2) (sz : Nat) : Met l yX6_back (Cond.code yX6_back cX6_back 2 (some .int) :: TG) ({ frames := 0, cells := 0, slots := 0, locals := 0 }) (va_Pc [.ref (q 0), .int i] (PR G y t (kMain y q (fun i => some (q (55 + 6 * i)), kp)) sz)) (va_Qi (fun (r : Int32) (u : Unit) => r = (-1)) (fun (u : Unit) t => PO G (va_A (kMain y q (fun i => some (q (55 + 6 * i)), kp)) sz) (kMain y q (fun i => some (q (55 + 6 * i)), kp)) t) (va_A (kMain y q (fun i => some (q (55 + 6 * i)), kp)) sz)) 0 0 (va_A (kMain y q (fun i => some (q (55 + 6 * i)), kp)) sz) := by
  refine kMet (cc := cX6_back) (maxL := 2) (ret := some .int) (Qc := fun A => va_Qi (fun (r : Int32) (u : Unit) => r = (-1)) (fun (u : Unit) t => PO G A (kMain y q (fun i => some (q (55 + 6 * i)), kp)) t) A) (by decide) rfl (Nat.le_of_ble_eq_true rfl) (fun p e s m below meth c A hsz C hin => ?_)
  refine KW.loc (lv' := [(0, .ref (q 0)), (1, .int i)]) [0, 1] rfl ?_
  refine kw_iload_n C 1 dX6_back_0 rfl ?_
  refine kw_if_lt (tgt := 9) C dX6_back_1 (by decide) (fun c_1 => ?_) (fun c_1 => ?_)
  ·
    refine kw_iconst (v := (-1)) C dX6_back_9 (by decide) ?_
    refine kR_i C () dX6_back_10 ?_ rfl
    first | rfl | trivial | (simp; done) | omega
  ·
    refine kw_iload_n C 1 dX6_back_4 rfl ?_
    refine kw_iconst (v := nI 2) C dX6_back_5 (by decide) ?_
    refine kw_icmp_lt (tgt := 11) C dX6_back_6 (by decide) (fun c_6 => ?_) (fun c_6 => ?_)
    ·
      exact absurd (ir5 (by decide) c_1 c_6) hb
    ·
      refine kw_iconst (v := (-1)) C dX6_back_9 (by decide) ?_
      refine kR_i C () dX6_back_10 ?_ rfl
      first | rfl | trivial | (simp; done) | omega

set_option maxHeartbeats 4000000 in
set_option maxRecDepth 100000 in
theorem c_X6_back_none0 (l : Launch) (G : va_G) (y : Nat → ClassId) (t : Nat) (q : Nat → Nat) (kp : Nat → Int32) (hkp : kp 0 = nI 0) (sz : Nat) : Met l yX6_back (Cond.code yX6_back cX6_back 2 (some .int) :: TG) ({ frames := 0, cells := 0, slots := 0, locals := 0 }) (va_Pc [.ref (q 0), .int (nI 0)] (PR G y t (kMain y q (fun i => some (q (55 + 6 * i)), kp)) sz)) (va_Qi (fun (r : Int32) (u : Unit) => r = (-2)) (fun (u : Unit) t => PO G (va_A (kMain y q (fun i => some (q (55 + 6 * i)), kp)) sz) (kMain y q (fun i => some (q (55 + 6 * i)), kp)) t) (va_A (kMain y q (fun i => some (q (55 + 6 * i)), kp)) sz)) 0 0 (va_A (kMain y q (fun i => some (q (55 + 6 * i)), kp)) sz) := by
  refine kMet (cc := cX6_back) (maxL := 2) (ret := some .int) (Qc := fun A => va_Qi (fun (r : Int32) (u : Unit) => r = (-2)) (fun (u : Unit) t => PO G A (kMain y q (fun i => some (q (55 + 6 * i)), kp)) t) A) (by decide) rfl (Nat.le_of_ble_eq_true rfl) (fun p e s m below meth c A hsz C hin => ?_)
  refine KW.loc (lv' := [(0, .ref (q 0)), (1, .int (nI 0))]) [0, 1] rfl ?_
  refine kw_iload_n C 1 dX6_back_0 rfl ?_
  refine kw_if_lt_N (tgt := 9) C (by omega) dX6_back_1 (by decide) ?_
  refine kw_iload_n C 1 dX6_back_4 rfl ?_
  refine kw_iconst (v := nI 2) C dX6_back_5 (by decide) ?_
  refine kw_icmp_lt_N (tgt := 11) C (by omega) (by omega) dX6_back_6 (by decide) (fun c_6 => ?_) (fun c_6 => ?_)
  ·
    refine kw_aload_n C 0 dX6_back_11 rfl ?_
    refine kw_get (v := .ref (q 2)) (T := TX6) C 0 5 rfl rfl (by decide) (fun w h => mT (fwX6 w h)) rfl (mT wd_230) rfl dX6_back_12 ?_
    refine kw_iload_n C 1 dX6_back_15 rfl ?_
    refine kw_zald (f := kp) C 2 rfl (by omega) (by decide) dX6_back_16 ?_
    refine kw_top (show (kp 0) = (nI 0) from by exact hkp) ?_
    refine kw_if_ne_N (tgt := 23) C (by omega) dX6_back_17 (by decide) (fun c_17 => ?_) (fun c_17 => ?_)
    ·
      omega
    ·
      refine kw_bipush (v := (-2)) C dX6_back_20 (by decide) ?_
      refine kR_i C () dX6_back_22 ?_ rfl
      first | rfl | trivial | (simp; done) | omega
  ·
    omega

set_option maxHeartbeats 4000000 in
set_option maxRecDepth 100000 in
theorem c_X6_back_ok0 (l : Launch) (G : va_G) (y : Nat → ClassId) (t : Nat) (q : Nat → Nat) (kp : Nat → Int32) (wn : TWork) (wi : TWork) (k : Nat) (mm : Int32) (pw : Nat → Option Nat) (hkp : kp 0 = nI 1) (sz : Nat) : Met l yX6_back (Cond.code yX6_back cX6_back 2 (some .int) :: TG) ({ frames := 2, cells := 0, slots := 0, locals := 47 }) (va_Pc [.ref (q 0), .int (nI 0)] (PR G y t (kMain y q (fun i => some (q (55 + 6 * i)), kp) ++ (kWork y (fun i => q (3 + i)) wn ++ (kWork y (fun i => q (55 + i)) wi ++ kPast y (fun i => q (17 + i)) (nI k, mm, pw)))) sz)) (va_Qi (fun (r : Int32) (u : Unit) => r = wi.2.2.1) (fun (u : Unit) t => PO G (va_A (kMain y q (fun i => some (q (55 + 6 * i)), kp) ++ (kWork y (fun i => q (3 + i)) wn ++ (kWork y (fun i => q (55 + i)) wi ++ kPast y (fun i => q (17 + i)) (nI k, mm, pw)))) sz) (kMain y q (fun i => some (q (55 + 6 * i)), kp) ++ (kWork y (fun i => q (3 + i)) wi ++ (kWork y (fun i => q (55 + i)) wi ++ kPast y (fun i => q (17 + i)) (nI k, nI 0, pw)))) t) (va_A (kMain y q (fun i => some (q (55 + 6 * i)), kp) ++ (kWork y (fun i => q (3 + i)) wn ++ (kWork y (fun i => q (55 + i)) wi ++ kPast y (fun i => q (17 + i)) (nI k, mm, pw)))) sz)) 0 0 (va_A (kMain y q (fun i => some (q (55 + 6 * i)), kp) ++ (kWork y (fun i => q (3 + i)) wn ++ (kWork y (fun i => q (55 + i)) wi ++ kPast y (fun i => q (17 + i)) (nI k, mm, pw)))) sz) := by
  refine kMet (cc := cX6_back) (maxL := 2) (ret := some .int) (Qc := fun A => va_Qi (fun (r : Int32) (u : Unit) => r = wi.2.2.1) (fun (u : Unit) t => PO G A (kMain y q (fun i => some (q (55 + 6 * i)), kp) ++ (kWork y (fun i => q (3 + i)) wi ++ (kWork y (fun i => q (55 + i)) wi ++ kPast y (fun i => q (17 + i)) (nI k, nI 0, pw)))) t) A) (by decide) rfl (Nat.le_of_ble_eq_true rfl) (fun p e s m below meth c A hsz C hin => ?_)
  refine KW.loc (lv' := [(0, .ref (q 0)), (1, .int (nI 0))]) [0, 1] rfl ?_
  refine kw_iload_n C 1 dX6_back_0 rfl ?_
  refine kw_if_lt_N (tgt := 9) C (by omega) dX6_back_1 (by decide) ?_
  refine kw_iload_n C 1 dX6_back_4 rfl ?_
  refine kw_iconst (v := nI 2) C dX6_back_5 (by decide) ?_
  refine kw_icmp_lt_N (tgt := 11) C (by omega) (by omega) dX6_back_6 (by decide) (fun c_6 => ?_) (fun c_6 => ?_)
  ·
    refine kw_aload_n C 0 dX6_back_11 rfl ?_
    refine kw_get (v := .ref (q 2)) (T := TX6) C 0 5 rfl rfl (by decide) (fun w h => mT (fwX6 w h)) rfl (mT wd_230) rfl dX6_back_12 ?_
    refine kw_iload_n C 1 dX6_back_15 rfl ?_
    refine kw_zald (f := kp) C 2 rfl (by omega) (by decide) dX6_back_16 ?_
    refine kw_top (show (kp 0) = (nI 1) from by exact hkp) ?_
    refine kw_if_ne_N (tgt := 23) C (by omega) dX6_back_17 (by decide) (fun c_17 => ?_) (fun c_17 => ?_)
    ·
      refine kw_aload_n C 0 dX6_back_23 rfl ?_
      refine kw_get (v := .ref (q 3)) (T := TX6) C 0 0 rfl rfl (by decide) (fun w h => mT (fwX6 w h)) rfl (mT wd_225) rfl dX6_back_24 ?_
      refine kw_aload_n C 0 dX6_back_27 rfl ?_
      refine kw_get (v := .ref (q 1)) (T := TX6) C 0 4 rfl rfl (by decide) (fun w h => mT (fwX6 w h)) rfl (mT wd_229) rfl dX6_back_28 ?_
      refine kw_iload_n C 1 dX6_back_31 rfl ?_
      refine kw_aldq (b := (q 55)) C 1 rfl (by omega) (by decide) (by rfl) dX6_back_32 ?_
      refine kV_v (As := [.ref (q 55)]) (rest := []) (ws' := fun (u : Unit) => kMain y q (fun i => some (q (55 + 6 * i)), kp) ++ (kWork y (fun i => q (3 + i)) wi ++ (kWork y (fun i => q (55 + i)) wi ++ kPast y (fun i => q (17 + i)) (nI k, mm, pw)))) C (c_X5_copy l G y t (fun i => q (3 + i)) (fun i => q (55 + i)) wn.1 wn.2.1 wn.2.2.1 wn.2.2.2.1 wn.2.2.2.2.1 wn.2.2.2.2.2.1 wn.2.2.2.2.2.2.1 wn.2.2.2.2.2.2.2.1 wn.2.2.2.2.2.2.2.2.1 wn.2.2.2.2.2.2.2.2.2.1 wn.2.2.2.2.2.2.2.2.2.2 wi.1 wi.2.1 wi.2.2.1 wi.2.2.2.1 wi.2.2.2.2.1 wi.2.2.2.2.2.1 wi.2.2.2.2.2.2.1 wi.2.2.2.2.2.2.2.1 wi.2.2.2.2.2.2.2.2.1 wi.2.2.2.2.2.2.2.2.2.1 wi.2.2.2.2.2.2.2.2.2.2) (cwV 1 C.2.2.2.2.1 (goodV cT wd_323 wd_334 wd_321 wd_322 wd_42) rfl rfl rfl (by decide +kernel) ⟨by decide, by decide⟩) [3, 4, 5, 6, 7, 8, 9, 10, 11, 12, 13, 14] [0, 1, 2, 15, 16] [0, 1, 2, 5, 6, 7, 8, 9, 10, 11, 12, 13, 14, 15, 16, 3, 4] rfl (by decide) rfl (by decide) (by decide) (fun _ => rfl) (by decide) 3 rfl rfl rfl (Nat.le_of_ble_eq_true rfl) ⟨by decide, by decide⟩ dX6_back_33 (fun u hr_1 => ?_)
      refine kw_aload_n C 0 dX6_back_36 rfl ?_
      refine kw_get (v := .ref (q 17)) (T := TX6) C 0 3 rfl rfl (by decide) (fun w h => mT (fwX6 w h)) rfl (mT wd_228) rfl dX6_back_37 ?_
      refine kw_iconst (v := nI 0) C dX6_back_40 (by decide) ?_
      refine kw_putN (T := TX0) (ty := .int) C 15 2 (kMain y q (fun i => some (q (55 + 6 * i)), kp) ++ (kWork y (fun i => q (3 + i)) wi ++ (kWork y (fun i => q (55 + i)) wi ++ kPast y (fun i => q (17 + i)) (nI k, nI 0, pw)))) rfl rfl (by decide) (fun w h => mT (fwX0 w h)) tyX0 tyX0_ok nmX0 rfl (List.mem_of_getElem? (i := 17) rfl) rfl (by decide +kernel) rfl rfl (Nat.le_of_ble_eq_true rfl) dX6_back_41 rfl ?_
      refine kw_aload_n C 0 dX6_back_44 rfl ?_
      refine kw_get (v := .ref (q 3)) (T := TX6) C 0 0 rfl rfl (by decide) (fun w h => mT (fwX6 w h)) rfl (mT wd_225) rfl dX6_back_45 ?_
      refine kw_getN (v := .int wi.2.2.1) (T := TX5) C 3 2 rfl rfl (by decide) (fun w h => mT (fwX5 w h)) rfl (List.mem_of_getElem? (i := 8) rfl) rfl dX6_back_48 ?_
      refine kR_i C () dX6_back_51 ?_ rfl
      first | rfl | trivial | (simp; done) | omega
    ·
      omega
  ·
    omega

set_option maxHeartbeats 4000000 in
set_option maxRecDepth 100000 in
theorem c_X6_back_none1 (l : Launch) (G : va_G) (y : Nat → ClassId) (t : Nat) (q : Nat → Nat) (kp : Nat → Int32) (hkp : kp 1 = nI 0) (sz : Nat) : Met l yX6_back (Cond.code yX6_back cX6_back 2 (some .int) :: TG) ({ frames := 0, cells := 0, slots := 0, locals := 0 }) (va_Pc [.ref (q 0), .int (nI 1)] (PR G y t (kMain y q (fun i => some (q (55 + 6 * i)), kp)) sz)) (va_Qi (fun (r : Int32) (u : Unit) => r = (-2)) (fun (u : Unit) t => PO G (va_A (kMain y q (fun i => some (q (55 + 6 * i)), kp)) sz) (kMain y q (fun i => some (q (55 + 6 * i)), kp)) t) (va_A (kMain y q (fun i => some (q (55 + 6 * i)), kp)) sz)) 0 0 (va_A (kMain y q (fun i => some (q (55 + 6 * i)), kp)) sz) := by
  refine kMet (cc := cX6_back) (maxL := 2) (ret := some .int) (Qc := fun A => va_Qi (fun (r : Int32) (u : Unit) => r = (-2)) (fun (u : Unit) t => PO G A (kMain y q (fun i => some (q (55 + 6 * i)), kp)) t) A) (by decide) rfl (Nat.le_of_ble_eq_true rfl) (fun p e s m below meth c A hsz C hin => ?_)
  refine KW.loc (lv' := [(0, .ref (q 0)), (1, .int (nI 1))]) [0, 1] rfl ?_
  refine kw_iload_n C 1 dX6_back_0 rfl ?_
  refine kw_if_lt_N (tgt := 9) C (by omega) dX6_back_1 (by decide) ?_
  refine kw_iload_n C 1 dX6_back_4 rfl ?_
  refine kw_iconst (v := nI 2) C dX6_back_5 (by decide) ?_
  refine kw_icmp_lt_N (tgt := 11) C (by omega) (by omega) dX6_back_6 (by decide) (fun c_6 => ?_) (fun c_6 => ?_)
  ·
    refine kw_aload_n C 0 dX6_back_11 rfl ?_
    refine kw_get (v := .ref (q 2)) (T := TX6) C 0 5 rfl rfl (by decide) (fun w h => mT (fwX6 w h)) rfl (mT wd_230) rfl dX6_back_12 ?_
    refine kw_iload_n C 1 dX6_back_15 rfl ?_
    refine kw_zald (f := kp) C 2 rfl (by omega) (by decide) dX6_back_16 ?_
    refine kw_top (show (kp 1) = (nI 0) from by exact hkp) ?_
    refine kw_if_ne_N (tgt := 23) C (by omega) dX6_back_17 (by decide) (fun c_17 => ?_) (fun c_17 => ?_)
    ·
      omega
    ·
      refine kw_bipush (v := (-2)) C dX6_back_20 (by decide) ?_
      refine kR_i C () dX6_back_22 ?_ rfl
      first | rfl | trivial | (simp; done) | omega
  ·
    omega

set_option maxHeartbeats 4000000 in
set_option maxRecDepth 100000 in
theorem c_X6_back_ok1 (l : Launch) (G : va_G) (y : Nat → ClassId) (t : Nat) (q : Nat → Nat) (kp : Nat → Int32) (wn : TWork) (wi : TWork) (k : Nat) (mm : Int32) (pw : Nat → Option Nat) (hkp : kp 1 = nI 1) (sz : Nat) : Met l yX6_back (Cond.code yX6_back cX6_back 2 (some .int) :: TG) ({ frames := 2, cells := 0, slots := 0, locals := 47 }) (va_Pc [.ref (q 0), .int (nI 1)] (PR G y t (kMain y q (fun i => some (q (55 + 6 * i)), kp) ++ (kWork y (fun i => q (3 + i)) wn ++ (kWork y (fun i => q (61 + i)) wi ++ kPast y (fun i => q (17 + i)) (nI k, mm, pw)))) sz)) (va_Qi (fun (r : Int32) (u : Unit) => r = wi.2.2.1) (fun (u : Unit) t => PO G (va_A (kMain y q (fun i => some (q (55 + 6 * i)), kp) ++ (kWork y (fun i => q (3 + i)) wn ++ (kWork y (fun i => q (61 + i)) wi ++ kPast y (fun i => q (17 + i)) (nI k, mm, pw)))) sz) (kMain y q (fun i => some (q (55 + 6 * i)), kp) ++ (kWork y (fun i => q (3 + i)) wi ++ (kWork y (fun i => q (61 + i)) wi ++ kPast y (fun i => q (17 + i)) (nI k, nI 0, pw)))) t) (va_A (kMain y q (fun i => some (q (55 + 6 * i)), kp) ++ (kWork y (fun i => q (3 + i)) wn ++ (kWork y (fun i => q (61 + i)) wi ++ kPast y (fun i => q (17 + i)) (nI k, mm, pw)))) sz)) 0 0 (va_A (kMain y q (fun i => some (q (55 + 6 * i)), kp) ++ (kWork y (fun i => q (3 + i)) wn ++ (kWork y (fun i => q (61 + i)) wi ++ kPast y (fun i => q (17 + i)) (nI k, mm, pw)))) sz) := by
  refine kMet (cc := cX6_back) (maxL := 2) (ret := some .int) (Qc := fun A => va_Qi (fun (r : Int32) (u : Unit) => r = wi.2.2.1) (fun (u : Unit) t => PO G A (kMain y q (fun i => some (q (55 + 6 * i)), kp) ++ (kWork y (fun i => q (3 + i)) wi ++ (kWork y (fun i => q (61 + i)) wi ++ kPast y (fun i => q (17 + i)) (nI k, nI 0, pw)))) t) A) (by decide) rfl (Nat.le_of_ble_eq_true rfl) (fun p e s m below meth c A hsz C hin => ?_)
  refine KW.loc (lv' := [(0, .ref (q 0)), (1, .int (nI 1))]) [0, 1] rfl ?_
  refine kw_iload_n C 1 dX6_back_0 rfl ?_
  refine kw_if_lt_N (tgt := 9) C (by omega) dX6_back_1 (by decide) ?_
  refine kw_iload_n C 1 dX6_back_4 rfl ?_
  refine kw_iconst (v := nI 2) C dX6_back_5 (by decide) ?_
  refine kw_icmp_lt_N (tgt := 11) C (by omega) (by omega) dX6_back_6 (by decide) (fun c_6 => ?_) (fun c_6 => ?_)
  ·
    refine kw_aload_n C 0 dX6_back_11 rfl ?_
    refine kw_get (v := .ref (q 2)) (T := TX6) C 0 5 rfl rfl (by decide) (fun w h => mT (fwX6 w h)) rfl (mT wd_230) rfl dX6_back_12 ?_
    refine kw_iload_n C 1 dX6_back_15 rfl ?_
    refine kw_zald (f := kp) C 2 rfl (by omega) (by decide) dX6_back_16 ?_
    refine kw_top (show (kp 1) = (nI 1) from by exact hkp) ?_
    refine kw_if_ne_N (tgt := 23) C (by omega) dX6_back_17 (by decide) (fun c_17 => ?_) (fun c_17 => ?_)
    ·
      refine kw_aload_n C 0 dX6_back_23 rfl ?_
      refine kw_get (v := .ref (q 3)) (T := TX6) C 0 0 rfl rfl (by decide) (fun w h => mT (fwX6 w h)) rfl (mT wd_225) rfl dX6_back_24 ?_
      refine kw_aload_n C 0 dX6_back_27 rfl ?_
      refine kw_get (v := .ref (q 1)) (T := TX6) C 0 4 rfl rfl (by decide) (fun w h => mT (fwX6 w h)) rfl (mT wd_229) rfl dX6_back_28 ?_
      refine kw_iload_n C 1 dX6_back_31 rfl ?_
      refine kw_aldq (b := (q 61)) C 1 rfl (by omega) (by decide) (by rfl) dX6_back_32 ?_
      refine kV_v (As := [.ref (q 61)]) (rest := []) (ws' := fun (u : Unit) => kMain y q (fun i => some (q (55 + 6 * i)), kp) ++ (kWork y (fun i => q (3 + i)) wi ++ (kWork y (fun i => q (61 + i)) wi ++ kPast y (fun i => q (17 + i)) (nI k, mm, pw)))) C (c_X5_copy l G y t (fun i => q (3 + i)) (fun i => q (61 + i)) wn.1 wn.2.1 wn.2.2.1 wn.2.2.2.1 wn.2.2.2.2.1 wn.2.2.2.2.2.1 wn.2.2.2.2.2.2.1 wn.2.2.2.2.2.2.2.1 wn.2.2.2.2.2.2.2.2.1 wn.2.2.2.2.2.2.2.2.2.1 wn.2.2.2.2.2.2.2.2.2.2 wi.1 wi.2.1 wi.2.2.1 wi.2.2.2.1 wi.2.2.2.2.1 wi.2.2.2.2.2.1 wi.2.2.2.2.2.2.1 wi.2.2.2.2.2.2.2.1 wi.2.2.2.2.2.2.2.2.1 wi.2.2.2.2.2.2.2.2.2.1 wi.2.2.2.2.2.2.2.2.2.2) (cwV 1 C.2.2.2.2.1 (goodV cT wd_323 wd_334 wd_321 wd_322 wd_42) rfl rfl rfl (by decide +kernel) ⟨by decide, by decide⟩) [3, 4, 5, 6, 7, 8, 9, 10, 11, 12, 13, 14] [0, 1, 2, 15, 16] [0, 1, 2, 5, 6, 7, 8, 9, 10, 11, 12, 13, 14, 15, 16, 3, 4] rfl (by decide) rfl (by decide) (by decide) (fun _ => rfl) (by decide) 3 rfl rfl rfl (Nat.le_of_ble_eq_true rfl) ⟨by decide, by decide⟩ dX6_back_33 (fun u hr_1 => ?_)
      refine kw_aload_n C 0 dX6_back_36 rfl ?_
      refine kw_get (v := .ref (q 17)) (T := TX6) C 0 3 rfl rfl (by decide) (fun w h => mT (fwX6 w h)) rfl (mT wd_228) rfl dX6_back_37 ?_
      refine kw_iconst (v := nI 0) C dX6_back_40 (by decide) ?_
      refine kw_putN (T := TX0) (ty := .int) C 15 2 (kMain y q (fun i => some (q (55 + 6 * i)), kp) ++ (kWork y (fun i => q (3 + i)) wi ++ (kWork y (fun i => q (61 + i)) wi ++ kPast y (fun i => q (17 + i)) (nI k, nI 0, pw)))) rfl rfl (by decide) (fun w h => mT (fwX0 w h)) tyX0 tyX0_ok nmX0 rfl (List.mem_of_getElem? (i := 17) rfl) rfl (by decide +kernel) rfl rfl (Nat.le_of_ble_eq_true rfl) dX6_back_41 rfl ?_
      refine kw_aload_n C 0 dX6_back_44 rfl ?_
      refine kw_get (v := .ref (q 3)) (T := TX6) C 0 0 rfl rfl (by decide) (fun w h => mT (fwX6 w h)) rfl (mT wd_225) rfl dX6_back_45 ?_
      refine kw_getN (v := .int wi.2.2.1) (T := TX5) C 3 2 rfl rfl (by decide) (fun w h => mT (fwX5 w h)) rfl (List.mem_of_getElem? (i := 8) rfl) rfl dX6_back_48 ?_
      refine kR_i C () dX6_back_51 ?_ rfl
      first | rfl | trivial | (simp; done) | omega
    ·
      omega
  ·
    omega

set_option maxHeartbeats 4000000 in
set_option maxRecDepth 100000 in
theorem c_X6_count_bad (l : Launch) (G : va_G) (y : Nat → ClassId) (t : Nat) (q : Nat → Nat) (kp : Nat → Int32) (wh : Int32) (w0 : ¬ wh = 0) (w1 : ¬ wh = 1) (w2 : ¬ wh = 2) (w3 : ¬ wh = 3) (w4 : ¬ wh = 4) (w5 : ¬ wh = 5) (w6 : ¬ wh = 6) (w7 : ¬ wh = 7) (w8 : ¬ wh = 8) (sz : Nat) : Met l yX6_count (Cond.code yX6_count cX6_count 2 (some .int) :: TG) ({ frames := 0, cells := 0, slots := 0, locals := 0 }) (va_Pc [.ref (q 0), .int wh] (PR G y t (kMain y q (fun i => some (q (55 + 6 * i)), kp)) sz)) (va_Qi (fun (r : Int32) (u : Unit) => r = (-1)) (fun (u : Unit) t => PO G (va_A (kMain y q (fun i => some (q (55 + 6 * i)), kp)) sz) (kMain y q (fun i => some (q (55 + 6 * i)), kp)) t) (va_A (kMain y q (fun i => some (q (55 + 6 * i)), kp)) sz)) 0 0 (va_A (kMain y q (fun i => some (q (55 + 6 * i)), kp)) sz) := by
  refine kMet (cc := cX6_count) (maxL := 2) (ret := some .int) (Qc := fun A => va_Qi (fun (r : Int32) (u : Unit) => r = (-1)) (fun (u : Unit) t => PO G A (kMain y q (fun i => some (q (55 + 6 * i)), kp)) t) A) (by decide) rfl (Nat.le_of_ble_eq_true rfl) (fun p e s m below meth c A hsz C hin => ?_)
  refine KW.loc (lv' := [(0, .ref (q 0)), (1, .int wh)]) [0, 1] rfl ?_
  refine kw_iload_n C 1 dX6_count_0 rfl ?_
  refine kw_tabOut (tgt := 124) C dX6_count_1 (sw_out9 w0 w1 w2 w3 w4 w5 w6 w7 w8) (by decide) ?_
  refine kw_iconst (v := (-1)) C dX6_count_124 (by decide) ?_
  refine kR_i C () dX6_count_125 ?_ rfl
  first | rfl | trivial | (simp; done) | omega

set_option maxHeartbeats 4000000 in
set_option maxRecDepth 100000 in
theorem c_X6_count_0 (l : Launch) (G : va_G) (y : Nat → ClassId) (t : Nat) (q : Nat → Nat) (kp : Nat → Int32) (W : Nat) (H : Nat) (N : Nat) (D : Nat) (p1 : Int64) (p2 : Int64) (p3 : Int64) (col : Nat → Int32) (od : Nat → Int32) (blk : Nat → Int64) (slp : Nat → Int32) (sz : Nat) : Met l yX6_count (Cond.code yX6_count cX6_count 2 (some .int) :: TG) ({ frames := 0, cells := 0, slots := 0, locals := 0 }) (va_Pc [.ref (q 0), .int (nI 0)] (PR G y t (kMain y q (fun i => some (q (55 + 6 * i)), kp) ++ kWork y (fun i => q (3 + i)) (nI W, nI H, nI N, nI D, p1, p2, p3, col, od, blk, slp)) sz)) (va_Qi (fun (r : Int32) (u : Unit) => r = (nI W)) (fun (u : Unit) t => PO G (va_A (kMain y q (fun i => some (q (55 + 6 * i)), kp) ++ kWork y (fun i => q (3 + i)) (nI W, nI H, nI N, nI D, p1, p2, p3, col, od, blk, slp)) sz) (kMain y q (fun i => some (q (55 + 6 * i)), kp) ++ kWork y (fun i => q (3 + i)) (nI W, nI H, nI N, nI D, p1, p2, p3, col, od, blk, slp)) t) (va_A (kMain y q (fun i => some (q (55 + 6 * i)), kp) ++ kWork y (fun i => q (3 + i)) (nI W, nI H, nI N, nI D, p1, p2, p3, col, od, blk, slp)) sz)) 0 0 (va_A (kMain y q (fun i => some (q (55 + 6 * i)), kp) ++ kWork y (fun i => q (3 + i)) (nI W, nI H, nI N, nI D, p1, p2, p3, col, od, blk, slp)) sz) := by
  refine kMet (cc := cX6_count) (maxL := 2) (ret := some .int) (Qc := fun A => va_Qi (fun (r : Int32) (u : Unit) => r = (nI W)) (fun (u : Unit) t => PO G A (kMain y q (fun i => some (q (55 + 6 * i)), kp) ++ kWork y (fun i => q (3 + i)) (nI W, nI H, nI N, nI D, p1, p2, p3, col, od, blk, slp)) t) A) (by decide) rfl (Nat.le_of_ble_eq_true rfl) (fun p e s m below meth c A hsz C hin => ?_)
  refine KW.loc (lv' := [(0, .ref (q 0)), (1, .int (nI 0))]) [0, 1] rfl ?_
  refine kw_iload_n C 1 dX6_count_0 rfl ?_
  refine kw_tabIn (off := 51) (tgt := 52) (v := 0) C (by decide) dX6_count_1 (by decide) (by decide) (by decide) (by decide) ?_
  refine kw_aload_n C 0 dX6_count_52 rfl ?_
  refine kw_get (v := .ref (q 3)) (T := TX6) C 0 0 rfl rfl (by decide) (fun w h => mT (fwX6 w h)) rfl (mT wd_225) rfl dX6_count_53 ?_
  refine kw_getN (v := .int (nI W)) (T := TX5) C 3 0 rfl rfl (by decide) (fun w h => mT (fwX5 w h)) rfl (List.mem_of_getElem? (i := 2) rfl) rfl dX6_count_56 ?_
  refine kR_i C () dX6_count_59 ?_ rfl
  first | rfl | trivial | (simp; done) | omega

set_option maxHeartbeats 4000000 in
set_option maxRecDepth 100000 in
theorem c_X6_count_1 (l : Launch) (G : va_G) (y : Nat → ClassId) (t : Nat) (q : Nat → Nat) (kp : Nat → Int32) (W : Nat) (H : Nat) (N : Nat) (D : Nat) (p1 : Int64) (p2 : Int64) (p3 : Int64) (col : Nat → Int32) (od : Nat → Int32) (blk : Nat → Int64) (slp : Nat → Int32) (sz : Nat) : Met l yX6_count (Cond.code yX6_count cX6_count 2 (some .int) :: TG) ({ frames := 0, cells := 0, slots := 0, locals := 0 }) (va_Pc [.ref (q 0), .int (nI 1)] (PR G y t (kMain y q (fun i => some (q (55 + 6 * i)), kp) ++ kWork y (fun i => q (3 + i)) (nI W, nI H, nI N, nI D, p1, p2, p3, col, od, blk, slp)) sz)) (va_Qi (fun (r : Int32) (u : Unit) => r = (nI H)) (fun (u : Unit) t => PO G (va_A (kMain y q (fun i => some (q (55 + 6 * i)), kp) ++ kWork y (fun i => q (3 + i)) (nI W, nI H, nI N, nI D, p1, p2, p3, col, od, blk, slp)) sz) (kMain y q (fun i => some (q (55 + 6 * i)), kp) ++ kWork y (fun i => q (3 + i)) (nI W, nI H, nI N, nI D, p1, p2, p3, col, od, blk, slp)) t) (va_A (kMain y q (fun i => some (q (55 + 6 * i)), kp) ++ kWork y (fun i => q (3 + i)) (nI W, nI H, nI N, nI D, p1, p2, p3, col, od, blk, slp)) sz)) 0 0 (va_A (kMain y q (fun i => some (q (55 + 6 * i)), kp) ++ kWork y (fun i => q (3 + i)) (nI W, nI H, nI N, nI D, p1, p2, p3, col, od, blk, slp)) sz) := by
  refine kMet (cc := cX6_count) (maxL := 2) (ret := some .int) (Qc := fun A => va_Qi (fun (r : Int32) (u : Unit) => r = (nI H)) (fun (u : Unit) t => PO G A (kMain y q (fun i => some (q (55 + 6 * i)), kp) ++ kWork y (fun i => q (3 + i)) (nI W, nI H, nI N, nI D, p1, p2, p3, col, od, blk, slp)) t) A) (by decide) rfl (Nat.le_of_ble_eq_true rfl) (fun p e s m below meth c A hsz C hin => ?_)
  refine KW.loc (lv' := [(0, .ref (q 0)), (1, .int (nI 1))]) [0, 1] rfl ?_
  refine kw_iload_n C 1 dX6_count_0 rfl ?_
  refine kw_tabIn (off := 59) (tgt := 60) (v := 1) C (by decide) dX6_count_1 (by decide) (by decide) (by decide) (by decide) ?_
  refine kw_aload_n C 0 dX6_count_60 rfl ?_
  refine kw_get (v := .ref (q 3)) (T := TX6) C 0 0 rfl rfl (by decide) (fun w h => mT (fwX6 w h)) rfl (mT wd_225) rfl dX6_count_61 ?_
  refine kw_getN (v := .int (nI H)) (T := TX5) C 3 1 rfl rfl (by decide) (fun w h => mT (fwX5 w h)) rfl (List.mem_of_getElem? (i := 4) rfl) rfl dX6_count_64 ?_
  refine kR_i C () dX6_count_67 ?_ rfl
  first | rfl | trivial | (simp; done) | omega

set_option maxHeartbeats 4000000 in
set_option maxRecDepth 100000 in
theorem c_X6_count_2 (l : Launch) (G : va_G) (y : Nat → ClassId) (t : Nat) (q : Nat → Nat) (kp : Nat → Int32) (W : Nat) (H : Nat) (N : Nat) (D : Nat) (p1 : Int64) (p2 : Int64) (p3 : Int64) (col : Nat → Int32) (od : Nat → Int32) (blk : Nat → Int64) (slp : Nat → Int32) (sz : Nat) : Met l yX6_count (Cond.code yX6_count cX6_count 2 (some .int) :: TG) ({ frames := 0, cells := 0, slots := 0, locals := 0 }) (va_Pc [.ref (q 0), .int (nI 2)] (PR G y t (kMain y q (fun i => some (q (55 + 6 * i)), kp) ++ kWork y (fun i => q (3 + i)) (nI W, nI H, nI N, nI D, p1, p2, p3, col, od, blk, slp)) sz)) (va_Qi (fun (r : Int32) (u : Unit) => r = (nI N)) (fun (u : Unit) t => PO G (va_A (kMain y q (fun i => some (q (55 + 6 * i)), kp) ++ kWork y (fun i => q (3 + i)) (nI W, nI H, nI N, nI D, p1, p2, p3, col, od, blk, slp)) sz) (kMain y q (fun i => some (q (55 + 6 * i)), kp) ++ kWork y (fun i => q (3 + i)) (nI W, nI H, nI N, nI D, p1, p2, p3, col, od, blk, slp)) t) (va_A (kMain y q (fun i => some (q (55 + 6 * i)), kp) ++ kWork y (fun i => q (3 + i)) (nI W, nI H, nI N, nI D, p1, p2, p3, col, od, blk, slp)) sz)) 0 0 (va_A (kMain y q (fun i => some (q (55 + 6 * i)), kp) ++ kWork y (fun i => q (3 + i)) (nI W, nI H, nI N, nI D, p1, p2, p3, col, od, blk, slp)) sz) := by
  refine kMet (cc := cX6_count) (maxL := 2) (ret := some .int) (Qc := fun A => va_Qi (fun (r : Int32) (u : Unit) => r = (nI N)) (fun (u : Unit) t => PO G A (kMain y q (fun i => some (q (55 + 6 * i)), kp) ++ kWork y (fun i => q (3 + i)) (nI W, nI H, nI N, nI D, p1, p2, p3, col, od, blk, slp)) t) A) (by decide) rfl (Nat.le_of_ble_eq_true rfl) (fun p e s m below meth c A hsz C hin => ?_)
  refine KW.loc (lv' := [(0, .ref (q 0)), (1, .int (nI 2))]) [0, 1] rfl ?_
  refine kw_iload_n C 1 dX6_count_0 rfl ?_
  refine kw_tabIn (off := 67) (tgt := 68) (v := 2) C (by decide) dX6_count_1 (by decide) (by decide) (by decide) (by decide) ?_
  refine kw_aload_n C 0 dX6_count_68 rfl ?_
  refine kw_get (v := .ref (q 3)) (T := TX6) C 0 0 rfl rfl (by decide) (fun w h => mT (fwX6 w h)) rfl (mT wd_225) rfl dX6_count_69 ?_
  refine kw_getN (v := .int (nI N)) (T := TX5) C 3 2 rfl rfl (by decide) (fun w h => mT (fwX5 w h)) rfl (List.mem_of_getElem? (i := 8) rfl) rfl dX6_count_72 ?_
  refine kR_i C () dX6_count_75 ?_ rfl
  first | rfl | trivial | (simp; done) | omega

set_option maxHeartbeats 4000000 in
set_option maxRecDepth 100000 in
theorem c_X6_count_3 (l : Launch) (G : va_G) (y : Nat → ClassId) (t : Nat) (q : Nat → Nat) (kp : Nat → Int32) (W : Nat) (H : Nat) (N : Nat) (D : Nat) (p1 : Int64) (p2 : Int64) (p3 : Int64) (col : Nat → Int32) (od : Nat → Int32) (blk : Nat → Int64) (slp : Nat → Int32) (hW : W ≤ 6) (hH : H ≤ 6) (sz : Nat) : Met l yX6_count (Cond.code yX6_count cX6_count 2 (some .int) :: TG) ({ frames := 2, cells := 0, slots := 0, locals := 49 }) (va_Pc [.ref (q 0), .int (nI 3)] (PR G y t (kMain y q (fun i => some (q (55 + 6 * i)), kp) ++ kWork y (fun i => q (3 + i)) (nI W, nI H, nI N, nI D, p1, p2, p3, col, od, blk, slp)) sz)) (va_Qi (fun (r : Int32) (u : Unit) => r = (nI (palN p1 p2 p3 (papL W H) 8))) (fun (u : Unit) t => PO G (va_A (kMain y q (fun i => some (q (55 + 6 * i)), kp) ++ kWork y (fun i => q (3 + i)) (nI W, nI H, nI N, nI D, p1, p2, p3, col, od, blk, slp)) sz) (kMain y q (fun i => some (q (55 + 6 * i)), kp) ++ kWork y (fun i => q (3 + i)) (nI W, nI H, nI N, nI D, p1, p2, p3, col, od, blk, slp)) t) (va_A (kMain y q (fun i => some (q (55 + 6 * i)), kp) ++ kWork y (fun i => q (3 + i)) (nI W, nI H, nI N, nI D, p1, p2, p3, col, od, blk, slp)) sz)) 0 0 (va_A (kMain y q (fun i => some (q (55 + 6 * i)), kp) ++ kWork y (fun i => q (3 + i)) (nI W, nI H, nI N, nI D, p1, p2, p3, col, od, blk, slp)) sz) := by
  refine kMet (cc := cX6_count) (maxL := 2) (ret := some .int) (Qc := fun A => va_Qi (fun (r : Int32) (u : Unit) => r = (nI (palN p1 p2 p3 (papL W H) 8))) (fun (u : Unit) t => PO G A (kMain y q (fun i => some (q (55 + 6 * i)), kp) ++ kWork y (fun i => q (3 + i)) (nI W, nI H, nI N, nI D, p1, p2, p3, col, od, blk, slp)) t) A) (by decide) rfl (Nat.le_of_ble_eq_true rfl) (fun p e s m below meth c A hsz C hin => ?_)
  refine KW.loc (lv' := [(0, .ref (q 0)), (1, .int (nI 3))]) [0, 1] rfl ?_
  refine kw_iload_n C 1 dX6_count_0 rfl ?_
  refine kw_tabIn (off := 75) (tgt := 76) (v := 3) C (by decide) dX6_count_1 (by decide) (by decide) (by decide) (by decide) ?_
  refine kw_aload_n C 0 dX6_count_76 rfl ?_
  refine kw_get (v := .ref (q 3)) (T := TX6) C 0 0 rfl rfl (by decide) (fun w h => mT (fwX6 w h)) rfl (mT wd_225) rfl dX6_count_77 ?_
  refine kV_i (As := []) (rest := []) (ws' := fun (u : Unit) => kMain y q (fun i => some (q (55 + 6 * i)), kp) ++ kWork y (fun i => q (3 + i)) (nI W, nI H, nI N, nI D, p1, p2, p3, col, od, blk, slp)) C (c_X5_palette l G y t (fun i => q (3 + i)) W H N D p1 p2 p3 col od blk slp (by first | assumption | omega | decide) (by first | assumption | omega | decide)) (cwV 0 C.2.2.2.2.1 (goodV cT wd_346 wd_599 wd_344 wd_345 wd_42) rfl rfl rfl (by decide +kernel) ⟨by decide, by decide⟩) [3, 4, 5, 6, 7, 8] [0, 1, 2] [0, 1, 2, 3, 4, 5, 6, 7, 8] rfl (by decide) rfl (by decide) (by decide) (fun _ => rfl) (by decide) 3 rfl rfl rfl (Nat.le_of_ble_eq_true rfl) ⟨by decide, by decide⟩ dX6_count_80 (fun r u hr_1 => ?_)
  subst hr_1
  refine kR_i C () dX6_count_83 ?_ rfl
  first | rfl | trivial | (simp; done) | omega

set_option maxHeartbeats 4000000 in
set_option maxRecDepth 100000 in
theorem c_X6_count_4 (l : Launch) (G : va_G) (y : Nat → ClassId) (t : Nat) (q : Nat → Nat) (kp : Nat → Int32) (W : Nat) (H : Nat) (N : Nat) (D : Nat) (p1 : Int64) (p2 : Int64) (p3 : Int64) (col : Nat → Int32) (od : Nat → Int32) (blk : Nat → Int64) (slp : Nat → Int32) (hN : N ≤ 6) (sz : Nat) : Met l yX6_count (Cond.code yX6_count cX6_count 2 (some .int) :: TG) ({ frames := 2, cells := 0, slots := 0, locals := 43 }) (va_Pc [.ref (q 0), .int (nI 4)] (PR G y t (kMain y q (fun i => some (q (55 + 6 * i)), kp) ++ kWork y (fun i => q (3 + i)) (nI W, nI H, nI N, nI D, p1, p2, p3, col, od, blk, slp)) sz)) (va_Qi (fun (r : Int32) (u : Unit) => r = (cntB blk N)) (fun (u : Unit) t => PO G (va_A (kMain y q (fun i => some (q (55 + 6 * i)), kp) ++ kWork y (fun i => q (3 + i)) (nI W, nI H, nI N, nI D, p1, p2, p3, col, od, blk, slp)) sz) (kMain y q (fun i => some (q (55 + 6 * i)), kp) ++ kWork y (fun i => q (3 + i)) (nI W, nI H, nI N, nI D, p1, p2, p3, col, od, blk, slp)) t) (va_A (kMain y q (fun i => some (q (55 + 6 * i)), kp) ++ kWork y (fun i => q (3 + i)) (nI W, nI H, nI N, nI D, p1, p2, p3, col, od, blk, slp)) sz)) 0 0 (va_A (kMain y q (fun i => some (q (55 + 6 * i)), kp) ++ kWork y (fun i => q (3 + i)) (nI W, nI H, nI N, nI D, p1, p2, p3, col, od, blk, slp)) sz) := by
  refine kMet (cc := cX6_count) (maxL := 2) (ret := some .int) (Qc := fun A => va_Qi (fun (r : Int32) (u : Unit) => r = (cntB blk N)) (fun (u : Unit) t => PO G A (kMain y q (fun i => some (q (55 + 6 * i)), kp) ++ kWork y (fun i => q (3 + i)) (nI W, nI H, nI N, nI D, p1, p2, p3, col, od, blk, slp)) t) A) (by decide) rfl (Nat.le_of_ble_eq_true rfl) (fun p e s m below meth c A hsz C hin => ?_)
  refine KW.loc (lv' := [(0, .ref (q 0)), (1, .int (nI 4))]) [0, 1] rfl ?_
  refine kw_iload_n C 1 dX6_count_0 rfl ?_
  refine kw_tabIn (off := 83) (tgt := 84) (v := 4) C (by decide) dX6_count_1 (by decide) (by decide) (by decide) (by decide) ?_
  refine kw_aload_n C 0 dX6_count_84 rfl ?_
  refine kw_get (v := .ref (q 3)) (T := TX6) C 0 0 rfl rfl (by decide) (fun w h => mT (fwX6 w h)) rfl (mT wd_225) rfl dX6_count_85 ?_
  refine kV_i (As := []) (rest := []) (ws' := fun (u : Unit) => kMain y q (fun i => some (q (55 + 6 * i)), kp) ++ kWork y (fun i => q (3 + i)) (nI W, nI H, nI N, nI D, p1, p2, p3, col, od, blk, slp)) C (c_X5_cellsOfBlocks l G y t (fun i => q (3 + i)) W H N D p1 p2 p3 col od blk slp (by first | assumption | omega | decide)) (cwV 0 C.2.2.2.2.1 (goodV cT wd_603 wd_600 wd_601 wd_602 wd_42) rfl rfl rfl (by decide +kernel) ⟨by decide, by decide⟩) [3, 4, 5, 6, 7, 8] [0, 1, 2] [0, 1, 2, 3, 4, 5, 6, 7, 8] rfl (by decide) rfl (by decide) (by decide) (fun _ => rfl) (by decide) 3 rfl rfl rfl (Nat.le_of_ble_eq_true rfl) ⟨by decide, by decide⟩ dX6_count_88 (fun r u hr_1 => ?_)
  subst hr_1
  refine kR_i C () dX6_count_91 ?_ rfl
  first | rfl | trivial | (simp; done) | omega

set_option maxHeartbeats 4000000 in
set_option maxRecDepth 100000 in
theorem c_X6_count_5 (l : Launch) (G : va_G) (y : Nat → ClassId) (t : Nat) (q : Nat → Nat) (kp : Nat → Int32) (W : Nat) (H : Nat) (N : Nat) (D : Nat) (p1 : Int64) (p2 : Int64) (p3 : Int64) (col : Nat → Int32) (od : Nat → Int32) (blk : Nat → Int64) (slp : Nat → Int32) (hN : N ≤ 6) (sz : Nat) : Met l yX6_count (Cond.code yX6_count cX6_count 2 (some .int) :: TG) ({ frames := 1, cells := 0, slots := 0, locals := 22 }) (va_Pc [.ref (q 0), .int (nI 5)] (PR G y t (kMain y q (fun i => some (q (55 + 6 * i)), kp) ++ kWork y (fun i => q (3 + i)) (nI W, nI H, nI N, nI D, p1, p2, p3, col, od, blk, slp)) sz)) (va_Qi (fun (r : Int32) (u : Unit) => r = (nI (cntS slp N))) (fun (u : Unit) t => PO G (va_A (kMain y q (fun i => some (q (55 + 6 * i)), kp) ++ kWork y (fun i => q (3 + i)) (nI W, nI H, nI N, nI D, p1, p2, p3, col, od, blk, slp)) sz) (kMain y q (fun i => some (q (55 + 6 * i)), kp) ++ kWork y (fun i => q (3 + i)) (nI W, nI H, nI N, nI D, p1, p2, p3, col, od, blk, slp)) t) (va_A (kMain y q (fun i => some (q (55 + 6 * i)), kp) ++ kWork y (fun i => q (3 + i)) (nI W, nI H, nI N, nI D, p1, p2, p3, col, od, blk, slp)) sz)) 0 0 (va_A (kMain y q (fun i => some (q (55 + 6 * i)), kp) ++ kWork y (fun i => q (3 + i)) (nI W, nI H, nI N, nI D, p1, p2, p3, col, od, blk, slp)) sz) := by
  refine kMet (cc := cX6_count) (maxL := 2) (ret := some .int) (Qc := fun A => va_Qi (fun (r : Int32) (u : Unit) => r = (nI (cntS slp N))) (fun (u : Unit) t => PO G A (kMain y q (fun i => some (q (55 + 6 * i)), kp) ++ kWork y (fun i => q (3 + i)) (nI W, nI H, nI N, nI D, p1, p2, p3, col, od, blk, slp)) t) A) (by decide) rfl (Nat.le_of_ble_eq_true rfl) (fun p e s m below meth c A hsz C hin => ?_)
  refine KW.loc (lv' := [(0, .ref (q 0)), (1, .int (nI 5))]) [0, 1] rfl ?_
  refine kw_iload_n C 1 dX6_count_0 rfl ?_
  refine kw_tabIn (off := 91) (tgt := 92) (v := 5) C (by decide) dX6_count_1 (by decide) (by decide) (by decide) (by decide) ?_
  refine kw_aload_n C 0 dX6_count_92 rfl ?_
  refine kw_get (v := .ref (q 3)) (T := TX6) C 0 0 rfl rfl (by decide) (fun w h => mT (fwX6 w h)) rfl (mT wd_225) rfl dX6_count_93 ?_
  refine kV_i (As := []) (rest := []) (ws' := fun (u : Unit) => kMain y q (fun i => some (q (55 + 6 * i)), kp) ++ kWork y (fun i => q (3 + i)) (nI W, nI H, nI N, nI D, p1, p2, p3, col, od, blk, slp)) C (c_X5_slippedBlocks l G y t (fun i => q (3 + i)) W H N D p1 p2 p3 col od blk slp (by first | assumption | omega | decide)) (cwV 0 C.2.2.2.2.1 (goodV cT wd_608 wd_605 wd_606 wd_607 wd_42) rfl rfl rfl (by decide +kernel) ⟨by decide, by decide⟩) [3, 4, 5, 6, 7, 8] [0, 1, 2] [0, 1, 2, 3, 4, 5, 6, 7, 8] rfl (by decide) rfl (by decide) (by decide) (fun _ => rfl) (by decide) 3 rfl rfl rfl (Nat.le_of_ble_eq_true rfl) ⟨by decide, by decide⟩ dX6_count_96 (fun r u hr_1 => ?_)
  subst hr_1
  refine kR_i C () dX6_count_99 ?_ rfl
  first | rfl | trivial | (simp; done) | omega

set_option maxHeartbeats 4000000 in
set_option maxRecDepth 100000 in
theorem c_X6_count_6 (l : Launch) (G : va_G) (y : Nat → ClassId) (t : Nat) (q : Nat → Nat) (kp : Nat → Int32) (M : Nat) (q1 : Int64) (q2 : Int64) (q3 : Int64) (xs : Nat → Int32) (ys : Nat → Int32) (cs : Nat → Int32) (tal : Nat → Int32) (sz : Nat) : Met l yX6_count (Cond.code yX6_count cX6_count 2 (some .int) :: TG) ({ frames := 0, cells := 0, slots := 0, locals := 0 }) (va_Pc [.ref (q 0), .int (nI 6)] (PR G y t (kMain y q (fun i => some (q (55 + 6 * i)), kp) ++ kSight y (fun i => q (67 + i)) (nI M, q1, q2, q3, xs, ys, cs, tal)) sz)) (va_Qi (fun (r : Int32) (u : Unit) => r = (nI M)) (fun (u : Unit) t => PO G (va_A (kMain y q (fun i => some (q (55 + 6 * i)), kp) ++ kSight y (fun i => q (67 + i)) (nI M, q1, q2, q3, xs, ys, cs, tal)) sz) (kMain y q (fun i => some (q (55 + 6 * i)), kp) ++ kSight y (fun i => q (67 + i)) (nI M, q1, q2, q3, xs, ys, cs, tal)) t) (va_A (kMain y q (fun i => some (q (55 + 6 * i)), kp) ++ kSight y (fun i => q (67 + i)) (nI M, q1, q2, q3, xs, ys, cs, tal)) sz)) 0 0 (va_A (kMain y q (fun i => some (q (55 + 6 * i)), kp) ++ kSight y (fun i => q (67 + i)) (nI M, q1, q2, q3, xs, ys, cs, tal)) sz) := by
  refine kMet (cc := cX6_count) (maxL := 2) (ret := some .int) (Qc := fun A => va_Qi (fun (r : Int32) (u : Unit) => r = (nI M)) (fun (u : Unit) t => PO G A (kMain y q (fun i => some (q (55 + 6 * i)), kp) ++ kSight y (fun i => q (67 + i)) (nI M, q1, q2, q3, xs, ys, cs, tal)) t) A) (by decide) rfl (Nat.le_of_ble_eq_true rfl) (fun p e s m below meth c A hsz C hin => ?_)
  refine KW.loc (lv' := [(0, .ref (q 0)), (1, .int (nI 6))]) [0, 1] rfl ?_
  refine kw_iload_n C 1 dX6_count_0 rfl ?_
  refine kw_tabIn (off := 99) (tgt := 100) (v := 6) C (by decide) dX6_count_1 (by decide) (by decide) (by decide) (by decide) ?_
  refine kw_aload_n C 0 dX6_count_100 rfl ?_
  refine kw_get (v := .ref (q 67)) (T := TX6) C 0 6 rfl rfl (by decide) (fun w h => mT (fwX6 w h)) rfl (mT wd_231) rfl dX6_count_101 ?_
  refine kw_getN (v := .int (nI M)) (T := TX3) C 3 3 rfl rfl (by decide) (fun w h => mT (fwX3 w h)) rfl (List.mem_of_getElem? (i := 18) rfl) rfl dX6_count_104 ?_
  refine kR_i C () dX6_count_107 ?_ rfl
  first | rfl | trivial | (simp; done) | omega

set_option maxHeartbeats 4000000 in
set_option maxRecDepth 100000 in
theorem c_X6_count_7 (l : Launch) (G : va_G) (y : Nat → ClassId) (t : Nat) (q : Nat → Nat) (kp : Nat → Int32) (n : Nat) (itm : Int32) (fig : Int32) (ltr : Nat → Int32) (sz : Nat) : Met l yX6_count (Cond.code yX6_count cX6_count 2 (some .int) :: TG) ({ frames := 0, cells := 0, slots := 0, locals := 0 }) (va_Pc [.ref (q 0), .int (nI 7)] (PR G y t (kMain y q (fun i => some (q (55 + 6 * i)), kp) ++ kText y (fun i => q (15 + i)) (nI n, itm, fig, ltr)) sz)) (va_Qi (fun (r : Int32) (u : Unit) => r = (nI n)) (fun (u : Unit) t => PO G (va_A (kMain y q (fun i => some (q (55 + 6 * i)), kp) ++ kText y (fun i => q (15 + i)) (nI n, itm, fig, ltr)) sz) (kMain y q (fun i => some (q (55 + 6 * i)), kp) ++ kText y (fun i => q (15 + i)) (nI n, itm, fig, ltr)) t) (va_A (kMain y q (fun i => some (q (55 + 6 * i)), kp) ++ kText y (fun i => q (15 + i)) (nI n, itm, fig, ltr)) sz)) 0 0 (va_A (kMain y q (fun i => some (q (55 + 6 * i)), kp) ++ kText y (fun i => q (15 + i)) (nI n, itm, fig, ltr)) sz) := by
  refine kMet (cc := cX6_count) (maxL := 2) (ret := some .int) (Qc := fun A => va_Qi (fun (r : Int32) (u : Unit) => r = (nI n)) (fun (u : Unit) t => PO G A (kMain y q (fun i => some (q (55 + 6 * i)), kp) ++ kText y (fun i => q (15 + i)) (nI n, itm, fig, ltr)) t) A) (by decide) rfl (Nat.le_of_ble_eq_true rfl) (fun p e s m below meth c A hsz C hin => ?_)
  refine KW.loc (lv' := [(0, .ref (q 0)), (1, .int (nI 7))]) [0, 1] rfl ?_
  refine kw_iload_n C 1 dX6_count_0 rfl ?_
  refine kw_tabIn (off := 107) (tgt := 108) (v := 7) C (by decide) dX6_count_1 (by decide) (by decide) (by decide) (by decide) ?_
  refine kw_aload_n C 0 dX6_count_108 rfl ?_
  refine kw_get (v := .ref (q 15)) (T := TX6) C 0 2 rfl rfl (by decide) (fun w h => mT (fwX6 w h)) rfl (mT wd_227) rfl dX6_count_109 ?_
  refine kw_getN (v := .int (nI n)) (T := TX4) C 3 1 rfl rfl (by decide) (fun w h => mT (fwX4 w h)) rfl (List.mem_of_getElem? (i := 16) rfl) rfl dX6_count_112 ?_
  refine kR_i C () dX6_count_115 ?_ rfl
  first | rfl | trivial | (simp; done) | omega

set_option maxHeartbeats 4000000 in
set_option maxRecDepth 100000 in
theorem c_X6_count_8 (l : Launch) (G : va_G) (y : Nat → ClassId) (t : Nat) (q : Nat → Nat) (kp : Nat → Int32) (k : Nat) (mm : Nat) (pw : Nat → Option Nat) (sz : Nat) : Met l yX6_count (Cond.code yX6_count cX6_count 2 (some .int) :: TG) ({ frames := 0, cells := 0, slots := 0, locals := 0 }) (va_Pc [.ref (q 0), .int (nI 8)] (PR G y t (kMain y q (fun i => some (q (55 + 6 * i)), kp) ++ kPast y (fun i => q (17 + i)) (nI k, nI mm, pw)) sz)) (va_Qi (fun (r : Int32) (u : Unit) => r = (nI mm)) (fun (u : Unit) t => PO G (va_A (kMain y q (fun i => some (q (55 + 6 * i)), kp) ++ kPast y (fun i => q (17 + i)) (nI k, nI mm, pw)) sz) (kMain y q (fun i => some (q (55 + 6 * i)), kp) ++ kPast y (fun i => q (17 + i)) (nI k, nI mm, pw)) t) (va_A (kMain y q (fun i => some (q (55 + 6 * i)), kp) ++ kPast y (fun i => q (17 + i)) (nI k, nI mm, pw)) sz)) 0 0 (va_A (kMain y q (fun i => some (q (55 + 6 * i)), kp) ++ kPast y (fun i => q (17 + i)) (nI k, nI mm, pw)) sz) := by
  refine kMet (cc := cX6_count) (maxL := 2) (ret := some .int) (Qc := fun A => va_Qi (fun (r : Int32) (u : Unit) => r = (nI mm)) (fun (u : Unit) t => PO G A (kMain y q (fun i => some (q (55 + 6 * i)), kp) ++ kPast y (fun i => q (17 + i)) (nI k, nI mm, pw)) t) A) (by decide) rfl (Nat.le_of_ble_eq_true rfl) (fun p e s m below meth c A hsz C hin => ?_)
  refine KW.loc (lv' := [(0, .ref (q 0)), (1, .int (nI 8))]) [0, 1] rfl ?_
  refine kw_iload_n C 1 dX6_count_0 rfl ?_
  refine kw_tabIn (off := 115) (tgt := 116) (v := 8) C (by decide) dX6_count_1 (by decide) (by decide) (by decide) (by decide) ?_
  refine kw_aload_n C 0 dX6_count_116 rfl ?_
  refine kw_get (v := .ref (q 17)) (T := TX6) C 0 3 rfl rfl (by decide) (fun w h => mT (fwX6 w h)) rfl (mT wd_228) rfl dX6_count_117 ?_
  refine kw_getN (v := .int (nI mm)) (T := TX0) C 3 2 rfl rfl (by decide) (fun w h => mT (fwX0 w h)) rfl (List.mem_of_getElem? (i := 17) rfl) rfl dX6_count_120 ?_
  refine kR_i C () dX6_count_123 ?_ rfl
  first | rfl | trivial | (simp; done) | omega
