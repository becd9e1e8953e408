set_option maxHeartbeats 8000000 in
set_option maxRecDepth 100000 in
theorem c_X4_init (l : Launch) (G : va_G) (y : Nat → ClassId) (t : Nat) (h0 : Nat) (sz : Nat) : Met l yX4_init (Cond.code yX4_init cX4_init 1 none :: TG) ({ frames := 1, cells := 1, slots := 100, locals := 12 }) (va_Pc [.ref h0] (PRO G y t ([(h0, .inr (4, [.null, .int 0, .int 0, .int 0]))]) sz)) (va_Qv (fun (u : Nat → Nat) => u 0 = h0) (fun (u : Nat → Nat) t => PO G (va_A ([(h0, .inr (4, [.null, .int 0, .int 0, .int 0]))]) sz) (kText y u (nI 0, nI 32, nI 0, (fun _ => nI 0))) t) (va_A ([(h0, .inr (4, [.null, .int 0, .int 0, .int 0]))]) sz)) 1 100 (va_A ([(h0, .inr (4, [.null, .int 0, .int 0, .int 0]))]) sz) := by
  refine kMetO (cc := cX4_init) (maxL := 1) (ret := none) (Qc := fun A => va_Qv (fun (u : Nat → Nat) => u 0 = h0) (fun (u : Nat → Nat) t => PO G A (kText y u (nI 0, nI 32, nI 0, (fun _ => nI 0))) t) A) (by decide) rfl (Nat.le_of_ble_eq_true rfl) (fun p e s m below meth c A hsz C hin hAO => ?_)
  refine KW.loc (lv' := [(0, .ref h0)]) [0] rfl ?_
  refine kw_aload_n C 0 dX4_init_0 rfl ?_
  refine kw_objI C (mT wd_134) (mT wd_59) (mT wd_60) dX4_init_1 (by decide) (by decide) ?_
  refine kw_aload_n C 0 dX4_init_4 rfl ?_
  refine kw_bipush (v := nI 100) C dX4_init_5 (by decide) ?_
  refine kw_newc C (by decide) (mT wd_149) (by decide) (by decide) (by decide) dX4_init_7 (fun q1 => ?_)
  refine KW.wid 1 100 (by decide) (by decide) ?_
  refine KW.asw (ws' := [(h0, .inr (4, [.null, .int 0, .int 0, .int 0]))] ++ ([(q1, .inl (y 0, 100, .inl (fun _ => nI 0)))])) rfl ?_
  refine kw_putF (T := TX4) (ty := tyX4 0) C 0 0 ([(h0, .inr (4, [.ref q1, .int 0, .int 0, .int 0]))] ++ ([(q1, .inl (y 0, 100, .inl (fun _ => nI 0)))])) rfl rfl (by decide) (fun w h => mT (fwX4 w h)) tyX4 tyX4_ok nmX4 rfl (mT wd_135) rfl hin rfl (tyX4_ok 0 (by decide)) (by first | rfl | decide) (by first | rfl | decide) (Nat.le_of_ble_eq_true rfl) dX4_init_9 rfl ?_
  refine kw_aload_n C 0 dX4_init_12 rfl ?_
  refine kw_iconst (v := nI 0) C dX4_init_13 (by decide) ?_
  refine kw_put (T := TX4) (ty := tyX4 1) C 0 1 ([(h0, .inr (4, [.ref q1, .int (nI 0), .int 0, .int 0]))] ++ ([(q1, .inl (y 0, 100, .inl (fun _ => nI 0)))])) rfl rfl (by decide) (fun w h => mT (fwX4 w h)) tyX4 tyX4_ok nmX4 rfl (mT wd_136) rfl (tyX4_ok 1 (by decide)) (by first | rfl | decide) (by first | rfl | decide) (Nat.le_of_ble_eq_true rfl) dX4_init_14 rfl ?_
  refine kw_aload_n C 0 dX4_init_17 rfl ?_
  refine kw_bipush (v := nI 32) C dX4_init_18 (by decide) ?_
  refine kw_put (T := TX4) (ty := tyX4 2) C 0 2 ([(h0, .inr (4, [.ref q1, .int (nI 0), .int (nI 32), .int 0]))] ++ ([(q1, .inl (y 0, 100, .inl (fun _ => nI 0)))])) rfl rfl (by decide) (fun w h => mT (fwX4 w h)) tyX4 tyX4_ok nmX4 rfl (mT wd_138) rfl (tyX4_ok 2 (by decide)) (by first | rfl | decide) (by first | rfl | decide) (Nat.le_of_ble_eq_true rfl) dX4_init_20 rfl ?_
  refine kw_aload_n C 0 dX4_init_23 rfl ?_
  refine kw_iconst (v := nI 0) C dX4_init_24 (by decide) ?_
  refine kw_put (T := TX4) (ty := tyX4 3) C 0 3 ([(h0, .inr (4, [.ref q1, .int (nI 0), .int (nI 32), .int (nI 0)]))] ++ ([(q1, .inl (y 0, 100, .inl (fun _ => nI 0)))])) rfl rfl (by decide) (fun w h => mT (fwX4 w h)) tyX4 tyX4_ok nmX4 rfl (mT wd_139) rfl (tyX4_ok 3 (by decide)) (by first | rfl | decide) (by first | rfl | decide) (Nat.le_of_ble_eq_true rfl) dX4_init_25 rfl ?_
  refine kR_v C (fun i => [h0, q1].getD i 0) dX4_init_28 rfl rfl

set_option maxHeartbeats 8000000 in
set_option maxRecDepth 100000 in
theorem c_X3_init (l : Launch) (G : va_G) (y : Nat → ClassId) (t : Nat) (h0 : Nat) (sz : Nat) : Met l yX3_init (Cond.code yX3_init cX3_init 1 none :: TG) ({ frames := 2, cells := 5, slots := 309, locals := 32 }) (va_Pc [.ref h0] (PRO G y t ([(h0, .inr (3, [.null, .null, .null, .int 0, .null, .null]))]) sz)) (va_Qv (fun (u : Nat → Nat) => u 0 = h0) (fun (u : Nat → Nat) t => PO G (va_A ([(h0, .inr (3, [.null, .null, .null, .int 0, .null, .null]))]) sz) (kSight y u (nI 0, 0, 0, 0, (fun _ => nI 0), (fun _ => nI 0), (fun _ => nI 0), (fun _ => nI 0))) t) (va_A ([(h0, .inr (3, [.null, .null, .null, .int 0, .null, .null]))]) sz)) 5 309 (va_A ([(h0, .inr (3, [.null, .null, .null, .int 0, .null, .null]))]) sz) := by
  refine kMetO (cc := cX3_init) (maxL := 1) (ret := none) (Qc := fun A => va_Qv (fun (u : Nat → Nat) => u 0 = h0) (fun (u : Nat → Nat) t => PO G A (kSight y u (nI 0, 0, 0, 0, (fun _ => nI 0), (fun _ => nI 0), (fun _ => nI 0), (fun _ => nI 0))) t) A) (by decide) rfl (Nat.le_of_ble_eq_true rfl) (fun p e s m below meth c A hsz C hin hAO => ?_)
  refine KW.loc (lv' := [(0, .ref h0)]) [0] rfl ?_
  refine kw_aload_n C 0 dX3_init_0 rfl ?_
  refine kw_objI C (mT wd_175) (mT wd_59) (mT wd_60) dX3_init_1 (by decide) (by decide) ?_
  refine kw_aload_n C 0 dX3_init_4 rfl ?_
  refine kw_bipush (v := nI 6) C dX3_init_5 (by decide) ?_
  refine kw_newi C (by decide) (mT wd_127) (by decide) (by decide) (by decide) dX3_init_7 (fun q1 => ?_)
  refine KW.wid 1 6 (by decide) (by decide) ?_
  refine KW.asw (ws' := [(h0, .inr (3, [.null, .null, .null, .int 0, .null, .null]))] ++ ([(q1, .inl (y 1, 6, .inl (fun _ => nI 0)))])) rfl ?_
  refine kw_putF (T := TX3) (ty := tyX3 0) C 0 0 ([(h0, .inr (3, [.ref q1, .null, .null, .int 0, .null, .null]))] ++ ([(q1, .inl (y 1, 6, .inl (fun _ => nI 0)))])) rfl rfl (by decide) (fun w h => mT (fwX3 w h)) tyX3 tyX3_ok nmX3 rfl (mT wd_178) rfl hin rfl (tyX3_ok 0 (by decide)) (by first | rfl | decide) (by first | rfl | decide) (Nat.le_of_ble_eq_true rfl) dX3_init_9 rfl ?_
  refine kw_aload_n C 0 dX3_init_12 rfl ?_
  refine kw_bipush (v := nI 6) C dX3_init_13 (by decide) ?_
  refine kw_newi C (by decide) (mT wd_127) (by decide) (by decide) (by decide) dX3_init_15 (fun q2 => ?_)
  refine KW.wid 2 12 (by decide) (by decide) ?_
  refine KW.asw (ws' := [(h0, .inr (3, [.ref q1, .null, .null, .int 0, .null, .null]))] ++ ([(q1, .inl (y 1, 6, .inl (fun _ => nI 0)))] ++ ([(q2, .inl (y 1, 6, .inl (fun _ => nI 0)))]))) rfl ?_
  refine kw_putF (T := TX3) (ty := tyX3 1) C 0 1 ([(h0, .inr (3, [.ref q1, .ref q2, .null, .int 0, .null, .null]))] ++ ([(q1, .inl (y 1, 6, .inl (fun _ => nI 0)))] ++ ([(q2, .inl (y 1, 6, .inl (fun _ => nI 0)))]))) rfl rfl (by decide) (fun w h => mT (fwX3 w h)) tyX3 tyX3_ok nmX3 rfl (mT wd_179) rfl hin rfl (tyX3_ok 1 (by decide)) (by first | rfl | decide) (by first | rfl | decide) (Nat.le_of_ble_eq_true rfl) dX3_init_17 rfl ?_
  refine kw_aload_n C 0 dX3_init_20 rfl ?_
  refine kw_bipush (v := nI 6) C dX3_init_21 (by decide) ?_
  refine kw_newi C (by decide) (mT wd_127) (by decide) (by decide) (by decide) dX3_init_23 (fun q3 => ?_)
  refine KW.wid 3 18 (by decide) (by decide) ?_
  refine KW.asw (ws' := [(h0, .inr (3, [.ref q1, .ref q2, .null, .int 0, .null, .null]))] ++ ([(q1, .inl (y 1, 6, .inl (fun _ => nI 0)))] ++ ([(q2, .inl (y 1, 6, .inl (fun _ => nI 0)))] ++ ([(q3, .inl (y 1, 6, .inl (fun _ => nI 0)))])))) rfl ?_
  refine kw_putF (T := TX3) (ty := tyX3 2) C 0 2 ([(h0, .inr (3, [.ref q1, .ref q2, .ref q3, .int 0, .null, .null]))] ++ ([(q1, .inl (y 1, 6, .inl (fun _ => nI 0)))] ++ ([(q2, .inl (y 1, 6, .inl (fun _ => nI 0)))] ++ ([(q3, .inl (y 1, 6, .inl (fun _ => nI 0)))])))) rfl rfl (by decide) (fun w h => mT (fwX3 w h)) tyX3 tyX3_ok nmX3 rfl (mT wd_180) rfl hin rfl (tyX3_ok 2 (by decide)) (by first | rfl | decide) (by first | rfl | decide) (Nat.le_of_ble_eq_true rfl) dX3_init_25 rfl ?_
  refine kw_aload_n C 0 dX3_init_28 rfl ?_
  refine kw_iconst (v := nI 0) C dX3_init_29 (by decide) ?_
  refine kw_put (T := TX3) (ty := tyX3 3) C 0 3 ([(h0, .inr (3, [.ref q1, .ref q2, .ref q3, .int (nI 0), .null, .null]))] ++ ([(q1, .inl (y 1, 6, .inl (fun _ => nI 0)))] ++ ([(q2, .inl (y 1, 6, .inl (fun _ => nI 0)))] ++ ([(q3, .inl (y 1, 6, .inl (fun _ => nI 0)))])))) rfl rfl (by decide) (fun w h => mT (fwX3 w h)) tyX3 tyX3_ok nmX3 rfl (mT wd_181) rfl (tyX3_ok 3 (by decide)) (by first | rfl | decide) (by first | rfl | decide) (Nat.le_of_ble_eq_true rfl) dX3_init_30 rfl ?_
  refine kw_aload_n C 0 dX3_init_33 rfl ?_
  refine kw_new (T := TX2) (N := 3) C 2 [.long 0, .long 0, .long 0] (fun w h => mT (fwX2 w h)) tyX2 tyX2_ok (mT wd_176) (mT wd_68) (mT wd_43) rfl (by decide) (by decide) (by decide) dX3_init_34 (fun q4 => ?_)
  refine KW.wid 4 21 (by decide) (by decide) ?_
  refine KW.asw (ws' := [(h0, .inr (3, [.ref q1, .ref q2, .ref q3, .int (nI 0), .null, .null]))] ++ ([(q1, .inl (y 1, 6, .inl (fun _ => nI 0)))] ++ ([(q2, .inl (y 1, 6, .inl (fun _ => nI 0)))] ++ ([(q3, .inl (y 1, 6, .inl (fun _ => nI 0)))] ++ ([(q4, .inr (2, [.long 0, .long 0, .long 0]))]))))) rfl ?_
  refine kw_dup C dX3_init_37 rfl ?_
  refine kIN_v (As := []) (rest := [.ref q4, .ref h0]) (ws' := fun (u5 : Nat → Nat) => [(h0, .inr (3, [.ref q1, .ref q2, .ref q3, .int (nI 0), .null, .null]))] ++ ([(q1, .inl (y 1, 6, .inl (fun _ => nI 0)))] ++ ([(q2, .inl (y 1, 6, .inl (fun _ => nI 0)))] ++ ([(q3, .inl (y 1, 6, .inl (fun _ => nI 0)))] ++ (kSheet (u5 0) (0, 0, 0)))))) C hAO (c_X2_init l G y t q4) ⟨va_cnB 0 C.2.2.2.2.1 (goodTG cT wd_71) rfl rfl rfl (C.2.2.2.2.2.2.2.2.2.1.2 _ (List.mem_of_getElem? (i := 5) rfl)) (C.2.2.2.2.1 _ (mT wd_43)) (by decide +kernel) ⟨by decide, by decide⟩, rfl, C.2.2.2.2.1 _ (mT wd_70)⟩ [4] [0, 1, 2, 3] [0, 1, 2, 3, 4] rfl (by decide) rfl (by decide) (by decide) (fun _ => rfl) (by decide) rfl (Nat.le_of_ble_eq_true rfl) ⟨by decide, by decide⟩ dX3_init_38 (fun u5 hu5 => ?_)
  subst hu5
  refine KW.wid 4 21 (by decide) (by decide) ?_
  refine kw_putF (T := TX3) (ty := tyX3 4) C 0 4 ([(h0, .inr (3, [.ref q1, .ref q2, .ref q3, .int (nI 0), .ref (u5 0), .null]))] ++ ([(q1, .inl (y 1, 6, .inl (fun _ => nI 0)))] ++ ([(q2, .inl (y 1, 6, .inl (fun _ => nI 0)))] ++ ([(q3, .inl (y 1, 6, .inl (fun _ => nI 0)))] ++ (kSheet (u5 0) (0, 0, 0)))))) rfl rfl (by decide) (fun w h => mT (fwX3 w h)) tyX3 tyX3_ok nmX3 rfl (mT wd_183) rfl hin rfl (tyX3_ok 4 (by decide)) (by first | rfl | decide) (by first | rfl | decide) (Nat.le_of_ble_eq_true rfl) dX3_init_41 rfl ?_
  refine kw_aload_n C 0 dX3_init_44 rfl ?_
  refine kw_sipush (v := nI 288) C dX3_init_45 (by decide) ?_
  refine kw_newi C (by decide) (mT wd_127) (by decide) (by decide) (by decide) dX3_init_48 (fun q6 => ?_)
  refine KW.wid 5 309 (by decide) (by decide) ?_
  refine KW.asw (ws' := [(h0, .inr (3, [.ref q1, .ref q2, .ref q3, .int (nI 0), .ref (u5 0), .null]))] ++ ([(q1, .inl (y 1, 6, .inl (fun _ => nI 0)))] ++ ([(q2, .inl (y 1, 6, .inl (fun _ => nI 0)))] ++ ([(q3, .inl (y 1, 6, .inl (fun _ => nI 0)))] ++ (kSheet (u5 0) (0, 0, 0) ++ ([(q6, .inl (y 1, 288, .inl (fun _ => nI 0)))])))))) rfl ?_
  refine kw_putF (T := TX3) (ty := tyX3 5) C 0 5 ([(h0, .inr (3, [.ref q1, .ref q2, .ref q3, .int (nI 0), .ref (u5 0), .ref q6]))] ++ ([(q1, .inl (y 1, 6, .inl (fun _ => nI 0)))] ++ ([(q2, .inl (y 1, 6, .inl (fun _ => nI 0)))] ++ ([(q3, .inl (y 1, 6, .inl (fun _ => nI 0)))] ++ (kSheet (u5 0) (0, 0, 0) ++ ([(q6, .inl (y 1, 288, .inl (fun _ => nI 0)))])))))) rfl rfl (by decide) (fun w h => mT (fwX3 w h)) tyX3 tyX3_ok nmX3 rfl (mT wd_184) rfl hin rfl (tyX3_ok 5 (by decide)) (by first | rfl | decide) (by first | rfl | decide) (Nat.le_of_ble_eq_true rfl) dX3_init_50 rfl ?_
  refine kR_v C (fun i => [h0, q1, q2, q3, u5 0, q6].getD i 0) dX3_init_53 rfl rfl

set_option maxHeartbeats 8000000 in
set_option maxRecDepth 100000 in
theorem c_X1_init (l : Launch) (G : va_G) (y : Nat → ClassId) (t : Nat) (h0 : Nat) (sz : Nat) : Met l yX1_init (Cond.code yX1_init cX1_init 1 none :: TG) ({ frames := 1, cells := 1, slots := 6, locals := 12 }) (va_Pc [.ref h0] (PRO G y t ([(h0, .inr (1, [.null, .int 0, .int 0, .int 0, .int 0]))]) sz)) (va_Qv (fun (u : Nat → Nat) => u 0 = h0) (fun (u : Nat → Nat) t => PO G (va_A ([(h0, .inr (1, [.null, .int 0, .int 0, .int 0, .int 0]))]) sz) (kSearch y u (nI 0, nI 0, nI 0, nI 0, (fun _ => nI 0))) t) (va_A ([(h0, .inr (1, [.null, .int 0, .int 0, .int 0, .int 0]))]) sz)) 1 6 (va_A ([(h0, .inr (1, [.null, .int 0, .int 0, .int 0, .int 0]))]) sz) := by
  refine kMetO (cc := cX1_init) (maxL := 1) (ret := none) (Qc := fun A => va_Qv (fun (u : Nat → Nat) => u 0 = h0) (fun (u : Nat → Nat) t => PO G A (kSearch y u (nI 0, nI 0, nI 0, nI 0, (fun _ => nI 0))) t) A) (by decide) rfl (Nat.le_of_ble_eq_true rfl) (fun p e s m below meth c A hsz C hin hAO => ?_)
  refine KW.loc (lv' := [(0, .ref h0)]) [0] rfl ?_
  refine kw_aload_n C 0 dX1_init_0 rfl ?_
  refine kw_objI C (mT wd_204) (mT wd_59) (mT wd_60) dX1_init_1 (by decide) (by decide) ?_
  refine kw_aload_n C 0 dX1_init_4 rfl ?_
  refine kw_bipush (v := nI 6) C dX1_init_5 (by decide) ?_
  refine kw_newi C (by decide) (mT wd_127) (by decide) (by decide) (by decide) dX1_init_7 (fun q1 => ?_)
  refine KW.wid 1 6 (by decide) (by decide) ?_
  refine KW.asw (ws' := [(h0, .inr (1, [.null, .int 0, .int 0, .int 0, .int 0]))] ++ ([(q1, .inl (y 1, 6, .inl (fun _ => nI 0)))])) rfl ?_
  refine kw_putF (T := TX1) (ty := tyX1 0) C 0 0 ([(h0, .inr (1, [.ref q1, .int 0, .int 0, .int 0, .int 0]))] ++ ([(q1, .inl (y 1, 6, .inl (fun _ => nI 0)))])) rfl rfl (by decide) (fun w h => mT (fwX1 w h)) tyX1 tyX1_ok nmX1 rfl (mT wd_205) rfl hin rfl (tyX1_ok 0 (by decide)) (by first | rfl | decide) (by first | rfl | decide) (Nat.le_of_ble_eq_true rfl) dX1_init_9 rfl ?_
  refine kw_aload_n C 0 dX1_init_12 rfl ?_
  refine kw_iconst (v := nI 0) C dX1_init_13 (by decide) ?_
  refine kw_put (T := TX1) (ty := tyX1 1) C 0 1 ([(h0, .inr (1, [.ref q1, .int (nI 0), .int 0, .int 0, .int 0]))] ++ ([(q1, .inl (y 1, 6, .inl (fun _ => nI 0)))])) rfl rfl (by decide) (fun w h => mT (fwX1 w h)) tyX1 tyX1_ok nmX1 rfl (mT wd_206) rfl (tyX1_ok 1 (by decide)) (by first | rfl | decide) (by first | rfl | decide) (Nat.le_of_ble_eq_true rfl) dX1_init_14 rfl ?_
  refine kw_aload_n C 0 dX1_init_17 rfl ?_
  refine kw_iconst (v := nI 0) C dX1_init_18 (by decide) ?_
  refine kw_put (T := TX1) (ty := tyX1 2) C 0 2 ([(h0, .inr (1, [.ref q1, .int (nI 0), .int (nI 0), .int 0, .int 0]))] ++ ([(q1, .inl (y 1, 6, .inl (fun _ => nI 0)))])) rfl rfl (by decide) (fun w h => mT (fwX1 w h)) tyX1 tyX1_ok nmX1 rfl (mT wd_207) rfl (tyX1_ok 2 (by decide)) (by first | rfl | decide) (by first | rfl | decide) (Nat.le_of_ble_eq_true rfl) dX1_init_19 rfl ?_
  refine kw_aload_n C 0 dX1_init_22 rfl ?_
  refine kw_iconst (v := nI 0) C dX1_init_23 (by decide) ?_
  refine kw_put (T := TX1) (ty := tyX1 3) C 0 3 ([(h0, .inr (1, [.ref q1, .int (nI 0), .int (nI 0), .int (nI 0), .int 0]))] ++ ([(q1, .inl (y 1, 6, .inl (fun _ => nI 0)))])) rfl rfl (by decide) (fun w h => mT (fwX1 w h)) tyX1 tyX1_ok nmX1 rfl (mT wd_209) rfl (tyX1_ok 3 (by decide)) (by first | rfl | decide) (by first | rfl | decide) (Nat.le_of_ble_eq_true rfl) dX1_init_24 rfl ?_
  refine kw_aload_n C 0 dX1_init_27 rfl ?_
  refine kw_iconst (v := nI 0) C dX1_init_28 (by decide) ?_
  refine kw_put (T := TX1) (ty := tyX1 4) C 0 4 ([(h0, .inr (1, [.ref q1, .int (nI 0), .int (nI 0), .int (nI 0), .int (nI 0)]))] ++ ([(q1, .inl (y 1, 6, .inl (fun _ => nI 0)))])) rfl rfl (by decide) (fun w h => mT (fwX1 w h)) tyX1 tyX1_ok nmX1 rfl (mT wd_211) rfl (tyX1_ok 4 (by decide)) (by first | rfl | decide) (by first | rfl | decide) (Nat.le_of_ble_eq_true rfl) dX1_init_29 rfl ?_
  refine kR_v C (fun i => [h0, q1].getD i 0) dX1_init_32 rfl rfl
