set_option maxHeartbeats 8000000 in
set_option maxRecDepth 100000 in
theorem c_X5_init (l : Launch) (G : va_G) (y : Nat → ClassId) (t : Nat) (h0 : Nat) (sz : Nat) : Met l yX5_init (Cond.code yX5_init cX5_init 1 none :: TG) ({ frames := 2, cells := 5, slots := 27, locals := 32 }) (va_Pc [.ref h0] (PRO G y t ([(h0, .inr (5, [.int 0, .int 0, .int 0, .int 0, .null, .null, .null, .null, .null]))]) sz)) (va_Qv (fun (u : Nat → Nat) => u 0 = h0) (fun (u : Nat → Nat) t => PO G (va_A ([(h0, .inr (5, [.int 0, .int 0, .int 0, .int 0, .null, .null, .null, .null, .null]))]) sz) (kWork y u (nI 1, nI 1, nI 0, nI 0, 0, 0, 0, (fun _ => nI 0), (fun _ => nI 0), (fun _ => 0), (fun _ => nI 0))) t) (va_A ([(h0, .inr (5, [.int 0, .int 0, .int 0, .int 0, .null, .null, .null, .null, .null]))]) sz)) 5 27 (va_A ([(h0, .inr (5, [.int 0, .int 0, .int 0, .int 0, .null, .null, .null, .null, .null]))]) sz) := by
  refine kMetO (cc := cX5_init) (maxL := 1) (ret := none) (Qc := fun A => va_Qv (fun (u : Nat → Nat) => u 0 = h0) (fun (u : Nat → Nat) t => PO G A (kWork y u (nI 1, nI 1, nI 0, nI 0, 0, 0, 0, (fun _ => nI 0), (fun _ => nI 0), (fun _ => 0), (fun _ => nI 0))) t) A) (by decide) rfl (Nat.le_of_ble_eq_true rfl) (fun p e s m below meth c A hsz C hin hAO => ?_)
  refine KW.loc (lv' := [(0, .ref h0)]) [0] rfl ?_
  refine kw_aload_n C 0 dX5_init_0 rfl ?_
  refine kw_objI C (mT wd_66) (mT wd_59) (mT wd_60) dX5_init_1 (by decide) (by decide) ?_
  refine kw_aload_n C 0 dX5_init_4 rfl ?_
  refine kw_iconst (v := nI 1) C dX5_init_5 (by decide) ?_
  refine kw_put (T := TX5) (ty := tyX5 0) C 0 0 ([(h0, .inr (5, [.int (nI 1), .int 0, .int 0, .int 0, .null, .null, .null, .null, .null]))]) rfl rfl (by decide) (fun w h => mT (fwX5 w h)) tyX5 tyX5_ok nmX5 rfl (mT wd_83) rfl (tyX5_ok 0 (by decide)) (by first | rfl | decide) (by first | rfl | decide) (Nat.le_of_ble_eq_true rfl) dX5_init_6 rfl ?_
  refine kw_aload_n C 0 dX5_init_9 rfl ?_
  refine kw_iconst (v := nI 1) C dX5_init_10 (by decide) ?_
  refine kw_put (T := TX5) (ty := tyX5 1) C 0 1 ([(h0, .inr (5, [.int (nI 1), .int (nI 1), .int 0, .int 0, .null, .null, .null, .null, .null]))]) rfl rfl (by decide) (fun w h => mT (fwX5 w h)) tyX5 tyX5_ok nmX5 rfl (mT wd_87) rfl (tyX5_ok 1 (by decide)) (by first | rfl | decide) (by first | rfl | decide) (Nat.le_of_ble_eq_true rfl) dX5_init_11 rfl ?_
  refine kw_aload_n C 0 dX5_init_14 rfl ?_
  refine kw_iconst (v := nI 0) C dX5_init_15 (by decide) ?_
  refine kw_put (T := TX5) (ty := tyX5 2) C 0 2 ([(h0, .inr (5, [.int (nI 1), .int (nI 1), .int (nI 0), .int 0, .null, .null, .null, .null, .null]))]) rfl rfl (by decide) (fun w h => mT (fwX5 w h)) tyX5 tyX5_ok nmX5 rfl (mT wd_91) rfl (tyX5_ok 2 (by decide)) (by first | rfl | decide) (by first | rfl | decide) (Nat.le_of_ble_eq_true rfl) dX5_init_16 rfl ?_
  refine kw_aload_n C 0 dX5_init_19 rfl ?_
  refine kw_iconst (v := nI 0) C dX5_init_20 (by decide) ?_
  refine kw_put (T := TX5) (ty := tyX5 3) C 0 3 ([(h0, .inr (5, [.int (nI 1), .int (nI 1), .int (nI 0), .int (nI 0), .null, .null, .null, .null, .null]))]) rfl rfl (by decide) (fun w h => mT (fwX5 w h)) tyX5 tyX5_ok nmX5 rfl (mT wd_96) rfl (tyX5_ok 3 (by decide)) (by first | rfl | decide) (by first | rfl | decide) (Nat.le_of_ble_eq_true rfl) dX5_init_21 rfl ?_
  refine kw_aload_n C 0 dX5_init_24 rfl ?_
  refine kw_new (T := TX2) (N := 3) C 2 [.long 0, .long 0, .long 0] (fun w h => mT (fwX2 w h)) tyX2 tyX2_ok (mT wd_67) (mT wd_68) (mT wd_43) rfl (by decide) (by decide) (by decide) dX5_init_25 (fun q1 => ?_)
  refine KW.wid 1 3 (by decide) (by decide) ?_
  refine KW.asw (ws' := [(h0, .inr (5, [.int (nI 1), .int (nI 1), .int (nI 0), .int (nI 0), .null, .null, .null, .null, .null]))] ++ ([(q1, .inr (2, [.long 0, .long 0, .long 0]))])) rfl ?_
  refine kw_dup C dX5_init_28 rfl ?_
  refine kIN_v (As := []) (rest := [.ref q1, .ref h0]) (ws' := fun (u2 : Nat → Nat) => [(h0, .inr (5, [.int (nI 1), .int (nI 1), .int (nI 0), .int (nI 0), .null, .null, .null, .null, .null]))] ++ (kSheet (u2 0) (0, 0, 0))) C hAO (c_X2_init l G y t q1) ⟨va_cnB 0 C.2.2.2.2.1 (goodTG cT wd_71) rfl rfl rfl (C.2.2.2.2.2.2.2.2.2.1.2 _ (List.mem_of_getElem? (i := 1) rfl)) (C.2.2.2.2.1 _ (mT wd_43)) (by decide +kernel) ⟨by decide, by decide⟩, rfl, C.2.2.2.2.1 _ (mT wd_70)⟩ [1] [0] [0, 1] rfl (by decide) rfl (by decide) (by decide) (fun _ => rfl) (by decide) rfl (Nat.le_of_ble_eq_true rfl) ⟨by decide, by decide⟩ dX5_init_29 (fun u2 hu2 => ?_)
  subst hu2
  refine KW.wid 1 3 (by decide) (by decide) ?_
  refine kw_putF (T := TX5) (ty := tyX5 4) C 0 4 ([(h0, .inr (5, [.int (nI 1), .int (nI 1), .int (nI 0), .int (nI 0), .ref (u2 0), .null, .null, .null, .null]))] ++ (kSheet (u2 0) (0, 0, 0))) rfl rfl (by decide) (fun w h => mT (fwX5 w h)) tyX5 tyX5_ok nmX5 rfl (mT wd_97) rfl hin rfl (tyX5_ok 4 (by decide)) (by first | rfl | decide) (by first | rfl | decide) (Nat.le_of_ble_eq_true rfl) dX5_init_32 rfl ?_
  refine kw_aload_n C 0 dX5_init_35 rfl ?_
  refine kw_bipush (v := nI 6) C dX5_init_36 (by decide) ?_
  refine kw_newi C (by decide) (mT wd_127) (by decide) (by decide) (by decide) dX5_init_38 (fun q3 => ?_)
  refine KW.wid 2 9 (by decide) (by decide) ?_
  refine KW.asw (ws' := [(h0, .inr (5, [.int (nI 1), .int (nI 1), .int (nI 0), .int (nI 0), .ref (u2 0), .null, .null, .null, .null]))] ++ (kSheet (u2 0) (0, 0, 0) ++ ([(q3, .inl (y 1, 6, .inl (fun _ => nI 0)))]))) rfl ?_
  refine kw_putF (T := TX5) (ty := tyX5 5) C 0 5 ([(h0, .inr (5, [.int (nI 1), .int (nI 1), .int (nI 0), .int (nI 0), .ref (u2 0), .ref q3, .null, .null, .null]))] ++ (kSheet (u2 0) (0, 0, 0) ++ ([(q3, .inl (y 1, 6, .inl (fun _ => nI 0)))]))) rfl rfl (by decide) (fun w h => mT (fwX5 w h)) tyX5 tyX5_ok nmX5 rfl (mT wd_100) rfl hin rfl (tyX5_ok 5 (by decide)) (by first | rfl | decide) (by first | rfl | decide) (Nat.le_of_ble_eq_true rfl) dX5_init_40 rfl ?_
  refine kw_aload_n C 0 dX5_init_43 rfl ?_
  refine kw_bipush (v := nI 6) C dX5_init_44 (by decide) ?_
  refine kw_newi C (by decide) (mT wd_127) (by decide) (by decide) (by decide) dX5_init_46 (fun q4 => ?_)
  refine KW.wid 3 15 (by decide) (by decide) ?_
  refine KW.asw (ws' := [(h0, .inr (5, [.int (nI 1), .int (nI 1), .int (nI 0), .int (nI 0), .ref (u2 0), .ref q3, .null, .null, .null]))] ++ (kSheet (u2 0) (0, 0, 0) ++ ([(q3, .inl (y 1, 6, .inl (fun _ => nI 0)))] ++ ([(q4, .inl (y 1, 6, .inl (fun _ => nI 0)))])))) rfl ?_
  refine kw_putF (T := TX5) (ty := tyX5 6) C 0 6 ([(h0, .inr (5, [.int (nI 1), .int (nI 1), .int (nI 0), .int (nI 0), .ref (u2 0), .ref q3, .ref q4, .null, .null]))] ++ (kSheet (u2 0) (0, 0, 0) ++ ([(q3, .inl (y 1, 6, .inl (fun _ => nI 0)))] ++ ([(q4, .inl (y 1, 6, .inl (fun _ => nI 0)))])))) rfl rfl (by decide) (fun w h => mT (fwX5 w h)) tyX5 tyX5_ok nmX5 rfl (mT wd_102) rfl hin rfl (tyX5_ok 6 (by decide)) (by first | rfl | decide) (by first | rfl | decide) (Nat.le_of_ble_eq_true rfl) dX5_init_48 rfl ?_
  refine kw_aload_n C 0 dX5_init_51 rfl ?_
  refine kw_bipush (v := nI 6) C dX5_init_52 (by decide) ?_
  refine kw_newl C (by decide) (mT wd_128) (by decide) (by decide) (by decide) dX5_init_54 (fun q5 => ?_)
  refine KW.wid 4 21 (by decide) (by decide) ?_
  refine KW.asw (ws' := [(h0, .inr (5, [.int (nI 1), .int (nI 1), .int (nI 0), .int (nI 0), .ref (u2 0), .ref q3, .ref q4, .null, .null]))] ++ (kSheet (u2 0) (0, 0, 0) ++ ([(q3, .inl (y 1, 6, .inl (fun _ => nI 0)))] ++ ([(q4, .inl (y 1, 6, .inl (fun _ => nI 0)))] ++ ([(q5, .inl (y 2, 6, .inr (.inl (fun _ => 0))))]))))) rfl ?_
  refine kw_putF (T := TX5) (ty := tyX5 7) C 0 7 ([(h0, .inr (5, [.int (nI 1), .int (nI 1), .int (nI 0), .int (nI 0), .ref (u2 0), .ref q3, .ref q4, .ref q5, .null]))] ++ (kSheet (u2 0) (0, 0, 0) ++ ([(q3, .inl (y 1, 6, .inl (fun _ => nI 0)))] ++ ([(q4, .inl (y 1, 6, .inl (fun _ => nI 0)))] ++ ([(q5, .inl (y 2, 6, .inr (.inl (fun _ => 0))))]))))) rfl rfl (by decide) (fun w h => mT (fwX5 w h)) tyX5 tyX5_ok nmX5 rfl (mT wd_103) rfl hin rfl (tyX5_ok 7 (by decide)) (by first | rfl | decide) (by first | rfl | decide) (Nat.le_of_ble_eq_true rfl) dX5_init_56 rfl ?_
  refine kw_aload_n C 0 dX5_init_59 rfl ?_
  refine kw_bipush (v := nI 6) C dX5_init_60 (by decide) ?_
  refine kw_newi C (by decide) (mT wd_127) (by decide) (by decide) (by decide) dX5_init_62 (fun q6 => ?_)
  refine KW.wid 5 27 (by decide) (by decide) ?_
  refine KW.asw (ws' := [(h0, .inr (5, [.int (nI 1), .int (nI 1), .int (nI 0), .int (nI 0), .ref (u2 0), .ref q3, .ref q4, .ref q5, .null]))] ++ (kSheet (u2 0) (0, 0, 0) ++ ([(q3, .inl (y 1, 6, .inl (fun _ => nI 0)))] ++ ([(q4, .inl (y 1, 6, .inl (fun _ => nI 0)))] ++ ([(q5, .inl (y 2, 6, .inr (.inl (fun _ => 0))))] ++ ([(q6, .inl (y 1, 6, .inl (fun _ => nI 0)))])))))) rfl ?_
  refine kw_putF (T := TX5) (ty := tyX5 8) C 0 8 ([(h0, .inr (5, [.int (nI 1), .int (nI 1), .int (nI 0), .int (nI 0), .ref (u2 0), .ref q3, .ref q4, .ref q5, .ref q6]))] ++ (kSheet (u2 0) (0, 0, 0) ++ ([(q3, .inl (y 1, 6, .inl (fun _ => nI 0)))] ++ ([(q4, .inl (y 1, 6, .inl (fun _ => nI 0)))] ++ ([(q5, .inl (y 2, 6, .inr (.inl (fun _ => 0))))] ++ ([(q6, .inl (y 1, 6, .inl (fun _ => nI 0)))])))))) rfl rfl (by decide) (fun w h => mT (fwX5 w h)) tyX5 tyX5_ok nmX5 rfl (mT wd_105) rfl hin rfl (tyX5_ok 8 (by decide)) (by first | rfl | decide) (by first | rfl | decide) (Nat.le_of_ble_eq_true rfl) dX5_init_64 rfl ?_
  refine kR_v C (fun i => [h0, u2 0, q3, q4, q5, q6].getD i 0) dX5_init_67 rfl rfl
