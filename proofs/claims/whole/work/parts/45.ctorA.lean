/-! the constructors -/
set_option maxHeartbeats 8000000 in
set_option maxRecDepth 100000 in
theorem c_X2_init (l : Launch) (G : va_G) (y : Nat → ClassId) (t : Nat) (h0 : Nat) (sz : Nat) : Met l yX2_init (Cond.code yX2_init cX2_init 1 none :: TG) ({ frames := 1, cells := 0, slots := 0, locals := 12 }) (va_Pc [.ref h0] (PRO G y t ([(h0, .inr (2, [.long 0, .long 0, .long 0]))]) sz)) (va_Qv (fun (u : Nat → Nat) => u 0 = h0) (fun (u : Nat → Nat) t => PO G (va_A ([(h0, .inr (2, [.long 0, .long 0, .long 0]))]) sz) (kSheet (u 0) (0, 0, 0)) t) (va_A ([(h0, .inr (2, [.long 0, .long 0, .long 0]))]) sz)) 0 0 (va_A ([(h0, .inr (2, [.long 0, .long 0, .long 0]))]) sz) := by
  refine kMetO (cc := cX2_init) (maxL := 1) (ret := none) (Qc := fun A => va_Qv (fun (u : Nat → Nat) => u 0 = h0) (fun (u : Nat → Nat) t => PO G A (kSheet (u 0) (0, 0, 0)) t) A) (by decide) rfl (Nat.le_of_ble_eq_true rfl) (fun p e s m below meth c A hsz C hin hAO => ?_)
  refine KW.loc (lv' := [(0, .ref h0)]) [0] rfl ?_
  refine kw_aload_n C 0 dX2_init_0 rfl ?_
  refine kw_objI C (mT wd_72) (mT wd_59) (mT wd_60) dX2_init_1 (by decide) (by decide) ?_
  refine kR_v C (fun _ => h0) dX2_init_4 rfl rfl

