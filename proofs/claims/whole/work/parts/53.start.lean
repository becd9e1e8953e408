/-! THE LAW, from its entry -/
theorem ArrOf_of {s : State} {args : Array Value} {ty : FieldType} (h : (Cond.arrayClass ty).before args s = true) : ∃ cA : ClassId, ArrOfT s cA ty ∧ s.vm.findClass ("[" ++ ty.toString) = some cA := by
  obtain ⟨cA, kA, comp, h1, h2, h3⟩ := Cond.arrayClass_spec h
  exact ⟨cA, fun n z => ⟨fun k h => (by cases h), kA, h2, comp, h3⟩, h1⟩
set_option maxHeartbeats 8000000 in
set_option maxRecDepth 100000 in
theorem whole_start {p : Program} {e : Env} {s : State} {m : MethodId} {below : List Frame} {meth : Method} {c : Code} (l : Launch) (hflags : l.flags = flags0) {b L : Nat} {xs : Nat → Int32} (hL : L ≤ 2048) (C0 : lw_At p s m meth c b L xs) : W p l e room_1 s m #[Value.ref b] below meth c s.heap [] 0 0 (lw_Z below #[Value.ref b] s) (entryFrame m ([Value.ref b] : List Value).toArray 4) := by
  obtain ⟨hx, hb, hr, hml, hown, hts, hX, hbl, hlocks, hgv⟩ := id C0
  obtain ⟨c0, iS0, hKn0⟩ := u_known (C := RX0) (T := TX0) (N := 3) (n := 3) hts (fun w h => TG_in _ (fwX0 w h)) (hts _ (TG_in _ wd_151))
  obtain ⟨c1, iS1, hKn1⟩ := u_known (C := RX1) (T := TX1) (N := 5) (n := 5) hts (fun w h => TG_in _ (fwX1 w h)) (hts _ (TG_in _ wd_200))
  obtain ⟨c2, iS2, hKn2⟩ := u_known (C := RX2) (T := TX2) (N := 3) (n := 3) hts (fun w h => TG_in _ (fwX2 w h)) (hts _ (TG_in _ wd_68))
  obtain ⟨c3, iS3, hKn3⟩ := u_known (C := RX3) (T := TX3) (N := 6) (n := 6) hts (fun w h => TG_in _ (fwX3 w h)) (hts _ (TG_in _ wd_171))
  obtain ⟨c4, iS4, hKn4⟩ := u_known (C := RX4) (T := TX4) (N := 4) (n := 4) hts (fun w h => TG_in _ (fwX4 w h)) (hts _ (TG_in _ wd_130))
  obtain ⟨c5, iS5, hKn5⟩ := u_known (C := RX5) (T := TX5) (N := 9) (n := 9) hts (fun w h => TG_in _ (fwX5 w h)) (hts _ (TG_in _ wd_62))
  obtain ⟨c6, iS6, hKn6⟩ := u_known (C := RX6) (T := TX6) (N := 9) (n := 9) hts (fun w h => TG_in _ (fwX6 w h)) (hts _ (TG_in _ wd_54))
  obtain ⟨c7, iS7, hKn7⟩ := u_known (C := RX7) (T := TX7) (N := 22) (n := 22) hts (fun w h => TG_in _ (fwX7 w h)) (hts _ (TG_in _ wd_610))
  obtain ⟨y_char, ya_char, yn_char⟩ := ArrOf_of (hts _ (TG_in _ wd_149))
  obtain ⟨y_int, ya_int, yn_int⟩ := ArrOf_of (hts _ (TG_in _ wd_127))
  obtain ⟨y_long, ya_long, yn_long⟩ := ArrOf_of (hts _ (TG_in _ wd_128))
  obtain ⟨y_boolean, ya_boolean, yn_boolean⟩ := ArrOf_of (hts _ (TG_in _ wd_198))
  have hAO : va_AO "SlippedBlocks$Work" s := va_AO.of (hts _ wAO)
  obtain ⟨compW, y_w, kW, w1, w2, w3, w4, w5⟩ := Cond.arrayOver_spec hAO
  obtain ⟨y, hy0, hy1, hy2, hy3, hy4⟩ : ∃ y : Nat → ClassId, y 0 = y_char ∧ y 1 = y_int ∧ y 2 = y_long ∧ y 3 = y_boolean ∧ y 4 = y_w := ⟨fun k => if k = 0 then y_char else if k = 1 then y_int else if k = 2 then y_long else if k = 3 then y_boolean else y_w, rfl, rfl, rfl, rfl, rfl⟩
  subst hy0; subst hy1; subst hy2; subst hy3; subst hy4
  obtain ⟨G, hG⟩ : ∃ G : va_G, ∀ (k : Nat) (z : vw_C), vwCl[k]? = some z → u_Kn s z.1 z.2.1 z.2.2 (G.1 k) (G.2 k) := by
    refine ⟨(fun k => if k = 0 then c0 else if k = 1 then c1 else if k = 2 then c2 else if k = 3 then c3 else if k = 4 then c4 else if k = 5 then c5 else if k = 6 then c6 else c7, fun k => if k = 0 then iS0 else if k = 1 then iS1 else if k = 2 then iS2 else if k = 3 then iS3 else if k = 4 then iS4 else if k = 5 then iS5 else if k = 6 then iS6 else iS7), ?_⟩
    intro k z hz
    match k, hz with
    | 0, hz => cases hz; exact hKn0
    | 1, hz => cases hz; exact hKn1
    | 2, hz => cases hz; exact hKn2
    | 3, hz => cases hz; exact hKn3
    | 4, hz => cases hz; exact hKn4
    | 5, hz => cases hz; exact hKn5
    | 6, hz => cases hz; exact hKn6
    | 7, hz => cases hz; exact hKn7
    | k + 8, hz => simp [vwCl] at hz
  have hK : va_K G vwCl (TY y) s := by
    refine ⟨hG, fun k z hz => ?_⟩
    match k, hz with
    | 0, hz => cases hz; exact ⟨ya_char, yn_char⟩
    | 1, hz => cases hz; exact ⟨ya_int, yn_int⟩
    | 2, hz => cases hz; exact ⟨ya_long, yn_long⟩
    | 3, hz => cases hz; exact ⟨ya_boolean, yn_boolean⟩
    | 4, hz => cases hz; exact ⟨fun n z => ⟨fun k h => (by cases h), kW, w3, compW, w4⟩, kW, compW, w3, w4, w1, w5⟩
    | k + 5, hz => simp [TY] at hz
  have hNW : NW s := ⟨fun z hz => va_Nw.of rfl (hts _ (nwF_in z hz)), fun z hz => va_Nw.of rfl (hts _ (nwM_in z hz))⟩
  have hA0 : ∀ z : Nat, z < s.heap.size → ¬ (fun z : Nat => s.heap.size ≤ z) z := fun z hz => Nat.not_le.mpr hz
  have hfl := flat_of_before _ hgv
  have f1 : (Cond.arrayOf (Jvm.Term.static "SlippedBlocks$Work" "HAVING" "[I") .int).before #[Value.ref b] s = true := hfl _ (by decide +kernel)
  have f2 : (Cond.eq (.length (Jvm.Term.static "SlippedBlocks$Work" "HAVING" "[I")) (.int 3)).before #[Value.ref b] s = true := hfl _ (by decide +kernel)
  have f3 : (Cond.eq (.elem (Jvm.Term.static "SlippedBlocks$Work" "HAVING" "[I") (.int 0)) (.int 170)).before #[Value.ref b] s = true := hfl _ (by decide +kernel)
  have f4 : (Cond.eq (.elem (Jvm.Term.static "SlippedBlocks$Work" "HAVING" "[I") (.int 1)) (.int 204)).before #[Value.ref b] s = true := hfl _ (by decide +kernel)
  have f5 : (Cond.eq (.elem (Jvm.Term.static "SlippedBlocks$Work" "HAVING" "[I") (.int 2)) (.int 240)).before #[Value.ref b] s = true := hfl _ (by decide +kernel)
  obtain ⟨t, ht1, ht2⟩ := va_Tof (ty := .int) (N := 3) (f := fun j => .int (hvF j)) (A := fun z : Nat => s.heap.size ≤ z) (by decide) f1 (va_eqt f2) (fun j hj => by
      match j, hj with
      | 0, _ => exact va_eqt f3
      | 1, _ => exact va_eqt f4
      | 2, _ => exact va_eqt f5
      | j + 3, hj => exact absurd hj (by omega)) hA0
  have hHV : HV t (fun z : Nat => s.heap.size ≤ z) s := ⟨va_Zref (hts _ wLS) (hts _ (TG_in _ wd_42)) ht1 hA0, ht2⟩
  have C : Cx p s m #[Value.ref b] meth c code 4 R_law lw_tbl ret (fun z : Nat => s.heap.size ≤ z) G y t := ⟨hx, hb, hml, hown, hts, hr, hlocks, fun z hz => hz, hK, hNW, hHV⟩
  have hXX : va_X b L xs s s.heap ∧ b < s.heap.size ∧ ¬ (fun z : Nat => s.heap.size ≤ z) b ∧ L ≤ 2048 := ⟨hX, hbl, Nat.not_le.mpr hbl, hL⟩
  have hl := lv_entry [Value.ref b] (n := 4) (Nat.le_of_ble_eq_true rfl)
  rw [lg_entry_eq]
  suffices K : KW p l e room_1 s m #[Value.ref b] below meth c 0 0 (lw_Z below #[Value.ref b] s) G (fun z : Nat => s.heap.size ≤ z) 4 [] (lv_args 0 [Value.ref b]) 0 [] from K s.heap [] _ (fun k z hz => by simp at hz) ⟨fun i j p z hz => by simp at hz, fun k z hz => by simp at hz⟩ va_S.rf hl
  refine KW.loc (lv' := [(0, .ref b)]) [0] rfl ?_
  refine kw_new (T := TX6) (N := 9) C 6 [.null, .null, .null, .null, .null, .null, .null, .null, .null] (fun w h => TG_in _ (fwX6 w h)) tyX6 tyX6_ok (TG_in _ wd_53) (TG_in _ wd_54) (TG_in _ wd_41) rfl (by decide) (by decide) (by decide) dL_law_0 (fun q0 => ?_)
  refine KW.wid 1 9 (by decide) (by decide) ?_
  refine kw_dup C dL_law_3 rfl ?_
  refine kIF_v (As := []) (rest := [.ref q0]) (wr := []) (W1 := fun (u : Nat → Nat) => kMain y u ((fun i => some (u (55 + 6 * i))), (fun _ => nI 0)) ++ (kWork y (fun i => u (3 + i)) (nI 1, nI 1, nI 0, nI 0, 0, 0, 0, (fun _ => nI 0), (fun _ => nI 0), (fun _ => 0), (fun _ => nI 0)) ++ (kWork y (fun i => u (9 + i)) (nI 1, nI 1, nI 0, nI 0, 0, 0, 0, (fun _ => nI 0), (fun _ => nI 0), (fun _ => 0), (fun _ => nI 0)) ++ (kText y (fun i => u (15 + i)) (nI 0, nI 32, nI 0, (fun _ => nI 0)) ++ (kPast y (fun i => u (17 + i)) (nI 0, nI 0, (fun i => some (u (19 + 6 * i)))) ++ (kWork y (fun i => u (19 + i)) (nI 1, nI 1, nI 0, nI 0, 0, 0, 0, (fun _ => nI 0), (fun _ => nI 0), (fun _ => 0), (fun _ => nI 0)) ++ (kWork y (fun i => u (25 + i)) (nI 1, nI 1, nI 0, nI 0, 0, 0, 0, (fun _ => nI 0), (fun _ => nI 0), (fun _ => 0), (fun _ => nI 0)) ++ (kWork y (fun i => u (31 + i)) (nI 1, nI 1, nI 0, nI 0, 0, 0, 0, (fun _ => nI 0), (fun _ => nI 0), (fun _ => 0), (fun _ => nI 0)) ++ (kWork y (fun i => u (37 + i)) (nI 1, nI 1, nI 0, nI 0, 0, 0, 0, (fun _ => nI 0), (fun _ => nI 0), (fun _ => 0), (fun _ => nI 0)) ++ (kWork y (fun i => u (43 + i)) (nI 1, nI 1, nI 0, nI 0, 0, 0, 0, (fun _ => nI 0), (fun _ => nI 0), (fun _ => 0), (fun _ => nI 0)) ++ (kWork y (fun i => u (49 + i)) (nI 1, nI 1, nI 0, nI 0, 0, 0, 0, (fun _ => nI 0), (fun _ => nI 0), (fun _ => 0), (fun _ => nI 0)) ++ (kWork y (fun i => u (55 + i)) (nI 1, nI 1, nI 0, nI 0, 0, 0, 0, (fun _ => nI 0), (fun _ => nI 0), (fun _ => 0), (fun _ => nI 0)) ++ (kWork y (fun i => u (61 + i)) (nI 1, nI 1, nI 0, nI 0, 0, 0, 0, (fun _ => nI 0), (fun _ => nI 0), (fun _ => 0), (fun _ => nI 0)) ++ (kSight y (fun i => u (67 + i)) (nI 0, 0, 0, 0, (fun _ => nI 0), (fun _ => nI 0), (fun _ => nI 0), (fun _ => nI 0)) ++ (kSearch y (fun i => u (73 + i)) (nI 0, nI 0, nI 0, nI 0, (fun _ => nI 0)) ++ (kSheet (u 75) (0, 0, 0))))))))))))))))) (post := fun (u : Nat → Nat) => u 0 = q0) C hAO (c_X6_init l G y t q0) (cwI 0 C.2.2.2.2.1 (goodTG TG_in wd_57) rfl rfl rfl (C.2.2.2.2.1 _ (TG_in _ wd_41)) (C.2.2.2.2.1 _ (TG_in _ wd_55)) (C.2.2.2.2.1 _ (TG_in _ wd_56)) rfl (by decide +kernel) ⟨by decide, by decide⟩) rfl (Nat.le_of_ble_eq_true rfl) ⟨by decide, by decide⟩ dL_law_4 (fun q hq => ?_)
  subst hq
  refine KW.wid 76 815 (by decide) (by decide) ?_
  refine KW.asw (ws' := kMain y q ((fun i => some (q (55 + 6 * i))), (fun _ => nI 0)) ++ (kWork y (fun i => q (3 + i)) (nI 1, nI 1, nI 0, nI 0, 0, 0, 0, (fun _ => nI 0), (fun _ => nI 0), (fun _ => 0), (fun _ => nI 0)) ++ (kWork y (fun i => q (9 + i)) (nI 1, nI 1, nI 0, nI 0, 0, 0, 0, (fun _ => nI 0), (fun _ => nI 0), (fun _ => 0), (fun _ => nI 0)) ++ (kText y (fun i => q (15 + i)) (nI 0, nI 32, nI 0, (fun _ => nI 0)) ++ (kPast y (fun i => q (17 + i)) (nI 0, nI 0, (fun i => some (q (19 + 6 * i)))) ++ (kWork y (fun i => q (19 + i)) (nI 1, nI 1, nI 0, nI 0, 0, 0, 0, (fun _ => nI 0), (fun _ => nI 0), (fun _ => 0), (fun _ => nI 0)) ++ (kWork y (fun i => q (25 + i)) (nI 1, nI 1, nI 0, nI 0, 0, 0, 0, (fun _ => nI 0), (fun _ => nI 0), (fun _ => 0), (fun _ => nI 0)) ++ (kWork y (fun i => q (31 + i)) (nI 1, nI 1, nI 0, nI 0, 0, 0, 0, (fun _ => nI 0), (fun _ => nI 0), (fun _ => 0), (fun _ => nI 0)) ++ (kWork y (fun i => q (37 + i)) (nI 1, nI 1, nI 0, nI 0, 0, 0, 0, (fun _ => nI 0), (fun _ => nI 0), (fun _ => 0), (fun _ => nI 0)) ++ (kWork y (fun i => q (43 + i)) (nI 1, nI 1, nI 0, nI 0, 0, 0, 0, (fun _ => nI 0), (fun _ => nI 0), (fun _ => 0), (fun _ => nI 0)) ++ (kWork y (fun i => q (49 + i)) (nI 1, nI 1, nI 0, nI 0, 0, 0, 0, (fun _ => nI 0), (fun _ => nI 0), (fun _ => 0), (fun _ => nI 0)) ++ (kWork y (fun i => q (55 + i)) (nI 1, nI 1, nI 0, nI 0, 0, 0, 0, (fun _ => nI 0), (fun _ => nI 0), (fun _ => 0), (fun _ => nI 0)) ++ (kWork y (fun i => q (61 + i)) (nI 1, nI 1, nI 0, nI 0, 0, 0, 0, (fun _ => nI 0), (fun _ => nI 0), (fun _ => 0), (fun _ => nI 0)) ++ (kSight y (fun i => q (67 + i)) (nI 0, 0, 0, 0, (fun _ => nI 0), (fun _ => nI 0), (fun _ => nI 0), (fun _ => nI 0)) ++ (kSearch y (fun i => q (73 + i)) (nI 0, nI 0, nI 0, nI 0, (fun _ => nI 0)) ++ (kSheet (q 75) (0, 0, 0))))))))))))))))) rfl ?_
  refine kw_astore_n C [(1, .ref (q 0)), (0, .ref b)] dL_law_7 rfl (by decide) rfl ?_
  refine kw_new (T := TX7) (N := 22) C 7 [.int 0, .null, .null, .null, .int 0, .null, .null, .null, .int 0, .null, .int 0, .int 0, .int 0, .int 0, .int 0, .int 0, .null, .null, .null, .null, .null, .null] (fun w h => TG_in _ (fwX7 w h)) tyX7 tyX7_ok (TG_in _ wd_609) (TG_in _ wd_610) (TG_in _ wd_48) rfl (by decide) (by decide) (by decide) dL_law_8 (fun a0 => ?_)
  refine KW.wid 77 837 (by decide) (by decide) ?_
  refine kw_dup C dL_law_11 rfl ?_
  refine kIF_v (As := []) (rest := [.ref a0]) (wr := kMain y q ((fun i => some (q (55 + 6 * i))), (fun _ => nI 0)) ++ (kWork y (fun i => q (3 + i)) (nI 1, nI 1, nI 0, nI 0, 0, 0, 0, (fun _ => nI 0), (fun _ => nI 0), (fun _ => 0), (fun _ => nI 0)) ++ (kWork y (fun i => q (9 + i)) (nI 1, nI 1, nI 0, nI 0, 0, 0, 0, (fun _ => nI 0), (fun _ => nI 0), (fun _ => 0), (fun _ => nI 0)) ++ (kText y (fun i => q (15 + i)) (nI 0, nI 32, nI 0, (fun _ => nI 0)) ++ (kPast y (fun i => q (17 + i)) (nI 0, nI 0, (fun i => some (q (19 + 6 * i)))) ++ (kWork y (fun i => q (19 + i)) (nI 1, nI 1, nI 0, nI 0, 0, 0, 0, (fun _ => nI 0), (fun _ => nI 0), (fun _ => 0), (fun _ => nI 0)) ++ (kWork y (fun i => q (25 + i)) (nI 1, nI 1, nI 0, nI 0, 0, 0, 0, (fun _ => nI 0), (fun _ => nI 0), (fun _ => 0), (fun _ => nI 0)) ++ (kWork y (fun i => q (31 + i)) (nI 1, nI 1, nI 0, nI 0, 0, 0, 0, (fun _ => nI 0), (fun _ => nI 0), (fun _ => 0), (fun _ => nI 0)) ++ (kWork y (fun i => q (37 + i)) (nI 1, nI 1, nI 0, nI 0, 0, 0, 0, (fun _ => nI 0), (fun _ => nI 0), (fun _ => 0), (fun _ => nI 0)) ++ (kWork y (fun i => q (43 + i)) (nI 1, nI 1, nI 0, nI 0, 0, 0, 0, (fun _ => nI 0), (fun _ => nI 0), (fun _ => 0), (fun _ => nI 0)) ++ (kWork y (fun i => q (49 + i)) (nI 1, nI 1, nI 0, nI 0, 0, 0, 0, (fun _ => nI 0), (fun _ => nI 0), (fun _ => 0), (fun _ => nI 0)) ++ (kWork y (fun i => q (55 + i)) (nI 1, nI 1, nI 0, nI 0, 0, 0, 0, (fun _ => nI 0), (fun _ => nI 0), (fun _ => 0), (fun _ => nI 0)) ++ (kWork y (fun i => q (61 + i)) (nI 1, nI 1, nI 0, nI 0, 0, 0, 0, (fun _ => nI 0), (fun _ => nI 0), (fun _ => 0), (fun _ => nI 0)) ++ (kSight y (fun i => q (67 + i)) (nI 0, 0, 0, 0, (fun _ => nI 0), (fun _ => nI 0), (fun _ => nI 0), (fun _ => nI 0)) ++ (kSearch y (fun i => q (73 + i)) (nI 0, nI 0, nI 0, nI 0, (fun _ => nI 0)) ++ (kSheet (q 75) (0, 0, 0))))))))))))))))) (W1 := fun (u : Nat → Nat) => kMod y u (nI 0) (upd (upd (fun _ => nI 0) 0 (nI 1)) 1 (nI 1)) (fun _ => nI 0) (fun _ => nI 0) (nI 0) (fun _ => nI 0) (fun _ => nI 0) (fun _ => nI 0) (nI 0) (fun _ => nI 0) (nI 0) (nI 0) (nI 0) (nI 0) (nI 0) (nI 0) (fun _ => nI 0) (fun _ => nI 0) (fun _ => nI 0) (fun _ => nI 0) (fun _ => nI 0) (fun _ => nI 0)) (post := fun (u : Nat → Nat) => u 0 = a0) C hAO (c_X7_init l G y t a0) (cwI 0 C.2.2.2.2.1 (goodTG TG_in wd_613) rfl rfl rfl (C.2.2.2.2.1 _ (TG_in _ wd_48)) (C.2.2.2.2.1 _ (TG_in _ wd_611)) (C.2.2.2.2.1 _ (TG_in _ wd_612)) rfl (by decide +kernel) ⟨by decide, by decide⟩) rfl (Nat.le_of_ble_eq_true rfl) ⟨by decide, by decide⟩ dL_law_12 (fun a ha => ?_)
  subst ha
  refine KW.wid 90 2411 (by decide) (by decide) ?_
  refine kw_astore_n C [(2, .ref (a 0)), (1, .ref (q 0)), (0, .ref b)] dL_law_15 rfl (by decide) rfl ?_
  refine kw_iconst (v := nI 0) C dL_law_16 (by decide) ?_
  refine kw_istore_n C [(3, .int (nI 0)), (2, .ref (a 0)), (1, .ref (q 0)), (0, .ref b)] dL_law_17 rfl (by decide) rfl ?_
  refine KW.asw (ws' := (LL y q a (fun _ => nI 0) 1 1 0 0 0 0 0 (fun _ => nI 0) (fun _ => nI 0) (fun _ => 0) (fun _ => nI 0) (nI 1, nI 1, nI 0, nI 0, 0, 0, 0, (fun _ => nI 0), (fun _ => nI 0), (fun _ => 0), (fun _ => nI 0)) 0 32 0 (fun _ => nI 0) 0 0 (fun _ => (nI 1, nI 1, nI 0, nI 0, 0, 0, 0, (fun _ => nI 0), (fun _ => nI 0), (fun _ => 0), (fun _ => nI 0))) (fun _ => (nI 1, nI 1, nI 0, nI 0, 0, 0, 0, (fun _ => nI 0), (fun _ => nI 0), (fun _ => 0), (fun _ => nI 0))) 0 0 0 0 (fun _ => nI 0) (fun _ => nI 0) (fun _ => nI 0) (fun _ => nI 0) (nI 0) false (nI 0) (nI 0) (fun _ => nI 0) 0 0 0 (nI 0) (upd (upd (fun _ => nI 0) 0 (nI 1)) 1 (nI 1)) (fun _ => nI 0) (fun _ => nI 0) (fun _ => nI 0) (fun _ => nI 0) (fun _ => nI 0) (fun _ => nI 0) (nI 0) (nI 0) (nI 0) (nI 0) (nI 0) (fun _ => nI 0) (fun _ => nI 0) (fun _ => nI 0) (fun _ => nI 0) (fun _ => nI 0) (fun _ => nI 0)).flatten) ?_ ?_
  · simp only [LL, List.flatten_cons, List.flatten_nil, List.append_nil, List.append_assoc]
    rfl
  exact law_loop C (fun z hz => hz) hXX (L + 1) 0 (fun _ => nI 0) 1 1 0 0 0 0 0 (fun _ => nI 0) (fun _ => nI 0) (fun _ => 0) (fun _ => nI 0) (nI 1, nI 1, nI 0, nI 0, 0, 0, 0, (fun _ => nI 0), (fun _ => nI 0), (fun _ => 0), (fun _ => nI 0)) 0 32 0 (fun _ => nI 0) 0 0 (fun _ => (nI 1, nI 1, nI 0, nI 0, 0, 0, 0, (fun _ => nI 0), (fun _ => nI 0), (fun _ => 0), (fun _ => nI 0))) (fun _ => (nI 1, nI 1, nI 0, nI 0, 0, 0, 0, (fun _ => nI 0), (fun _ => nI 0), (fun _ => 0), (fun _ => nI 0))) 0 0 0 0 (fun _ => nI 0) (fun _ => nI 0) (fun _ => nI 0) (fun _ => nI 0) (nI 0) false (nI 0) (nI 0) (fun _ => nI 0) 0 0 0 (nI 0) (upd (upd (fun _ => nI 0) 0 (nI 1)) 1 (nI 1)) (fun _ => nI 0) (fun _ => nI 0) (fun _ => nI 0) (fun _ => nI 0) (fun _ => nI 0) (fun _ => nI 0) (nI 0) (nI 0) (nI 0) (nI 0) (nI 0) (fun _ => nI 0) (fun _ => nI 0) (fun _ => nI 0) (fun _ => nI 0) (fun _ => nI 0) (fun _ => nI 0) (by omega) (Nat.zero_le _) Inv0
