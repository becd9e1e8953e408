set_option maxHeartbeats 4000000 in
set_option maxRecDepth 100000 in
theorem c_X7_tells_bad (l : Launch) (G : va_G) (y : Nat → ClassId) (t : Nat) (a : Nat → Nat) (th : Int32) (Sr : Nat → Int32) (dr : Nat → Int32) (pa : Nat → Int32) (um : Int32) (im : Nat → Int32) (ikp : Nat → Int32) (tx : Nat → Int32) (sn : Nat → Int32) (sm : Int32) (at1 : Int32) (pl : Int32) (tk : Int32) (vl : Int32) (fa : Int32) (pf : Nat → Int32) (odr : Nat → Int32) (gv : Nat → Int32) (mk : Nat → Int32) (bo : Nat → Int32) (bq : Nat → Int32) (n : Nat) (lt : Nat → Nat) (hn : n ≤ 100) (htx : ∀ i, i < n → tx i = nI (lt i) ∧ lt i < 256) (hbad : rdM n (scanM lt n 0 (32, 0, 0, 0, 0, (fun _ => 0), (fun _ => 0))) ≠ -9) (sz : Nat) : Met l yX7_tells (Cond.code yX7_tells cX7_tells 3 (some .int) :: TG) ({ frames := 5, cells := 0, slots := 0, locals := 109 }) (va_Pc [.ref (a 0)] (PR G y t (kMod y a th Sr dr pa um im ikp tx (nI n) sn sm at1 pl tk vl fa pf odr gv mk bo bq) sz)) (va_Qi (fun (r : Int32) (u : Nat × Int32 × Nat × Nat × Nat × (Nat → Nat) × (Nat → Nat)) => r = ((-10) - rdM n (scanM lt n 0 (32, 0, 0, 0, 0, (fun _ => 0), (fun _ => 0))))) (fun (u : Nat × Int32 × Nat × Nat × Nat × (Nat → Nat) × (Nat → Nat)) t => PO G (va_A (kMod y a th Sr dr pa um im ikp tx (nI n) sn sm at1 pl tk vl fa pf odr gv mk bo bq) sz) (kMod y a (nI 0) Sr (drP 6 u.2.2.1 u.2.2.2.1 u.2.2.2.2.1 u.2.2.2.2.2.1 u.2.2.2.2.2.2) pa um im ikp tx (nI n) sn sm (nI (atT n u.1)) (nI u.1) (nI (tokN lt n u.1)) (valI lt n u.1) u.2.1 pf odr gv mk bo bq) t) (va_A (kMod y a th Sr dr pa um im ikp tx (nI n) sn sm at1 pl tk vl fa pf odr gv mk bo bq) sz)) 0 0 (va_A (kMod y a th Sr dr pa um im ikp tx (nI n) sn sm at1 pl tk vl fa pf odr gv mk bo bq) sz) := by
  refine kMet (cc := cX7_tells) (maxL := 3) (ret := some .int) (Qc := fun A => va_Qi (fun (r : Int32) (u : Nat × Int32 × Nat × Nat × Nat × (Nat → Nat) × (Nat → Nat)) => r = ((-10) - rdM n (scanM lt n 0 (32, 0, 0, 0, 0, (fun _ => 0), (fun _ => 0))))) (fun (u : Nat × Int32 × Nat × Nat × Nat × (Nat → Nat) × (Nat → Nat)) t => PO G A (kMod y a (nI 0) Sr (drP 6 u.2.2.1 u.2.2.2.1 u.2.2.2.2.1 u.2.2.2.2.2.1 u.2.2.2.2.2.2) pa um im ikp tx (nI n) sn sm (nI (atT n u.1)) (nI u.1) (nI (tokN lt n u.1)) (valI lt n u.1) u.2.1 pf odr gv mk bo bq) t) A) (by decide) rfl (Nat.le_of_ble_eq_true rfl) (fun p e s m below meth c A hsz C hin => ?_)
  refine KW.loc (lv' := [(0, .ref (a 0))]) [0] rfl ?_
  refine kw_aload_n C 0 dX7_tells_0 rfl ?_
  refine kw_iconst (v := nI 0) C dX7_tells_1 (by decide) ?_
  refine kw_put (T := TX7) (ty := .int) C 0 0 (kMod y a (nI 0) Sr dr pa um im ikp tx (nI n) sn sm at1 pl tk vl fa pf odr gv mk bo bq) rfl rfl (by decide) (fun w h => mT (fwX7 w h)) tyX7 tyX7_ok nmX7 rfl (mT wd_615) rfl (by decide +kernel) rfl rfl (Nat.le_of_ble_eq_true rfl) dX7_tells_2 rfl ?_
  refine kw_aload_n C 0 dX7_tells_5 rfl ?_
  refine kV_i (As := []) (rest := []) (ws' := fun (u : Nat × Int32 × Nat × Nat × Nat × (Nat → Nat) × (Nat → Nat)) => kMod y a (nI 0) Sr (drP 6 u.2.2.1 u.2.2.2.1 u.2.2.2.2.1 u.2.2.2.2.2.1 u.2.2.2.2.2.2) pa um im ikp tx (nI n) sn sm (nI (atT n u.1)) (nI u.1) (nI (tokN lt n u.1)) (valI lt n u.1) u.2.1 pf odr gv mk bo bq) C (c_X7_readsText l G y t a (nI 0) Sr dr pa um im ikp tx sn sm at1 pl tk vl fa pf odr gv mk bo bq n lt (by first | assumption | omega | decide) (by first | assumption | omega | decide)) (cwV 0 C.2.2.2.2.1 (goodV cT wd_700 wd_697 wd_699 wd_13 wd_48) rfl rfl rfl (by decide +kernel) ⟨by decide, by decide⟩) [0, 1, 2, 3, 4, 5, 6, 7, 8, 9, 10, 11, 12, 13] [] [0, 1, 2, 3, 4, 5, 6, 7, 8, 9, 10, 11, 12, 13] rfl (by decide) rfl (by decide) (by decide) (fun _ => rfl) (by decide) 0 rfl rfl rfl (Nat.le_of_ble_eq_true rfl) ⟨by decide, by decide⟩ dX7_tells_6 (fun r u hr_1 => ?_)
  obtain ⟨j_a, f_a, W_a, H_a, N_a, ik_a, pc_a⟩ := u
  try dsimp only at hr_1
  obtain ⟨rr_2, err_2⟩ : ∃ z, z = r := ⟨r, rfl⟩
  subst err_2
  have hpo := hr_1
  refine kw_istore_n C [(1, .int rr_2), (0, .ref (a 0))] dX7_tells_9 rfl (by decide) rfl ?_
  refine kw_aload_n C 1 dX7_tells_10 rfl ?_
  refine kV_i (As := []) (rest := []) (ws' := fun (u : Unit) => kMod y a (nI 0) Sr (drP 6 W_a H_a N_a ik_a pc_a) pa um im ikp tx (nI n) sn sm (nI (atT n j_a)) (nI j_a) (nI (tokN lt n j_a)) (valI lt n j_a) f_a pf odr gv mk bo bq) C (c_X7_isWell l G y t a (nI 0) Sr (drP 6 W_a H_a N_a ik_a pc_a) pa um im ikp tx (nI n) sn sm (nI (atT n j_a)) (nI j_a) (nI (tokN lt n j_a)) (valI lt n j_a) f_a pf odr gv mk bo bq) (cwV 0 C.2.2.2.2.1 (goodV cT wd_712 wd_709 wd_711 wd_16 wd_48) rfl rfl rfl (by decide +kernel) ⟨by decide, by decide⟩) [0, 1, 2, 3, 4, 5, 6, 7, 8, 9, 10, 11, 12, 13] [] [0, 1, 2, 3, 4, 5, 6, 7, 8, 9, 10, 11, 12, 13] rfl (by decide) rfl (by decide) (by decide) (fun _ => rfl) (by decide) 0 rfl rfl rfl (Nat.le_of_ble_eq_true rfl) ⟨by decide, by decide⟩ dX7_tells_11 (fun r u hr_3 => ?_)
  subst hr_3
  refine kw_if_ne_D (tgt := 25) C dX7_tells_14 (by decide) (fun c_14 => ?_) (fun c_14 => ?_)
  ·
    exact absurd (hpo.1.symm.trans c_14) hbad
  ·
    refine kw_bipush (v := (-10)) C dX7_tells_17 (by decide) ?_
    refine kw_aload_n C 1 dX7_tells_19 rfl ?_
    refine kw_get (v := .int f_a) (T := TX7) C 0 15 rfl rfl (by decide) (fun w h => mT (fwX7 w h)) rfl (mT wd_630) rfl dX7_tells_20 ?_
    refine kw_isub C dX7_tells_23 ?_
    refine kR_i C (j_a, f_a, W_a, H_a, N_a, ik_a, pc_a) dX7_tells_24 ?_ rfl
    rw [hpo.1]

set_option maxHeartbeats 4000000 in
set_option maxRecDepth 100000 in
theorem c_X7_tells_ok (l : Launch) (G : va_G) (y : Nat → ClassId) (t : Nat) (a : Nat → Nat) (th : Int32) (Sr : Nat → Int32) (dr : Nat → Int32) (pa : Nat → Int32) (im : Nat → Int32) (ikp : Nat → Int32) (tx : Nat → Int32) (sn : Nat → Int32) (sm : Int32) (at1 : Int32) (pl : Int32) (tk : Int32) (vl : Int32) (fa : Int32) (pf : Nat → Int32) (odr : Nat → Int32) (gv : Nat → Int32) (mk : Nat → Int32) (bo : Nat → Int32) (bq : Nat → Int32) (n : Nat) (lt : Nat → Nat) (U : Nat) (hn : n ≤ 100) (htx : ∀ i, i < n → tx i = nI (lt i) ∧ lt i < 256) (hU : U ≤ 6) (hok : rdM n (scanM lt n 0 (32, 0, 0, 0, 0, (fun _ => 0), (fun _ => 0))) = -9) (sz : Nat) : Met l yX7_tells (Cond.code yX7_tells cX7_tells 3 (some .int) :: TG) ({ frames := 5, cells := 0, slots := 0, locals := 109 }) (va_Pc [.ref (a 0)] (PR G y t (kMod y a th Sr dr pa (nI U) im ikp tx (nI n) sn sm at1 pl tk vl fa pf odr gv mk bo bq) sz)) (va_Qi (fun (r : Int32) (u : Nat × Int32 × Nat × Nat × Nat × (Nat → Nat) × (Nat → Nat) × (Nat → Int32) × Nat) => rtP (scanM lt n 0 (32, 0, 0, 0, 0, (fun _ => 0), (fun _ => 0))) n r u.2.1 u.2.2.1 u.2.2.2.1 u.2.2.2.2.1 u.2.2.2.2.2.1 u.2.2.2.2.2.2.1 ∧ ((U < 6 → u.2.2.2.2.2.2.2.2 = U + 1 ∧ (∀ j, j < 99 * U → u.2.2.2.2.2.2.2.1 j = pa j) ∧ (∀ j, j < 99 → u.2.2.2.2.2.2.2.1 (99 * U + j) = Sr j)) ∧ (U = 6 → u.2.2.2.2.2.2.2.2 = 6 ∧ (∀ j, j < 495 → u.2.2.2.2.2.2.2.1 j = pa (99 + j)) ∧ (∀ j, j < 99 → u.2.2.2.2.2.2.2.1 (495 + j) = Sr j)))) (fun (u : Nat × Int32 × Nat × Nat × Nat × (Nat → Nat) × (Nat → Nat) × (Nat → Int32) × Nat) t => PO G (va_A (kMod y a th Sr dr pa (nI U) im ikp tx (nI n) sn sm at1 pl tk vl fa pf odr gv mk bo bq) sz) (kMod y a (nI 0) (drP 6 u.2.2.1 u.2.2.2.1 u.2.2.2.2.1 u.2.2.2.2.2.1 u.2.2.2.2.2.2.1) (drP 6 u.2.2.1 u.2.2.2.1 u.2.2.2.2.1 u.2.2.2.2.2.1 u.2.2.2.2.2.2.1) u.2.2.2.2.2.2.2.1 (nI u.2.2.2.2.2.2.2.2) im (fun _ => nI 0) tx (nI 0) sn (nI 0) (nI (atT n u.1)) (nI u.1) (nI (tokN lt n u.1)) (valI lt n u.1) u.2.1 pf odr gv mk bo bq) t) (va_A (kMod y a th Sr dr pa (nI U) im ikp tx (nI n) sn sm at1 pl tk vl fa pf odr gv mk bo bq) sz)) 0 0 (va_A (kMod y a th Sr dr pa (nI U) im ikp tx (nI n) sn sm at1 pl tk vl fa pf odr gv mk bo bq) sz) := by
  refine kMet (cc := cX7_tells) (maxL := 3) (ret := some .int) (Qc := fun A => va_Qi (fun (r : Int32) (u : Nat × Int32 × Nat × Nat × Nat × (Nat → Nat) × (Nat → Nat) × (Nat → Int32) × Nat) => rtP (scanM lt n 0 (32, 0, 0, 0, 0, (fun _ => 0), (fun _ => 0))) n r u.2.1 u.2.2.1 u.2.2.2.1 u.2.2.2.2.1 u.2.2.2.2.2.1 u.2.2.2.2.2.2.1 ∧ ((U < 6 → u.2.2.2.2.2.2.2.2 = U + 1 ∧ (∀ j, j < 99 * U → u.2.2.2.2.2.2.2.1 j = pa j) ∧ (∀ j, j < 99 → u.2.2.2.2.2.2.2.1 (99 * U + j) = Sr j)) ∧ (U = 6 → u.2.2.2.2.2.2.2.2 = 6 ∧ (∀ j, j < 495 → u.2.2.2.2.2.2.2.1 j = pa (99 + j)) ∧ (∀ j, j < 99 → u.2.2.2.2.2.2.2.1 (495 + j) = Sr j)))) (fun (u : Nat × Int32 × Nat × Nat × Nat × (Nat → Nat) × (Nat → Nat) × (Nat → Int32) × Nat) t => PO G A (kMod y a (nI 0) (drP 6 u.2.2.1 u.2.2.2.1 u.2.2.2.2.1 u.2.2.2.2.2.1 u.2.2.2.2.2.2.1) (drP 6 u.2.2.1 u.2.2.2.1 u.2.2.2.2.1 u.2.2.2.2.2.1 u.2.2.2.2.2.2.1) u.2.2.2.2.2.2.2.1 (nI u.2.2.2.2.2.2.2.2) im (fun _ => nI 0) tx (nI 0) sn (nI 0) (nI (atT n u.1)) (nI u.1) (nI (tokN lt n u.1)) (valI lt n u.1) u.2.1 pf odr gv mk bo bq) t) A) (by decide) rfl (Nat.le_of_ble_eq_true rfl) (fun p e s m below meth c A hsz C hin => ?_)
  refine KW.loc (lv' := [(0, .ref (a 0))]) [0] rfl ?_
  refine kw_aload_n C 0 dX7_tells_0 rfl ?_
  refine kw_iconst (v := nI 0) C dX7_tells_1 (by decide) ?_
  refine kw_put (T := TX7) (ty := .int) C 0 0 (kMod y a (nI 0) Sr dr pa (nI U) im ikp tx (nI n) sn sm at1 pl tk vl fa pf odr gv mk bo bq) rfl rfl (by decide) (fun w h => mT (fwX7 w h)) tyX7 tyX7_ok nmX7 rfl (mT wd_615) rfl (by decide +kernel) rfl rfl (Nat.le_of_ble_eq_true rfl) dX7_tells_2 rfl ?_
  refine kw_aload_n C 0 dX7_tells_5 rfl ?_
  refine kV_i (As := []) (rest := []) (ws' := fun (u : Nat × Int32 × Nat × Nat × Nat × (Nat → Nat) × (Nat → Nat)) => kMod y a (nI 0) Sr (drP 6 u.2.2.1 u.2.2.2.1 u.2.2.2.2.1 u.2.2.2.2.2.1 u.2.2.2.2.2.2) pa (nI U) im ikp tx (nI n) sn sm (nI (atT n u.1)) (nI u.1) (nI (tokN lt n u.1)) (valI lt n u.1) u.2.1 pf odr gv mk bo bq) C (c_X7_readsText l G y t a (nI 0) Sr dr pa (nI U) im ikp tx sn sm at1 pl tk vl fa pf odr gv mk bo bq n lt (by first | assumption | omega | decide) (by first | assumption | omega | decide)) (cwV 0 C.2.2.2.2.1 (goodV cT wd_700 wd_697 wd_699 wd_13 wd_48) rfl rfl rfl (by decide +kernel) ⟨by decide, by decide⟩) [0, 1, 2, 3, 4, 5, 6, 7, 8, 9, 10, 11, 12, 13] [] [0, 1, 2, 3, 4, 5, 6, 7, 8, 9, 10, 11, 12, 13] rfl (by decide) rfl (by decide) (by decide) (fun _ => rfl) (by decide) 0 rfl rfl rfl (Nat.le_of_ble_eq_true rfl) ⟨by decide, by decide⟩ dX7_tells_6 (fun r u hr_1 => ?_)
  obtain ⟨j_a, f_a, W_a, H_a, N_a, ik_a, pc_a⟩ := u
  try dsimp only at hr_1
  obtain ⟨rr_2, err_2⟩ : ∃ z, z = r := ⟨r, rfl⟩
  subst err_2
  have hpo := hr_1
  refine kw_istore_n C [(1, .int rr_2), (0, .ref (a 0))] dX7_tells_9 rfl (by decide) rfl ?_
  refine kw_aload_n C 1 dX7_tells_10 rfl ?_
  refine kV_i (As := []) (rest := []) (ws' := fun (u : Unit) => kMod y a (nI 0) Sr (drP 6 W_a H_a N_a ik_a pc_a) pa (nI U) im ikp tx (nI n) sn sm (nI (atT n j_a)) (nI j_a) (nI (tokN lt n j_a)) (valI lt n j_a) f_a pf odr gv mk bo bq) C (c_X7_isWell l G y t a (nI 0) Sr (drP 6 W_a H_a N_a ik_a pc_a) pa (nI U) im ikp tx (nI n) sn sm (nI (atT n j_a)) (nI j_a) (nI (tokN lt n j_a)) (valI lt n j_a) f_a pf odr gv mk bo bq) (cwV 0 C.2.2.2.2.1 (goodV cT wd_712 wd_709 wd_711 wd_16 wd_48) rfl rfl rfl (by decide +kernel) ⟨by decide, by decide⟩) [0, 1, 2, 3, 4, 5, 6, 7, 8, 9, 10, 11, 12, 13] [] [0, 1, 2, 3, 4, 5, 6, 7, 8, 9, 10, 11, 12, 13] rfl (by decide) rfl (by decide) (by decide) (fun _ => rfl) (by decide) 0 rfl rfl rfl (Nat.le_of_ble_eq_true rfl) ⟨by decide, by decide⟩ dX7_tells_11 (fun r u hr_3 => ?_)
  subst hr_3
  refine kw_if_ne_D (tgt := 25) C dX7_tells_14 (by decide) (fun c_14 => ?_) (fun c_14 => ?_)
  ·
    refine kw_aload_n C 1 dX7_tells_25 rfl ?_
    refine kV_v (As := []) (rest := []) (ws' := fun (u : (Nat → Int32) × Nat) => kMod y a (nI 0) Sr (drP 6 W_a H_a N_a ik_a pc_a) u.1 (nI u.2) im ikp tx (nI n) sn sm (nI (atT n j_a)) (nI j_a) (nI (tokN lt n j_a)) (valI lt n j_a) f_a pf odr gv mk bo bq) C (c_X7_notes l G y t a (nI 0) Sr (drP 6 W_a H_a N_a ik_a pc_a) pa im ikp tx (nI n) sn sm (nI (atT n j_a)) (nI j_a) (nI (tokN lt n j_a)) (valI lt n j_a) f_a pf odr gv mk bo bq U (by first | assumption | omega | decide)) (cwV 0 C.2.2.2.2.1 (goodV cT wd_728 wd_725 wd_727 wd_20 wd_48) rfl rfl rfl (by decide +kernel) ⟨by decide, by decide⟩) [0, 1, 2, 3, 4, 5, 6, 7, 8, 9, 10, 11, 12, 13] [] [0, 1, 2, 3, 4, 5, 6, 7, 8, 9, 10, 11, 12, 13] rfl (by decide) rfl (by decide) (by decide) (fun _ => rfl) (by decide) 0 rfl rfl rfl (Nat.le_of_ble_eq_true rfl) ⟨by decide, by decide⟩ dX7_tells_26 (fun u hr_4 => ?_)
    obtain ⟨pa_b, U_b⟩ := u
    try dsimp only at hr_4
    have hno := hr_4
    refine kw_iconst (v := nI 0) C dX7_tells_29 (by decide) ?_
    refine kw_istore_n C [(2, .int (nI 0)), (1, .int rr_2), (0, .ref (a 0))] dX7_tells_30 rfl (by decide) rfl ?_
    have L31_5 : ∀ (nn : Nat) (i : Nat) (f0 : Nat → Int32) (hi : i ≤ 99) (hf0 : ∀ z, z < i → f0 z = drP 6 W_a H_a N_a ik_a pc_a z) (hms : 99 - i < nn), KW p l e ({ frames := 5, cells := 0, slots := 0, locals := 109 }) s m ([.ref (a 0)] : List Value).toArray below meth c 0 0 (MQ below (va_Qi (fun (r : Int32) (u : Nat × Int32 × Nat × Nat × Nat × (Nat → Nat) × (Nat → Nat) × (Nat → Int32) × Nat) => rtP (scanM lt n 0 (32, 0, 0, 0, 0, (fun _ => 0), (fun _ => 0))) n r u.2.1 u.2.2.1 u.2.2.2.1 u.2.2.2.2.1 u.2.2.2.2.2.1 u.2.2.2.2.2.2.1 ∧ ((U < 6 → u.2.2.2.2.2.2.2.2 = U + 1 ∧ (∀ j, j < 99 * U → u.2.2.2.2.2.2.2.1 j = pa j) ∧ (∀ j, j < 99 → u.2.2.2.2.2.2.2.1 (99 * U + j) = Sr j)) ∧ (U = 6 → u.2.2.2.2.2.2.2.2 = 6 ∧ (∀ j, j < 495 → u.2.2.2.2.2.2.2.1 j = pa (99 + j)) ∧ (∀ j, j < 99 → u.2.2.2.2.2.2.2.1 (495 + j) = Sr j)))) (fun (u : Nat × Int32 × Nat × Nat × Nat × (Nat → Nat) × (Nat → Nat) × (Nat → Int32) × Nat) t => PO G A (kMod y a (nI 0) (drP 6 u.2.2.1 u.2.2.2.1 u.2.2.2.2.1 u.2.2.2.2.2.1 u.2.2.2.2.2.2.1) (drP 6 u.2.2.1 u.2.2.2.1 u.2.2.2.2.1 u.2.2.2.2.2.1 u.2.2.2.2.2.2.1) u.2.2.2.2.2.2.2.1 (nI u.2.2.2.2.2.2.2.2) im (fun _ => nI 0) tx (nI 0) sn (nI 0) (nI (atT n u.1)) (nI u.1) (nI (tokN lt n u.1)) (valI lt n u.1) u.2.1 pf odr gv mk bo bq) t) A) ([.ref (a 0)] : List Value).toArray s 0 0 A) G A 3 (kMod y a (nI 0) f0 (drP 6 W_a H_a N_a ik_a pc_a) pa_b (nI U_b) im ikp tx (nI n) sn sm (nI (atT n j_a)) (nI j_a) (nI (tokN lt n j_a)) (valI lt n j_a) f_a pf odr gv mk bo bq) [(2, .int (nI i)), (1, .int rr_2), (0, .ref (a 0))] 31 [] := by
      intro nn
      induction nn with
      | zero => intro i f0 hi hf0 hms; exact absurd hms (Nat.not_lt_zero _)
      | succ nn ih_31 =>
        intro i f0 hi hf0 hms
        refine kw_iload_n C 0 dX7_tells_31 rfl ?_
        refine kw_bipush (v := nI 99) C dX7_tells_32 (by decide) ?_
        refine kw_icmp_ge_N (tgt := 55) C (by omega) (by omega) dX7_tells_34 (by decide) (fun c_34 => ?_) (fun c_34 => ?_)
        ·
          refine kw_aload_n C 2 dX7_tells_55 rfl ?_
          refine kw_exti (drP 6 W_a H_a N_a ik_a pc_a) 1 (kMod y a (nI 0) (drP 6 W_a H_a N_a ik_a pc_a) (drP 6 W_a H_a N_a ik_a pc_a) pa_b (nI U_b) im ikp tx (nI n) sn sm (nI (atT n j_a)) (nI j_a) (nI (tokN lt n j_a)) (valI lt n j_a) f_a pf odr gv mk bo bq) rfl (by intro z h; exact hf0 z (by omega)) rfl ?_
          refine kw_iconst (v := nI 0) C dX7_tells_56 (by decide) ?_
          refine kw_put (T := TX7) (ty := .int) C 0 8 (kMod y a (nI 0) (drP 6 W_a H_a N_a ik_a pc_a) (drP 6 W_a H_a N_a ik_a pc_a) pa_b (nI U_b) im ikp tx (nI 0) sn sm (nI (atT n j_a)) (nI j_a) (nI (tokN lt n j_a)) (valI lt n j_a) f_a pf odr gv mk bo bq) rfl rfl (by decide) (fun w h => mT (fwX7 w h)) tyX7 tyX7_ok nmX7 rfl (mT wd_623) rfl (by decide +kernel) rfl rfl (Nat.le_of_ble_eq_true rfl) dX7_tells_57 rfl ?_
          refine kw_aload_n C 2 dX7_tells_60 rfl ?_
          refine kw_iconst (v := nI 0) C dX7_tells_61 (by decide) ?_
          refine kw_put (T := TX7) (ty := .int) C 0 10 (kMod y a (nI 0) (drP 6 W_a H_a N_a ik_a pc_a) (drP 6 W_a H_a N_a ik_a pc_a) pa_b (nI U_b) im ikp tx (nI 0) sn (nI 0) (nI (atT n j_a)) (nI j_a) (nI (tokN lt n j_a)) (valI lt n j_a) f_a pf odr gv mk bo bq) rfl rfl (by decide) (fun w h => mT (fwX7 w h)) tyX7 tyX7_ok nmX7 rfl (mT wd_625) rfl (by decide +kernel) rfl rfl (Nat.le_of_ble_eq_true rfl) dX7_tells_62 rfl ?_
          refine kw_aload_n C 2 dX7_tells_65 rfl ?_
          refine kw_get (v := .ref (a 5)) (T := TX7) C 0 6 rfl rfl (by decide) (fun w h => mT (fwX7 w h)) rfl (mT wd_621) rfl dX7_tells_66 ?_
          refine kw_iconst (v := nI 0) C dX7_tells_69 (by decide) ?_
          refine kw_iconst (v := nI 0) C dX7_tells_70 (by decide) ?_
          refine kw_zast C 5 (kMod y a (nI 0) (drP 6 W_a H_a N_a ik_a pc_a) (drP 6 W_a H_a N_a ik_a pc_a) pa_b (nI U_b) im (upd ikp 0 (nI 0)) tx (nI 0) sn (nI 0) (nI (atT n j_a)) (nI j_a) (nI (tokN lt n j_a)) (valI lt n j_a) f_a pf odr gv mk bo bq) rfl (by omega) (by decide) (by first | decide | exact bI_v _ | rfl) dX7_tells_71 rfl ?_
          refine kw_aload_n C 2 dX7_tells_72 rfl ?_
          refine kw_get (v := .ref (a 5)) (T := TX7) C 0 6 rfl rfl (by decide) (fun w h => mT (fwX7 w h)) rfl (mT wd_621) rfl dX7_tells_73 ?_
          refine kw_iconst (v := nI 1) C dX7_tells_76 (by decide) ?_
          refine kw_iconst (v := nI 0) C dX7_tells_77 (by decide) ?_
          refine kw_zast C 5 (kMod y a (nI 0) (drP 6 W_a H_a N_a ik_a pc_a) (drP 6 W_a H_a N_a ik_a pc_a) pa_b (nI U_b) im (upd (upd ikp 0 (nI 0)) 1 (nI 0)) tx (nI 0) sn (nI 0) (nI (atT n j_a)) (nI j_a) (nI (tokN lt n j_a)) (valI lt n j_a) f_a pf odr gv mk bo bq) rfl (by omega) (by decide) (by first | decide | exact bI_v _ | rfl) dX7_tells_78 rfl ?_
          refine kw_exti (fun _ => nI 0) 5 (kMod y a (nI 0) (drP 6 W_a H_a N_a ik_a pc_a) (drP 6 W_a H_a N_a ik_a pc_a) pa_b (nI U_b) im (fun _ => nI 0) tx (nI 0) sn (nI 0) (nI (atT n j_a)) (nI j_a) (nI (tokN lt n j_a)) (valI lt n j_a) f_a pf odr gv mk bo bq) rfl (by intro z h; rcases Nat.lt_or_ge z 1 with q | q; rw [pk_un (by omega), show z = 0 from by omega]; exact pk_us; rw [show z = 1 from by omega]; exact pk_us) rfl ?_
          refine kw_iload_n C 1 dX7_tells_79 rfl ?_
          refine kR_i C (j_a, f_a, W_a, H_a, N_a, ik_a, pc_a, pa_b, U_b) dX7_tells_80 ?_ rfl
          exact ⟨hpo, hno⟩
        ·
          refine kw_aload_n C 2 dX7_tells_37 rfl ?_
          refine kw_get (v := .ref (a 1)) (T := TX7) C 0 1 rfl rfl (by decide) (fun w h => mT (fwX7 w h)) rfl (mT wd_616) rfl dX7_tells_38 ?_
          refine kw_iload_n C 0 dX7_tells_41 rfl ?_
          refine kw_aload_n C 2 dX7_tells_42 rfl ?_
          refine kw_get (v := .ref (a 2)) (T := TX7) C 0 2 rfl rfl (by decide) (fun w h => mT (fwX7 w h)) rfl (mT wd_617) rfl dX7_tells_43 ?_
          refine kw_iload_n C 0 dX7_tells_46 rfl ?_
          refine kw_iald (f := drP 6 W_a H_a N_a ik_a pc_a) C 2 rfl (by omega) (by decide) dX7_tells_47 ?_
          refine kw_iast C 1 (kMod y a (nI 0) (upd f0 i ((drP 6 W_a H_a N_a ik_a pc_a) i)) (drP 6 W_a H_a N_a ik_a pc_a) pa_b (nI U_b) im ikp tx (nI n) sn sm (nI (atT n j_a)) (nI j_a) (nI (tokN lt n j_a)) (valI lt n j_a) f_a pf odr gv mk bo bq) rfl (by omega) (by decide) dX7_tells_48 rfl ?_
          refine kw_iinc (v := nI (i + 1)) C [(2, .int (nI (i + 1))), (1, .int rr_2), (0, .ref (a 0))] 0 dX7_tells_49 rfl (nI_1 _) (by decide) rfl ?_
          refine kw_goto (tgt := 31) C dX7_tells_52 (by decide) ?_
          refine KW.loc (lv' := [(2, .int (nI (i + 1))), (1, .int rr_2), (0, .ref (a 0))]) [0, 1, 2] rfl ?_
          exact ih_31 (i + 1) (upd f0 i ((drP 6 W_a H_a N_a ik_a pc_a) i)) (by first | assumption | omega | (simp; done)) (by intro z h; rcases Nat.lt_or_ge z i with q | q; rw [pk_un (by omega)]; exact hf0 z q; rw [show z = i from by omega]; exact pk_us) (by omega)
    refine KW.loc (lv' := [(2, .int (nI 0)), (1, .int rr_2), (0, .ref (a 0))]) [0, 1, 2] rfl ?_
    exact L31_5 (99 - 0 + 1) 0 Sr (by first | assumption | omega | (simp; done)) (by intro z h; exact absurd h (Nat.not_lt_zero _)) (Nat.lt_succ_self _)
  ·
    exact absurd (hpo.1.trans hok) c_14
