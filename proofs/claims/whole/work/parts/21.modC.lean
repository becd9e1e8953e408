set_option maxHeartbeats 4000000 in
set_option maxRecDepth 100000 in
theorem c_X7_partOf (l : Launch) (G : va_G) (y : Nat → ClassId) (t : Nat) (a : Nat → Nat) (th : Int32) (Sr : Nat → Int32) (dr : Nat → Int32) (pa : Nat → Int32) (um : Int32) (im : Nat → Int32) (ikp : Nat → Int32) (tx : Nat → Int32) (ty : Int32) (sn : Nat → Int32) (sm : Int32) (at1 : Int32) (pl : Int32) (tk : Int32) (vl : Int32) (fa : Int32) (pf : Nat → Int32) (odr : Nat → Int32) (gv : Nat → Int32) (mk : Nat → Int32) (bo : Nat → Int32) (bq : Nat → Int32) (m0 : Nat) (c0 : Nat) (s0 : Nat) (gg : Nat → Nat) (hc0 : c0 < 8) (hs0 : s0 < 64) (hgg : ∀ z, z ≤ s0 → gv z = nI (gg z) ∧ gg z < 8) (hp : ((nI s0 &&& (nI m0 ^^^ (-1))) = 0 ∧ gg s0 = c0)) (hm : ∀ z, z < s0 → ¬ ((nI z &&& (nI m0 ^^^ (-1))) = 0 ∧ gg z = c0)) (sz : Nat) : Met l yX7_partOf (Cond.code yX7_partOf cX7_partOf 4 (some .int) :: TG) ({ frames := 0, cells := 0, slots := 0, locals := 0 }) (va_Pc [.ref (a 0), .int (nI m0), .int (nI c0)] (PR G y t (kMod y a th Sr dr pa um im ikp tx ty sn sm at1 pl tk vl fa pf odr gv mk bo bq) sz)) (va_Qi (fun (r : Int32) (u : Unit) => r = (nI s0)) (fun (u : Unit) t => PO G (va_A (kMod y a th Sr dr pa um im ikp tx ty sn sm at1 pl tk vl fa pf odr gv mk bo bq) sz) (kMod y a th Sr dr pa um im ikp tx ty sn sm at1 pl tk vl fa pf odr gv mk bo bq) t) (va_A (kMod y a th Sr dr pa um im ikp tx ty sn sm at1 pl tk vl fa pf odr gv mk bo bq) sz)) 0 0 (va_A (kMod y a th Sr dr pa um im ikp tx ty sn sm at1 pl tk vl fa pf odr gv mk bo bq) sz) := by
  refine kMet (cc := cX7_partOf) (maxL := 4) (ret := some .int) (Qc := fun A => va_Qi (fun (r : Int32) (u : Unit) => r = (nI s0)) (fun (u : Unit) t => PO G A (kMod y a th Sr dr pa um im ikp tx ty sn sm at1 pl tk vl fa pf odr gv mk bo bq) t) A) (by decide) rfl (Nat.le_of_ble_eq_true rfl) (fun p e s m below meth c A hsz C hin => ?_)
  refine KW.loc (lv' := [(0, .ref (a 0)), (1, .int (nI m0)), (2, .int (nI c0))]) [0, 1, 2] rfl ?_
  refine kw_iconst (v := nI 0) C dX7_partOf_0 (by decide) ?_
  refine kw_istore_n C [(3, .int (nI 0)), (0, .ref (a 0)), (1, .int (nI m0)), (2, .int (nI c0))] dX7_partOf_1 rfl (by decide) rfl ?_
  have L2_1 : ∀ (nn : Nat) (i : Nat) (hi : i ≤ s0) (hms : s0 - i < nn), KW p l e ({ frames := 0, cells := 0, slots := 0, locals := 0 }) s m ([.ref (a 0), .int (nI m0), .int (nI c0)] : List Value).toArray below meth c 0 0 (MQ below (va_Qi (fun (r : Int32) (u : Unit) => r = (nI s0)) (fun (u : Unit) t => PO G A (kMod y a th Sr dr pa um im ikp tx ty sn sm at1 pl tk vl fa pf odr gv mk bo bq) t) A) ([.ref (a 0), .int (nI m0), .int (nI c0)] : List Value).toArray s 0 0 A) G A 4 (kMod y a th Sr dr pa um im ikp tx ty sn sm at1 pl tk vl fa pf odr gv mk bo bq) [(3, .int (nI i)), (0, .ref (a 0)), (1, .int (nI m0)), (2, .int (nI c0))] 2 [] := by
    intro nn
    induction nn with
    | zero => intro i hi hms; exact absurd hms (Nat.not_lt_zero _)
    | succ nn ih_2 =>
      intro i hi hms
      refine kw_iload_n C 0 dX7_partOf_2 rfl ?_
      refine kw_iload_n C 2 dX7_partOf_3 rfl ?_
      refine kw_iconst (v := (-1)) C dX7_partOf_4 (by decide) ?_
      refine kw_ixor C dX7_partOf_5 ?_
      refine kw_iand C dX7_partOf_6 ?_
      refine kw_if_ne (tgt := 20) C dX7_partOf_7 (by decide) (fun c_7 => ?_) (fun c_7 => ?_)
      ·
        refine kw_iinc (v := nI (i + 1)) C [(3, .int (nI (i + 1))), (0, .ref (a 0)), (1, .int (nI m0)), (2, .int (nI c0))] 0 dX7_partOf_20 rfl (nI_1 _) (by decide) rfl ?_
        refine kw_goto (tgt := 2) C dX7_partOf_23 (by decide) ?_
        refine KW.loc (lv' := [(3, .int (nI (i + 1))), (0, .ref (a 0)), (1, .int (nI m0)), (2, .int (nI c0))]) [0, 1, 2, 3] rfl ?_
        exact ih_2 (i + 1) (by first | exact Nat.lt_of_le_of_ne hi (fun h => c_7 (by rw [h]; exact hp.1)) | exact Nat.lt_of_le_of_ne hi (fun h => c_17 (by rw [h]; exact hp.2))) (by first | (have := Nat.lt_of_le_of_ne hi (fun h => c_7 (by rw [h]; exact hp.1)); omega) | (have := Nat.lt_of_le_of_ne hi (fun h => c_17 (by rw [h]; exact hp.2)); omega))
      ·
        refine kw_aload_n C 1 dX7_partOf_10 rfl ?_
        refine kw_get (v := .ref (a 10)) (T := TX7) C 0 18 rfl rfl (by decide) (fun w h => mT (fwX7 w h)) rfl (mT wd_633) rfl dX7_partOf_11 ?_
        refine kw_iload_n C 0 dX7_partOf_14 rfl ?_
        refine kw_iald (f := gv) C 10 rfl (by omega) (by decide) dX7_partOf_15 ?_
        refine kw_top (show (gv i) = (nI (gg (i))) from by exact (hgg _ (by omega)).1) ?_
        have hl_15 := (hgg (i) (by omega)).2
        refine kw_iload_n C 3 dX7_partOf_16 rfl ?_
        refine kw_icmp_eq_N (tgt := 26) C (by omega) (by omega) dX7_partOf_17 (by decide) (fun c_17 => ?_) (fun c_17 => ?_)
        ·
          refine kw_iload_n C 0 dX7_partOf_26 rfl ?_
          refine kR_i C () dX7_partOf_27 ?_ rfl
          rcases Nat.lt_or_ge i s0 with h | h
          · exact absurd (And.intro c_7 c_17) (hm i h)
          · rw [show i = s0 from by omega]
        ·
          refine kw_iinc (v := nI (i + 1)) C [(3, .int (nI (i + 1))), (0, .ref (a 0)), (1, .int (nI m0)), (2, .int (nI c0))] 0 dX7_partOf_20 rfl (nI_1 _) (by decide) rfl ?_
          refine kw_goto (tgt := 2) C dX7_partOf_23 (by decide) ?_
          refine KW.loc (lv' := [(3, .int (nI (i + 1))), (0, .ref (a 0)), (1, .int (nI m0)), (2, .int (nI c0))]) [0, 1, 2, 3] rfl ?_
          exact ih_2 (i + 1) (by first | exact Nat.lt_of_le_of_ne hi (fun h => c_7 (by rw [h]; exact hp.1)) | exact Nat.lt_of_le_of_ne hi (fun h => c_17 (by rw [h]; exact hp.2))) (by first | (have := Nat.lt_of_le_of_ne hi (fun h => c_7 (by rw [h]; exact hp.1)); omega) | (have := Nat.lt_of_le_of_ne hi (fun h => c_17 (by rw [h]; exact hp.2)); omega))
  refine KW.loc (lv' := [(3, .int (nI 0)), (0, .ref (a 0)), (1, .int (nI m0)), (2, .int (nI c0))]) [0, 1, 2, 3] rfl ?_
  exact L2_1 (s0 - 0 + 1) 0 (by first | assumption | omega | (simp; done)) (Nat.lt_succ_self _)

set_option maxHeartbeats 4000000 in
set_option maxRecDepth 100000 in
theorem c_X7_cuts_none (l : Launch) (G : va_G) (y : Nat → ClassId) (t : Nat) (a : Nat → Nat) (th : Int32) (Sr : Nat → Int32) (dr : Nat → Int32) (pa : Nat → Int32) (um : Int32) (im : Nat → Int32) (ikp : Nat → Int32) (tx : Nat → Int32) (ty : Int32) (sn : Nat → Int32) (sm : Int32) (at1 : Int32) (pl : Int32) (tk : Int32) (vl : Int32) (fa : Int32) (pf : Nat → Int32) (odr : Nat → Int32) (gv : Nat → Int32) (mk : Nat → Int32) (bo : Nat → Int32) (bq : Nat → Int32) (W : Nat) (H : Nat) (N : Nat) (pcl : Nat → Nat) (ik : Nat → Nat) (o : Nat → Nat) (bk : Nat → Nat) (kk : Nat → Nat) (hR : RowOk Sr W H N pcl ik o bk kk) (hls : lsM (wtY pcl W H) (fun z => mkP (fun z => gvF o ik z N) z (z + 1)) (2 ^ N) = -9) (sz : Nat) : Met l yX7_cuts (Cond.code yX7_cuts cX7_cuts 6 (some .int) :: TG) ({ frames := 3, cells := 0, slots := 0, locals := 68 }) (va_Pc [.ref (a 0)] (PR G y t (kMod y a th Sr dr pa um im ikp tx ty sn sm at1 pl tk vl fa pf odr gv mk bo bq) sz)) (va_Qi (fun (r : Int32) (u : (Nat → Int32) × (Nat → Int32) × (Nat → Int32)) => r = (-2)) (fun (u : (Nat → Int32) × (Nat → Int32) × (Nat → Int32)) t => PO G (va_A (kMod y a th Sr dr pa um im ikp tx ty sn sm at1 pl tk vl fa pf odr gv mk bo bq) sz) (kMod y a (nI 0) Sr dr pa um im ikp tx ty sn sm at1 pl tk vl fa pf u.1 u.2.1 u.2.2 bo bq) t) (va_A (kMod y a th Sr dr pa um im ikp tx ty sn sm at1 pl tk vl fa pf odr gv mk bo bq) sz)) 0 0 (va_A (kMod y a th Sr dr pa um im ikp tx ty sn sm at1 pl tk vl fa pf odr gv mk bo bq) sz) := by
  refine kMet (cc := cX7_cuts) (maxL := 6) (ret := some .int) (Qc := fun A => va_Qi (fun (r : Int32) (u : (Nat → Int32) × (Nat → Int32) × (Nat → Int32)) => r = (-2)) (fun (u : (Nat → Int32) × (Nat → Int32) × (Nat → Int32)) t => PO G A (kMod y a (nI 0) Sr dr pa um im ikp tx ty sn sm at1 pl tk vl fa pf u.1 u.2.1 u.2.2 bo bq) t) A) (by decide) rfl (Nat.le_of_ble_eq_true rfl) (fun p e s m below meth c A hsz C hin => ?_)
  obtain ⟨hS0, hS1, hS2, hW, hH, hN, hpic, hink, hord, hblk, hdx⟩ := id hR
  refine KW.loc (lv' := [(0, .ref (a 0))]) [0] rfl ?_
  refine kw_aload_n C 0 dX7_cuts_0 rfl ?_
  refine kw_iconst (v := nI 0) C dX7_cuts_1 (by decide) ?_
  refine kw_put (T := TX7) (ty := .int) C 0 0 (kMod y a (nI 0) Sr dr pa um im ikp tx ty sn sm at1 pl tk vl fa pf odr gv mk bo bq) rfl rfl (by decide) (fun w h => mT (fwX7 w h)) tyX7 tyX7_ok nmX7 rfl (mT wd_615) rfl (by decide +kernel) rfl rfl (Nat.le_of_ble_eq_true rfl) dX7_cuts_2 rfl ?_
  refine kw_aload_n C 0 dX7_cuts_5 rfl ?_
  refine kV_v (As := []) (rest := []) (ws' := fun (u : Nat → Int32) => kMod y a (nI 0) Sr dr pa um im ikp tx ty sn sm at1 pl tk vl fa pf u gv mk bo bq) C (c_X7_asOrdered l G y t a (nI 0) Sr dr pa um im ikp tx ty sn sm at1 pl tk vl fa pf odr gv mk bo bq W H N pcl ik o bk kk (by exact hR)) (cwV 0 C.2.2.2.2.1 (goodV cT wd_736 wd_733 wd_735 wd_21 wd_48) rfl rfl rfl (by decide +kernel) ⟨by decide, by decide⟩) [0, 1, 2, 3, 4, 5, 6, 7, 8, 9, 10, 11, 12, 13] [] [0, 1, 2, 3, 4, 5, 6, 7, 8, 9, 10, 11, 12, 13] rfl (by decide) rfl (by decide) (by decide) (fun _ => rfl) (by decide) 0 rfl rfl rfl (Nat.le_of_ble_eq_true rfl) ⟨by decide, by decide⟩ dX7_cuts_6 (fun u hr_1 => ?_)
  obtain ⟨od_a, ehr_1⟩ : ∃ z, z = u := ⟨u, rfl⟩
  subst ehr_1
  have hao := hr_1
  refine kw_aload_n C 0 dX7_cuts_9 rfl ?_
  refine kV_i (As := []) (rest := []) (ws' := fun (u : (Nat → Int32) × (Nat → Int32)) => kMod y a (nI 0) Sr dr pa um im ikp tx ty sn sm at1 pl tk vl fa pf od_a u.1 u.2 bo bq) C (c_X7_leastSet l G y t a (nI 0) Sr dr pa um im ikp tx ty sn sm at1 pl tk vl fa pf od_a gv mk bo bq o W H N pcl ik o bk kk (by exact hR) (by intro q hq; rw [hao q (by omega)]; exact hord q hq)) (cwV 0 C.2.2.2.2.1 (goodV cT wd_740 wd_737 wd_739 wd_22 wd_48) rfl rfl rfl (by decide +kernel) ⟨by decide, by decide⟩) [0, 1, 2, 3, 4, 5, 6, 7, 8, 9, 10, 11, 12, 13] [] [0, 1, 2, 3, 4, 5, 6, 7, 8, 9, 10, 11, 12, 13] rfl (by decide) rfl (by decide) (by decide) (fun _ => rfl) (by decide) 0 rfl rfl rfl (Nat.le_of_ble_eq_true rfl) ⟨by decide, by decide⟩ dX7_cuts_10 (fun r u hr_2 => ?_)
  obtain ⟨gv_b, mk_b⟩ := u
  try dsimp only at hr_2
  obtain ⟨hq, hmx⟩ := hr_2
  subst hq
  refine kw_top (show (lsM (wtY pcl W H) (fun z => mkP (fun z => gvF o ik z N) z (z + 1)) (2 ^ N)) = (-9) from by exact hls) ?_
  refine kw_istore_n C [(1, .int (-9)), (0, .ref (a 0))] dX7_cuts_13 rfl (by decide) rfl ?_
  refine kw_iload_n C 0 dX7_cuts_14 rfl ?_
  refine kw_bipush (v := (-9)) C dX7_cuts_15 (by decide) ?_
  refine kw_icmp_ne (tgt := 23) C dX7_cuts_17 (by decide) (fun c_17 => ?_) (fun c_17 => ?_)
  ·
    exact absurd rfl c_17
  ·
    refine kw_bipush (v := (-2)) C dX7_cuts_20 (by decide) ?_
    refine kR_i C (od_a, gv_b, mk_b) dX7_cuts_22 ?_ rfl
    first | rfl | trivial | (simp; done) | omega

set_option maxHeartbeats 4000000 in
set_option maxRecDepth 100000 in
theorem c_X7_cuts_ok (l : Launch) (G : va_G) (y : Nat → ClassId) (t : Nat) (a : Nat → Nat) (th : Int32) (Sr : Nat → Int32) (dr : Nat → Int32) (pa : Nat → Int32) (im : Nat → Int32) (ikp : Nat → Int32) (tx : Nat → Int32) (ty : Int32) (sn : Nat → Int32) (sm : Int32) (at1 : Int32) (pl : Int32) (tk : Int32) (vl : Int32) (fa : Int32) (pf : Nat → Int32) (odr : Nat → Int32) (gv : Nat → Int32) (mk : Nat → Int32) (bo : Nat → Int32) (bq : Nat → Int32) (U : Nat) (m0 : Nat) (fs : Nat → Nat) (W : Nat) (H : Nat) (N : Nat) (pcl : Nat → Nat) (ik : Nat → Nat) (o : Nat → Nat) (bk : Nat → Nat) (kk : Nat → Nat) (hR : RowOk Sr W H N pcl ik o bk kk) (hU : U ≤ 6) (hls : lsM (wtY pcl W H) (fun z => mkP (fun z => gvF o ik z N) z (z + 1)) (2 ^ N) = nI m0) (hm0 : m0 < 64) (hfs : ∀ c, c < 8 → (∃ yy xx, yy < H ∧ xx < W ∧ pcl (6 * yy + xx) = c) → fs c < 2 ^ N ∧ ((nI (fs c) &&& (nI m0 ^^^ (-1))) = 0 ∧ gvF o ik (fs c) N = c) ∧ ∀ z, z < fs c → ¬ ((nI z &&& (nI m0 ^^^ (-1))) = 0 ∧ gvF o ik z N = c)) (sz : Nat) : Met l yX7_cuts (Cond.code yX7_cuts cX7_cuts 6 (some .int) :: TG) ({ frames := 3, cells := 0, slots := 0, locals := 68 }) (va_Pc [.ref (a 0)] (PR G y t (kMod y a th Sr dr pa (nI U) im ikp tx ty sn sm at1 pl tk vl fa pf odr gv mk bo bq) sz)) (va_Qi (fun (r : Int32) (u : (Nat → Int32) × Nat × (Nat → Int32) × (Nat → Int32) × (Nat → Int32)) => r = (onI (nI m0) 8) ∧ (U < 6 → u.2.1 = U + 1 ∧ (∀ j, j < 99 * U → u.1 j = pa j) ∧ (∀ j, j < 99 → u.1 (99 * U + j) = Sr j)) ∧ (U = 6 → u.2.1 = 6 ∧ (∀ j, j < 495 → u.1 j = pa (99 + j)) ∧ (∀ j, j < 99 → u.1 (495 + j) = Sr j))) (fun (u : (Nat → Int32) × Nat × (Nat → Int32) × (Nat → Int32) × (Nat → Int32)) t => PO G (va_A (kMod y a th Sr dr pa (nI U) im ikp tx ty sn sm at1 pl tk vl fa pf odr gv mk bo bq) sz) (kMod y a (nI 0) (blkR Sr (cbY W N fs pcl H)) dr u.1 (nI u.2.1) im ikp tx ty sn sm at1 pl tk vl fa pf u.2.2.1 u.2.2.2.1 u.2.2.2.2 bo bq) t) (va_A (kMod y a th Sr dr pa (nI U) im ikp tx ty sn sm at1 pl tk vl fa pf odr gv mk bo bq) sz)) 0 0 (va_A (kMod y a th Sr dr pa (nI U) im ikp tx ty sn sm at1 pl tk vl fa pf odr gv mk bo bq) sz) := by
  refine kMet (cc := cX7_cuts) (maxL := 6) (ret := some .int) (Qc := fun A => va_Qi (fun (r : Int32) (u : (Nat → Int32) × Nat × (Nat → Int32) × (Nat → Int32) × (Nat → Int32)) => r = (onI (nI m0) 8) ∧ (U < 6 → u.2.1 = U + 1 ∧ (∀ j, j < 99 * U → u.1 j = pa j) ∧ (∀ j, j < 99 → u.1 (99 * U + j) = Sr j)) ∧ (U = 6 → u.2.1 = 6 ∧ (∀ j, j < 495 → u.1 j = pa (99 + j)) ∧ (∀ j, j < 99 → u.1 (495 + j) = Sr j))) (fun (u : (Nat → Int32) × Nat × (Nat → Int32) × (Nat → Int32) × (Nat → Int32)) t => PO G A (kMod y a (nI 0) (blkR Sr (cbY W N fs pcl H)) dr u.1 (nI u.2.1) im ikp tx ty sn sm at1 pl tk vl fa pf u.2.2.1 u.2.2.2.1 u.2.2.2.2 bo bq) t) A) (by decide) rfl (Nat.le_of_ble_eq_true rfl) (fun p e s m below meth c A hsz C hin => ?_)
  obtain ⟨hS0, hS1, hS2, hW, hH, hN, hpic, hink, hord, hblk, hdx⟩ := id hR
  have h64 := pow6 hN
  refine KW.loc (lv' := [(0, .ref (a 0))]) [0] rfl ?_
  refine kw_aload_n C 0 dX7_cuts_0 rfl ?_
  refine kw_iconst (v := nI 0) C dX7_cuts_1 (by decide) ?_
  refine kw_put (T := TX7) (ty := .int) C 0 0 (kMod y a (nI 0) Sr dr pa (nI U) im ikp tx ty sn sm at1 pl tk vl fa pf odr gv mk bo bq) rfl rfl (by decide) (fun w h => mT (fwX7 w h)) tyX7 tyX7_ok nmX7 rfl (mT wd_615) rfl (by decide +kernel) rfl rfl (Nat.le_of_ble_eq_true rfl) dX7_cuts_2 rfl ?_
  refine kw_aload_n C 0 dX7_cuts_5 rfl ?_
  refine kV_v (As := []) (rest := []) (ws' := fun (u : Nat → Int32) => kMod y a (nI 0) Sr dr pa (nI U) im ikp tx ty sn sm at1 pl tk vl fa pf u gv mk bo bq) C (c_X7_asOrdered l G y t a (nI 0) Sr dr pa (nI U) im ikp tx ty sn sm at1 pl tk vl fa pf odr gv mk bo bq W H N pcl ik o bk kk (by exact hR)) (cwV 0 C.2.2.2.2.1 (goodV cT wd_736 wd_733 wd_735 wd_21 wd_48) rfl rfl rfl (by decide +kernel) ⟨by decide, by decide⟩) [0, 1, 2, 3, 4, 5, 6, 7, 8, 9, 10, 11, 12, 13] [] [0, 1, 2, 3, 4, 5, 6, 7, 8, 9, 10, 11, 12, 13] rfl (by decide) rfl (by decide) (by decide) (fun _ => rfl) (by decide) 0 rfl rfl rfl (Nat.le_of_ble_eq_true rfl) ⟨by decide, by decide⟩ dX7_cuts_6 (fun u hr_1 => ?_)
  obtain ⟨od_a, ehr_1⟩ : ∃ z, z = u := ⟨u, rfl⟩
  subst ehr_1
  have hao := hr_1
  refine kw_aload_n C 0 dX7_cuts_9 rfl ?_
  refine kV_i (As := []) (rest := []) (ws' := fun (u : (Nat → Int32) × (Nat → Int32)) => kMod y a (nI 0) Sr dr pa (nI U) im ikp tx ty sn sm at1 pl tk vl fa pf od_a u.1 u.2 bo bq) C (c_X7_leastSet l G y t a (nI 0) Sr dr pa (nI U) im ikp tx ty sn sm at1 pl tk vl fa pf od_a gv mk bo bq o W H N pcl ik o bk kk (by exact hR) (by intro q hq; rw [hao q (by omega)]; exact hord q hq)) (cwV 0 C.2.2.2.2.1 (goodV cT wd_740 wd_737 wd_739 wd_22 wd_48) rfl rfl rfl (by decide +kernel) ⟨by decide, by decide⟩) [0, 1, 2, 3, 4, 5, 6, 7, 8, 9, 10, 11, 12, 13] [] [0, 1, 2, 3, 4, 5, 6, 7, 8, 9, 10, 11, 12, 13] rfl (by decide) rfl (by decide) (by decide) (fun _ => rfl) (by decide) 0 rfl rfl rfl (Nat.le_of_ble_eq_true rfl) ⟨by decide, by decide⟩ dX7_cuts_10 (fun r u hr_2 => ?_)
  obtain ⟨gv_b, mk_b⟩ := u
  try dsimp only at hr_2
  obtain ⟨hq, hmx⟩ := hr_2
  subst hq
  refine kw_top (show (lsM (wtY pcl W H) (fun z => mkP (fun z => gvF o ik z N) z (z + 1)) (2 ^ N)) = (nI m0) from by exact hls) ?_
  refine kw_istore_n C [(1, .int (nI m0)), (0, .ref (a 0))] dX7_cuts_13 rfl (by decide) rfl ?_
  refine kw_iload_n C 0 dX7_cuts_14 rfl ?_
  refine kw_bipush (v := (-9)) C dX7_cuts_15 (by decide) ?_
  refine kw_icmp_ne (tgt := 23) C dX7_cuts_17 (by decide) (fun c_17 => ?_) (fun c_17 => ?_)
  ·
    refine kw_aload_n C 1 dX7_cuts_23 rfl ?_
    refine kV_v (As := []) (rest := []) (ws' := fun (u : (Nat → Int32) × Nat) => kMod y a (nI 0) Sr dr u.1 (nI u.2) im ikp tx ty sn sm at1 pl tk vl fa pf od_a gv_b mk_b bo bq) C (c_X7_notes l G y t a (nI 0) Sr dr pa im ikp tx ty sn sm at1 pl tk vl fa pf od_a gv_b mk_b bo bq U (by first | assumption | omega | decide)) (cwV 0 C.2.2.2.2.1 (goodV cT wd_728 wd_725 wd_727 wd_20 wd_48) rfl rfl rfl (by decide +kernel) ⟨by decide, by decide⟩) [0, 1, 2, 3, 4, 5, 6, 7, 8, 9, 10, 11, 12, 13] [] [0, 1, 2, 3, 4, 5, 6, 7, 8, 9, 10, 11, 12, 13] rfl (by decide) rfl (by decide) (by decide) (fun _ => rfl) (by decide) 0 rfl rfl rfl (Nat.le_of_ble_eq_true rfl) ⟨by decide, by decide⟩ dX7_cuts_24 (fun u hr_3 => ?_)
    obtain ⟨pa_b, U_b⟩ := u
    try dsimp only at hr_3
    have hpo := hr_3
    refine kw_bipush (v := nI 51) C dX7_cuts_27 (by decide) ?_
    refine kw_istore_n C [(2, .int (nI 51)), (1, .int (nI m0)), (0, .ref (a 0))] dX7_cuts_29 rfl (by decide) rfl ?_
    have L30_4 : ∀ (nn : Nat) (i : Nat) (f0 : Nat → Int32) (hi1 : 51 ≤ i) (hi : i ≤ 99) (hf0 : ∀ z, f0 z = if 51 ≤ z ∧ z < i then nI 0 else Sr z) (hms : 99 - i < nn), KW p l e ({ frames := 3, cells := 0, slots := 0, locals := 68 }) s m ([.ref (a 0)] : List Value).toArray below meth c 0 0 (MQ below (va_Qi (fun (r : Int32) (u : (Nat → Int32) × Nat × (Nat → Int32) × (Nat → Int32) × (Nat → Int32)) => r = (onI (nI m0) 8) ∧ (U < 6 → u.2.1 = U + 1 ∧ (∀ j, j < 99 * U → u.1 j = pa j) ∧ (∀ j, j < 99 → u.1 (99 * U + j) = Sr j)) ∧ (U = 6 → u.2.1 = 6 ∧ (∀ j, j < 495 → u.1 j = pa (99 + j)) ∧ (∀ j, j < 99 → u.1 (495 + j) = Sr j))) (fun (u : (Nat → Int32) × Nat × (Nat → Int32) × (Nat → Int32) × (Nat → Int32)) t => PO G A (kMod y a (nI 0) (blkR Sr (cbY W N fs pcl H)) dr u.1 (nI u.2.1) im ikp tx ty sn sm at1 pl tk vl fa pf u.2.2.1 u.2.2.2.1 u.2.2.2.2 bo bq) t) A) ([.ref (a 0)] : List Value).toArray s 0 0 A) G A 6 (kMod y a (nI 0) f0 dr pa_b (nI U_b) im ikp tx ty sn sm at1 pl tk vl fa pf od_a gv_b mk_b bo bq) [(2, .int (nI i)), (1, .int (nI m0)), (0, .ref (a 0))] 30 [] := by
      intro nn
      induction nn with
      | zero => intro i f0 hi1 hi hf0 hms; exact absurd hms (Nat.not_lt_zero _)
      | succ nn ih_30 =>
        intro i f0 hi1 hi hf0 hms
        refine kw_iload_n C 0 dX7_cuts_30 rfl ?_
        refine kw_bipush (v := nI 99) C dX7_cuts_31 (by decide) ?_
        refine kw_icmp_ge_N (tgt := 49) C (by omega) (by omega) dX7_cuts_33 (by decide) (fun c_33 => ?_) (fun c_33 => ?_)
        ·
          refine kw_iconst (v := nI 0) C dX7_cuts_49 (by decide) ?_
          refine kw_exti (blkR Sr (fun _ => 0)) 1 (kMod y a (nI 0) (blkR Sr (fun _ => 0)) dr pa_b (nI U_b) im ikp tx ty sn sm at1 pl tk vl fa pf od_a gv_b mk_b bo bq) rfl (by intro z hz; exact cz_ext hf0 (by omega) z hz) rfl ?_
          refine kw_istore_n C [(2, .int (nI 0)), (1, .int (nI m0)), (0, .ref (a 0))] dX7_cuts_50 rfl (by decide) rfl ?_
          have L51_5 : ∀ (nn : Nat) (yy : Nat) (hyy : yy ≤ H) (hms : H - yy < nn), KW p l e ({ frames := 3, cells := 0, slots := 0, locals := 68 }) s m ([.ref (a 0)] : List Value).toArray below meth c 0 0 (MQ below (va_Qi (fun (r : Int32) (u : (Nat → Int32) × Nat × (Nat → Int32) × (Nat → Int32) × (Nat → Int32)) => r = (onI (nI m0) 8) ∧ (U < 6 → u.2.1 = U + 1 ∧ (∀ j, j < 99 * U → u.1 j = pa j) ∧ (∀ j, j < 99 → u.1 (99 * U + j) = Sr j)) ∧ (U = 6 → u.2.1 = 6 ∧ (∀ j, j < 495 → u.1 j = pa (99 + j)) ∧ (∀ j, j < 99 → u.1 (495 + j) = Sr j))) (fun (u : (Nat → Int32) × Nat × (Nat → Int32) × (Nat → Int32) × (Nat → Int32)) t => PO G A (kMod y a (nI 0) (blkR Sr (cbY W N fs pcl H)) dr u.1 (nI u.2.1) im ikp tx ty sn sm at1 pl tk vl fa pf u.2.2.1 u.2.2.2.1 u.2.2.2.2 bo bq) t) A) ([.ref (a 0)] : List Value).toArray s 0 0 A) G A 6 (kMod y a (nI 0) (blkR Sr (cbY W N fs pcl yy)) dr pa_b (nI U_b) im ikp tx ty sn sm at1 pl tk vl fa pf od_a gv_b mk_b bo bq) [(2, .int (nI yy)), (1, .int (nI m0)), (0, .ref (a 0))] 51 [] := by
            intro nn
            induction nn with
            | zero => intro yy hyy hms; exact absurd hms (Nat.not_lt_zero _)
            | succ nn ih_51 =>
              intro yy hyy hms
              refine kw_iload_n C 0 dX7_cuts_51 rfl ?_
              refine kw_aload_n C 2 dX7_cuts_52 rfl ?_
              refine kw_get (v := .ref (a 1)) (T := TX7) C 0 1 rfl rfl (by decide) (fun w h => mT (fwX7 w h)) rfl (mT wd_616) rfl dX7_cuts_53 ?_
              refine kw_iconst (v := nI 1) C dX7_cuts_56 (by decide) ?_
              refine kw_iald (f := blkR Sr (cbY W N fs pcl yy)) C 1 rfl (by omega) (by decide) dX7_cuts_57 ?_
              refine kw_top (show ((blkR Sr (cbY W N fs pcl yy)) 1) = (nI H) from by exact (blkR_lo (by decide)).trans hS1) ?_
              refine kw_icmp_ge_N (tgt := 152) C (by omega) (by omega) dX7_cuts_58 (by decide) (fun c_58 => ?_) (fun c_58 => ?_)
              ·
                refine kw_iload_n C 1 dX7_cuts_152 rfl ?_
                refine kS_i (As := [.int (nI m0)]) (rest := []) (ws' := fun (u : Unit) => kMod y a (nI 0) (blkR Sr (cbY W N fs pcl yy)) dr pa_b (nI U_b) im ikp tx ty sn sm at1 pl tk vl fa pf od_a gv_b mk_b bo bq) C (c_X7_ones l G y t (nI m0)) (va_cwS 1 C.2.2.2.2.1 (goodS cT wd_754 wd_752 wd_753 wd_48) rfl rfl rfl (by decide +kernel) ⟨by decide, by decide⟩) [] [0, 1, 2, 3, 4, 5, 6, 7, 8, 9, 10, 11, 12, 13] [0, 1, 2, 3, 4, 5, 6, 7, 8, 9, 10, 11, 12, 13] rfl (by decide) rfl (by decide) (by decide) (fun _ => rfl) (by decide) rfl (Nat.le_of_ble_eq_true rfl) ⟨by decide, by decide⟩ dX7_cuts_153 (fun r u hr_6 => ?_)
                subst hr_6
                rw [show yy = H from by omega]
                refine kR_i C (pa_b, U_b, od_a, gv_b, mk_b) dX7_cuts_156 ?_ rfl
                exact ⟨rfl, hpo⟩
              ·
                refine kw_iconst (v := nI 0) C dX7_cuts_61 (by decide) ?_
                refine kw_istore_n C [(3, .int (nI 0)), (2, .int (nI yy)), (1, .int (nI m0)), (0, .ref (a 0))] dX7_cuts_62 rfl (by decide) rfl ?_
                have L63_7 : ∀ (nn : Nat) (xx : Nat) (hxx : xx ≤ W) (hms : W - xx < nn), KW p l e ({ frames := 3, cells := 0, slots := 0, locals := 68 }) s m ([.ref (a 0)] : List Value).toArray below meth c 0 0 (MQ below (va_Qi (fun (r : Int32) (u : (Nat → Int32) × Nat × (Nat → Int32) × (Nat → Int32) × (Nat → Int32)) => r = (onI (nI m0) 8) ∧ (U < 6 → u.2.1 = U + 1 ∧ (∀ j, j < 99 * U → u.1 j = pa j) ∧ (∀ j, j < 99 → u.1 (99 * U + j) = Sr j)) ∧ (U = 6 → u.2.1 = 6 ∧ (∀ j, j < 495 → u.1 j = pa (99 + j)) ∧ (∀ j, j < 99 → u.1 (495 + j) = Sr j))) (fun (u : (Nat → Int32) × Nat × (Nat → Int32) × (Nat → Int32) × (Nat → Int32)) t => PO G A (kMod y a (nI 0) (blkR Sr (cbY W N fs pcl H)) dr u.1 (nI u.2.1) im ikp tx ty sn sm at1 pl tk vl fa pf u.2.2.1 u.2.2.2.1 u.2.2.2.2 bo bq) t) A) ([.ref (a 0)] : List Value).toArray s 0 0 A) G A 6 (kMod y a (nI 0) (blkR Sr (cbX N fs pcl yy xx (cbY W N fs pcl yy))) dr pa_b (nI U_b) im ikp tx ty sn sm at1 pl tk vl fa pf od_a gv_b mk_b bo bq) [(3, .int (nI xx)), (2, .int (nI yy)), (1, .int (nI m0)), (0, .ref (a 0))] 63 [] := by
                  intro nn
                  induction nn with
                  | zero => intro xx hxx hms; exact absurd hms (Nat.not_lt_zero _)
                  | succ nn ih_63 =>
                    intro xx hxx hms
                    refine kw_iload_n C 0 dX7_cuts_63 rfl ?_
                    refine kw_aload_n C 3 dX7_cuts_64 rfl ?_
                    refine kw_get (v := .ref (a 1)) (T := TX7) C 0 1 rfl rfl (by decide) (fun w h => mT (fwX7 w h)) rfl (mT wd_616) rfl dX7_cuts_65 ?_
                    refine kw_iconst (v := nI 0) C dX7_cuts_68 (by decide) ?_
                    refine kw_iald (f := blkR Sr (cbX N fs pcl yy xx (cbY W N fs pcl yy))) C 1 rfl (by omega) (by decide) dX7_cuts_69 ?_
                    refine kw_top (show ((blkR Sr (cbX N fs pcl yy xx (cbY W N fs pcl yy))) 0) = (nI W) from by exact (blkR_lo (by decide)).trans hS0) ?_
                    refine kw_icmp_ge_N (tgt := 146) C (by omega) (by omega) dX7_cuts_70 (by decide) (fun c_70 => ?_) (fun c_70 => ?_)
                    ·
                      refine kw_iinc (v := nI (yy + 1)) C [(2, .int (nI (yy + 1))), (3, .int (nI xx)), (1, .int (nI m0)), (0, .ref (a 0))] 1 dX7_cuts_146 rfl (nI_1 _) (by decide) rfl ?_
                      refine kw_goto (tgt := 51) C dX7_cuts_149 (by decide) ?_
                      refine KW.loc (lv' := [(2, .int (nI (yy + 1))), (1, .int (nI m0)), (0, .ref (a 0))]) [0, 2, 3] rfl ?_
                      refine KW.asw (congrArg (fun zq => (kMod y a (nI 0) zq dr pa_b (nI U_b) im ikp tx ty sn sm at1 pl tk vl fa pf od_a gv_b mk_b bo bq : va_W)) (show (blkR Sr (cbX N fs pcl yy xx (cbY W N fs pcl yy))) = (blkR Sr (cbY W N fs pcl (yy + 1))) from by rw [show xx = W from by omega]; rfl)) ?_
                      exact ih_51 (yy + 1) (by first | assumption | omega | (simp; done)) (by omega)
                    ·
                      refine kw_aload_n C 3 dX7_cuts_73 rfl ?_
                      refine kw_iload_n C 2 dX7_cuts_74 rfl ?_
                      refine kw_aload_n C 3 dX7_cuts_75 rfl ?_
                      refine kw_get (v := .ref (a 1)) (T := TX7) C 0 1 rfl rfl (by decide) (fun w h => mT (fwX7 w h)) rfl (mT wd_616) rfl dX7_cuts_76 ?_
                      refine kw_iconst (v := nI 3) C dX7_cuts_79 (by decide) ?_
                      refine kw_bipush (v := nI 6) C dX7_cuts_80 (by decide) ?_
                      refine kw_iload_n C 1 dX7_cuts_82 rfl ?_
                      refine kw_imul C dX7_cuts_83 (kw_top (pk_mul _ _) ?_)
                      refine kw_iadd C dX7_cuts_84 (kw_top (nI_add _ _) ?_)
                      refine kw_iload_n C 0 dX7_cuts_85 rfl ?_
                      refine kw_iadd C dX7_cuts_86 (kw_top (nI_add _ _) ?_)
                      refine kw_iald (f := blkR Sr (cbX N fs pcl yy xx (cbY W N fs pcl yy))) C 1 rfl (by omega) (by decide) dX7_cuts_87 ?_
                      refine kw_top (show ((blkR Sr (cbX N fs pcl yy xx (cbY W N fs pcl yy))) ((3 + (6 * yy)) + xx)) = (nI (pcl (6 * yy + xx))) from by exact (blkR_lo (by omega)).trans (hpic yy xx (by omega) (by omega)).1) ?_
                      have hp8 := (hpic yy xx (by omega) (by omega)).2
                      have hf := hfs (pcl (6 * yy + xx)) hp8 ⟨yy, xx, by omega, by omega, rfl⟩
                      refine kV_i (As := [.int (nI m0), .int (nI (pcl (6 * yy + xx)))]) (rest := []) (ws' := fun (u : Unit) => kMod y a (nI 0) (blkR Sr (cbX N fs pcl yy xx (cbY W N fs pcl yy))) dr pa_b (nI U_b) im ikp tx ty sn sm at1 pl tk vl fa pf od_a gv_b mk_b bo bq) C (c_X7_partOf l G y t a (nI 0) (blkR Sr (cbX N fs pcl yy xx (cbY W N fs pcl yy))) dr pa_b (nI U_b) im ikp tx ty sn sm at1 pl tk vl fa pf od_a gv_b mk_b bo bq m0 (pcl (6 * yy + xx)) (fs (pcl (6 * yy + xx))) (fun z => gvF o ik z N) (by first | assumption | omega | decide) (by have := hf.1; omega) (by intro z hz; exact ⟨hmx.1 z (by have := hf.1; omega), gvF_lt z (fun q h => (hord q h).2) (fun q h => (hink q h).2) N (Nat.le_refl N)⟩) (by exact hf.2.1) (by exact hf.2.2)) (cwV 2 C.2.2.2.2.1 (goodV cT wd_758 wd_755 wd_757 wd_25 wd_48) rfl rfl rfl (by decide +kernel) ⟨by decide, by decide⟩) [0, 1, 2, 3, 4, 5, 6, 7, 8, 9, 10, 11, 12, 13] [] [0, 1, 2, 3, 4, 5, 6, 7, 8, 9, 10, 11, 12, 13] rfl (by decide) rfl (by decide) (by decide) (fun _ => rfl) (by decide) 0 rfl rfl rfl (Nat.le_of_ble_eq_true rfl) ⟨by decide, by decide⟩ dX7_cuts_88 (fun r u hr_8 => ?_)
                      subst hr_8
                      refine kw_istore C [(4, .int (nI (fs (pcl (6 * yy + xx))))), (3, .int (nI xx)), (2, .int (nI yy)), (1, .int (nI m0)), (0, .ref (a 0))] dX7_cuts_91 (by decide) rfl ?_
                      refine kw_iconst (v := nI 0) C dX7_cuts_93 (by decide) ?_
                      refine kw_istore C [(5, .int (nI 0)), (4, .int (nI (fs (pcl (6 * yy + xx))))), (3, .int (nI xx)), (2, .int (nI yy)), (1, .int (nI m0)), (0, .ref (a 0))] dX7_cuts_94 (by decide) rfl ?_
                      have L96_9 : ∀ (nn : Nat) (i2 : Nat) (hi2 : i2 ≤ N) (hms : N - i2 < nn), KW p l e ({ frames := 3, cells := 0, slots := 0, locals := 68 }) s m ([.ref (a 0)] : List Value).toArray below meth c 0 0 (MQ below (va_Qi (fun (r : Int32) (u : (Nat → Int32) × Nat × (Nat → Int32) × (Nat → Int32) × (Nat → Int32)) => r = (onI (nI m0) 8) ∧ (U < 6 → u.2.1 = U + 1 ∧ (∀ j, j < 99 * U → u.1 j = pa j) ∧ (∀ j, j < 99 → u.1 (99 * U + j) = Sr j)) ∧ (U = 6 → u.2.1 = 6 ∧ (∀ j, j < 495 → u.1 j = pa (99 + j)) ∧ (∀ j, j < 99 → u.1 (495 + j) = Sr j))) (fun (u : (Nat → Int32) × Nat × (Nat → Int32) × (Nat → Int32) × (Nat → Int32)) t => PO G A (kMod y a (nI 0) (blkR Sr (cbY W N fs pcl H)) dr u.1 (nI u.2.1) im ikp tx ty sn sm at1 pl tk vl fa pf u.2.2.1 u.2.2.2.1 u.2.2.2.2 bo bq) t) A) ([.ref (a 0)] : List Value).toArray s 0 0 A) G A 6 (kMod y a (nI 0) (blkR Sr (cbI (fs (pcl (6 * yy + xx))) xx yy i2 (cbX N fs pcl yy xx (cbY W N fs pcl yy)))) dr pa_b (nI U_b) im ikp tx ty sn sm at1 pl tk vl fa pf od_a gv_b mk_b bo bq) [(5, .int (nI i2)), (4, .int (nI (fs (pcl (6 * yy + xx))))), (3, .int (nI xx)), (2, .int (nI yy)), (1, .int (nI m0)), (0, .ref (a 0))] 96 [] := by
                        intro nn
                        induction nn with
                        | zero => intro i2 hi2 hms; exact absurd hms (Nat.not_lt_zero _)
                        | succ nn ih_96 =>
                          intro i2 hi2 hms
                          refine kw_iload C 0 dX7_cuts_96 rfl ?_
                          refine kw_aload_n C 5 dX7_cuts_98 rfl ?_
                          refine kw_get (v := .ref (a 1)) (T := TX7) C 0 1 rfl rfl (by decide) (fun w h => mT (fwX7 w h)) rfl (mT wd_616) rfl dX7_cuts_99 ?_
                          refine kw_iconst (v := nI 2) C dX7_cuts_102 (by decide) ?_
                          refine kw_iald (f := blkR Sr (cbI (fs (pcl (6 * yy + xx))) xx yy i2 (cbX N fs pcl yy xx (cbY W N fs pcl yy)))) C 1 rfl (by omega) (by decide) dX7_cuts_103 ?_
                          refine kw_top (show ((blkR Sr (cbI (fs (pcl (6 * yy + xx))) xx yy i2 (cbX N fs pcl yy xx (cbY W N fs pcl yy)))) 2) = (nI N) from by exact (blkR_lo (by decide)).trans hS2) ?_
                          refine kw_icmp_ge_N (tgt := 140) C (by omega) (by omega) dX7_cuts_104 (by decide) (fun c_104 => ?_) (fun c_104 => ?_)
                          ·
                            refine kw_iinc (v := nI (xx + 1)) C [(3, .int (nI (xx + 1))), (5, .int (nI i2)), (4, .int (nI (fs (pcl (6 * yy + xx))))), (2, .int (nI yy)), (1, .int (nI m0)), (0, .ref (a 0))] 2 dX7_cuts_140 rfl (nI_1 _) (by decide) rfl ?_
                            refine kw_goto (tgt := 63) C dX7_cuts_143 (by decide) ?_
                            refine KW.loc (lv' := [(3, .int (nI (xx + 1))), (2, .int (nI yy)), (1, .int (nI m0)), (0, .ref (a 0))]) [0, 3, 4, 5] rfl ?_
                            refine KW.asw (congrArg (fun zq => (kMod y a (nI 0) zq dr pa_b (nI U_b) im ikp tx ty sn sm at1 pl tk vl fa pf od_a gv_b mk_b bo bq : va_W)) (show (blkR Sr (cbI (fs (pcl (6 * yy + xx))) xx yy i2 (cbX N fs pcl yy xx (cbY W N fs pcl yy)))) = (blkR Sr (cbX N fs pcl yy (xx + 1) (cbY W N fs pcl yy))) from by rw [show i2 = N from by omega]; rfl)) ?_
                            exact ih_63 (xx + 1) (by first | assumption | omega | (simp; done)) (by omega)
                          ·
                            refine kw_aload_n C 5 dX7_cuts_107 rfl ?_
                            refine kw_get (v := .ref (a 1)) (T := TX7) C 0 1 rfl rfl (by decide) (fun w h => mT (fwX7 w h)) rfl (mT wd_616) rfl dX7_cuts_108 ?_
                            refine kw_bipush (v := nI 51) C dX7_cuts_111 (by decide) ?_
                            refine kw_bipush (v := nI 6) C dX7_cuts_113 (by decide) ?_
                            refine kw_iload C 0 dX7_cuts_115 rfl ?_
                            refine kw_imul C dX7_cuts_117 (kw_top (pk_mul _ _) ?_)
                            refine kw_iadd C dX7_cuts_118 (kw_top (nI_add _ _) ?_)
                            refine kw_iload_n C 3 dX7_cuts_119 rfl ?_
                            refine kw_iadd C dX7_cuts_120 (kw_top (nI_add _ _) ?_)
                            refine kw_dup2_11 C dX7_cuts_121 rfl rfl ?_
                            refine kw_iald (f := blkR Sr (cbI (fs (pcl (6 * yy + xx))) xx yy i2 (cbX N fs pcl yy xx (cbY W N fs pcl yy)))) C 1 rfl (by omega) (by decide) dX7_cuts_122 ?_
                            refine kw_top (show ((blkR Sr (cbI (fs (pcl (6 * yy + xx))) xx yy i2 (cbX N fs pcl yy xx (cbY W N fs pcl yy)))) ((51 + (6 * i2)) + yy)) = (nI (cbI (fs (pcl (6 * yy + xx))) xx yy i2 (cbX N fs pcl yy xx (cbY W N fs pcl yy)) (6 * i2 + yy))) from by rw [show 51 + 6 * i2 + yy = 51 + (6 * i2 + yy) from by omega]; exact blkR_b (by omega)) ?_
                            refine kw_iload C 1 dX7_cuts_123 rfl ?_
                            refine kw_iload C 0 dX7_cuts_125 rfl ?_
                            refine kw_ishr C dX7_cuts_127 (kw_top (n_shr (by first | omega | (have := hf.1; omega)) (by first | omega | (have := hf.1; omega))) ?_)
                            refine kw_iconst (v := nI 1) C dX7_cuts_128 (by decide) ?_
                            refine kw_iand C dX7_cuts_129 (kw_top (n_and _ _) ?_)
                            refine kw_iload_n C 2 dX7_cuts_130 rfl ?_
                            refine kw_ishl C dX7_cuts_131 (kw_top (n_shl (by first | omega | exact sh1_lt _ _ (by omega)) (by first | omega | exact sh1_lt _ _ (by omega))) ?_)
                            refine kw_ior C dX7_cuts_132 (kw_top (n_or _ _) ?_)
                            refine kw_iast C 1 (kMod y a (nI 0) (upd (blkR Sr (cbI (fs (pcl (6 * yy + xx))) xx yy i2 (cbX N fs pcl yy xx (cbY W N fs pcl yy)))) ((51 + (6 * i2)) + yy) (nI ((cbI (fs (pcl (6 * yy + xx))) xx yy i2 (cbX N fs pcl yy xx (cbY W N fs pcl yy)) (6 * i2 + yy)) ||| ((((fs (pcl (6 * yy + xx))) / 2 ^ i2) &&& 1) * 2 ^ xx)))) dr pa_b (nI U_b) im ikp tx ty sn sm at1 pl tk vl fa pf od_a gv_b mk_b bo bq) rfl (by omega) (by decide) dX7_cuts_133 rfl ?_
                            refine kw_iinc (v := nI (i2 + 1)) C [(5, .int (nI (i2 + 1))), (4, .int (nI (fs (pcl (6 * yy + xx))))), (3, .int (nI xx)), (2, .int (nI yy)), (1, .int (nI m0)), (0, .ref (a 0))] 0 dX7_cuts_134 rfl (nI_1 _) (by decide) rfl ?_
                            refine kw_goto (tgt := 96) C dX7_cuts_137 (by decide) ?_
                            refine KW.loc (lv' := [(5, .int (nI (i2 + 1))), (4, .int (nI (fs (pcl (6 * yy + xx))))), (3, .int (nI xx)), (2, .int (nI yy)), (1, .int (nI m0)), (0, .ref (a 0))]) [0, 1, 2, 3, 4, 5] rfl ?_
                            refine KW.asw (congrArg (fun zq => (kMod y a (nI 0) zq dr pa_b (nI U_b) im ikp tx ty sn sm at1 pl tk vl fa pf od_a gv_b mk_b bo bq : va_W)) (show (upd (blkR Sr (cbI (fs (pcl (6 * yy + xx))) xx yy i2 (cbX N fs pcl yy xx (cbY W N fs pcl yy)))) ((51 + (6 * i2)) + yy) (nI ((cbI (fs (pcl (6 * yy + xx))) xx yy i2 (cbX N fs pcl yy xx (cbY W N fs pcl yy)) (6 * i2 + yy)) ||| ((((fs (pcl (6 * yy + xx))) / 2 ^ i2) &&& 1) * 2 ^ xx)))) = (blkR Sr (cbI (fs (pcl (6 * yy + xx))) xx yy (i2 + 1) (cbX N fs pcl yy xx (cbY W N fs pcl yy)))) from by rw [show 51 + 6 * i2 + yy = 51 + (6 * i2 + yy) from by omega, blkR_up _ _ (by omega)]; rfl)) ?_
                            exact ih_96 (i2 + 1) (by first | assumption | omega | (simp; done)) (by omega)
                      refine KW.loc (lv' := [(5, .int (nI 0)), (4, .int (nI (fs (pcl (6 * yy + xx))))), (3, .int (nI xx)), (2, .int (nI yy)), (1, .int (nI m0)), (0, .ref (a 0))]) [0, 1, 2, 3, 4, 5] rfl ?_
                      refine KW.asw (congrArg (fun zq => (kMod y a (nI 0) zq dr pa_b (nI U_b) im ikp tx ty sn sm at1 pl tk vl fa pf od_a gv_b mk_b bo bq : va_W)) (show (blkR Sr (cbX N fs pcl yy xx (cbY W N fs pcl yy))) = (blkR Sr (cbI (fs (pcl (6 * yy + xx))) xx yy 0 (cbX N fs pcl yy xx (cbY W N fs pcl yy)))) from by rfl)) ?_
                      exact L96_9 (N - 0 + 1) 0 (by first | assumption | omega | (simp; done)) (Nat.lt_succ_self _)
                refine KW.loc (lv' := [(3, .int (nI 0)), (2, .int (nI yy)), (1, .int (nI m0)), (0, .ref (a 0))]) [0, 1, 2, 3] rfl ?_
                refine KW.asw (congrArg (fun zq => (kMod y a (nI 0) zq dr pa_b (nI U_b) im ikp tx ty sn sm at1 pl tk vl fa pf od_a gv_b mk_b bo bq : va_W)) (show (blkR Sr (cbY W N fs pcl yy)) = (blkR Sr (cbX N fs pcl yy 0 (cbY W N fs pcl yy))) from by rfl)) ?_
                exact L63_7 (W - 0 + 1) 0 (by first | assumption | omega | (simp; done)) (Nat.lt_succ_self _)
          refine KW.loc (lv' := [(2, .int (nI 0)), (1, .int (nI m0)), (0, .ref (a 0))]) [0, 1, 2] rfl ?_
          refine KW.asw (congrArg (fun zq => (kMod y a (nI 0) zq dr pa_b (nI U_b) im ikp tx ty sn sm at1 pl tk vl fa pf od_a gv_b mk_b bo bq : va_W)) (show (blkR Sr (fun _ => 0)) = (blkR Sr (cbY W N fs pcl 0)) from by rfl)) ?_
          exact L51_5 (H - 0 + 1) 0 (by first | assumption | omega | (simp; done)) (Nat.lt_succ_self _)
        ·
          refine kw_aload_n C 2 dX7_cuts_36 rfl ?_
          refine kw_get (v := .ref (a 1)) (T := TX7) C 0 1 rfl rfl (by decide) (fun w h => mT (fwX7 w h)) rfl (mT wd_616) rfl dX7_cuts_37 ?_
          refine kw_iload_n C 0 dX7_cuts_40 rfl ?_
          refine kw_iconst (v := nI 0) C dX7_cuts_41 (by decide) ?_
          refine kw_iast C 1 (kMod y a (nI 0) (upd f0 i (nI 0)) dr pa_b (nI U_b) im ikp tx ty sn sm at1 pl tk vl fa pf od_a gv_b mk_b bo bq) rfl (by omega) (by decide) dX7_cuts_42 rfl ?_
          refine kw_iinc (v := nI (i + 1)) C [(2, .int (nI (i + 1))), (1, .int (nI m0)), (0, .ref (a 0))] 0 dX7_cuts_43 rfl (nI_1 _) (by decide) rfl ?_
          refine kw_goto (tgt := 30) C dX7_cuts_46 (by decide) ?_
          refine KW.loc (lv' := [(2, .int (nI (i + 1))), (1, .int (nI m0)), (0, .ref (a 0))]) [0, 1, 2] rfl ?_
          exact ih_30 (i + 1) (upd f0 i (nI 0)) (by first | assumption | omega | (simp; done)) (by first | assumption | omega | (simp; done)) (by exact cz_step hi1 hf0) (by omega)
    refine KW.loc (lv' := [(2, .int (nI 51)), (1, .int (nI m0)), (0, .ref (a 0))]) [0, 1, 2] rfl ?_
    exact L30_4 (99 - 51 + 1) 51 Sr (by first | assumption | omega | (simp; done)) (by first | assumption | omega | (simp; done)) (by intro z; rw [if_neg (by omega)]) (Nat.lt_succ_self _)
  ·
    exact absurd c_17 (nI_ne9 (by omega))

set_option maxHeartbeats 4000000 in
set_option maxRecDepth 100000 in
theorem c_X7_made_bad (l : Launch) (G : va_G) (y : Nat → ClassId) (t : Nat) (a : Nat → Nat) (th : Int32) (Sr : Nat → Int32) (dr : Nat → Int32) (pa : Nat → Int32) (um : Int32) (im : Nat → Int32) (ikp : Nat → Int32) (tx : Nat → Int32) (ty : Int32) (sn : Nat → Int32) (sm : Int32) (at1 : Int32) (pl : Int32) (tk : Int32) (vl : Int32) (fa : Int32) (pf : Nat → Int32) (odr : Nat → Int32) (gv : Nat → Int32) (mk : Nat → Int32) (bo : Nat → Int32) (bq : Nat → Int32) (i : Int32) (W : Nat) (H : Nat) (N : Nat) (pcl : Nat → Nat) (ik : Nat → Nat) (o : Nat → Nat) (bk : Nat → Nat) (kk : Nat → Nat) (hR : RowOk Sr W H N pcl ik o bk kk) (hb : ¬ inR i (2 ^ N)) (sz : Nat) : Met l yX7_made (Cond.code yX7_made cX7_made 2 (some .int) :: TG) ({ frames := 1, cells := 0, slots := 0, locals := 22 }) (va_Pc [.ref (a 0), .int i] (PR G y t (kMod y a th Sr dr pa um im ikp tx ty sn sm at1 pl tk vl fa pf odr gv mk bo bq) sz)) (va_Qi (fun (r : Int32) (u : Unit) => r = (-1)) (fun (u : Unit) t => PO G (va_A (kMod y a th Sr dr pa um im ikp tx ty sn sm at1 pl tk vl fa pf odr gv mk bo bq) sz) (kMod y a (nI 0) Sr dr pa um im ikp tx ty sn sm at1 pl tk vl fa pf odr gv mk bo bq) t) (va_A (kMod y a th Sr dr pa um im ikp tx ty sn sm at1 pl tk vl fa pf odr gv mk bo bq) sz)) 0 0 (va_A (kMod y a th Sr dr pa um im ikp tx ty sn sm at1 pl tk vl fa pf odr gv mk bo bq) sz) := by
  refine kMet (cc := cX7_made) (maxL := 2) (ret := some .int) (Qc := fun A => va_Qi (fun (r : Int32) (u : Unit) => r = (-1)) (fun (u : Unit) t => PO G A (kMod y a (nI 0) Sr dr pa um im ikp tx ty sn sm at1 pl tk vl fa pf odr gv mk bo bq) t) A) (by decide) rfl (Nat.le_of_ble_eq_true rfl) (fun p e s m below meth c A hsz C hin => ?_)
  obtain ⟨hS0, hS1, hS2, hW, hH, hN, hpic, hink, hord, hblk, hdx⟩ := id hR
  have h64 := pow6 hN
  refine KW.loc (lv' := [(0, .ref (a 0)), (1, .int i)]) [0, 1] rfl ?_
  refine kw_aload_n C 0 dX7_made_0 rfl ?_
  refine kw_iconst (v := nI 0) C dX7_made_1 (by decide) ?_
  refine kw_put (T := TX7) (ty := .int) C 0 0 (kMod y a (nI 0) Sr dr pa um im ikp tx ty sn sm at1 pl tk vl fa pf odr gv mk bo bq) rfl rfl (by decide) (fun w h => mT (fwX7 w h)) tyX7 tyX7_ok nmX7 rfl (mT wd_615) rfl (by decide +kernel) rfl rfl (Nat.le_of_ble_eq_true rfl) dX7_made_2 rfl ?_
  refine kw_iload_n C 1 dX7_made_5 rfl ?_
  refine kw_iconst (v := nI 0) C dX7_made_6 (by decide) ?_
  refine kw_iconst (v := nI 1) C dX7_made_7 (by decide) ?_
  refine kw_aload_n C 0 dX7_made_8 rfl ?_
  refine kw_get (v := .ref (a 1)) (T := TX7) C 0 1 rfl rfl (by decide) (fun w h => mT (fwX7 w h)) rfl (mT wd_616) rfl dX7_made_9 ?_
  refine kw_iconst (v := nI 2) C dX7_made_12 (by decide) ?_
  refine kw_iald (f := Sr) C 1 rfl (by omega) (by decide) dX7_made_13 ?_
  refine kw_top (show (Sr 2) = (nI N) from by exact hS2) ?_
  refine kw_ishl C dX7_made_14 (kw_top (n_shl1 (by omega)) ?_)
  refine kw_iconst (v := nI 1) C dX7_made_15 (by decide) ?_
  refine kw_isub C dX7_made_16 ?_
  refine kS_i (As := [.int i, .int (nI 0), .int ((nI (2 ^ N)) - (nI 1))]) (rest := []) (ws' := fun (u : Unit) => kMod y a (nI 0) Sr dr pa um im ikp tx ty sn sm at1 pl tk vl fa pf odr gv mk bo bq) C (c_X7_in l G y t i (nI 0) ((nI (2 ^ N)) - (nI 1))) (va_cwS 3 C.2.2.2.2.1 (goodS cT wd_688 wd_686 wd_687 wd_48) rfl rfl rfl (by decide +kernel) ⟨by decide, by decide⟩) [] [0, 1, 2, 3, 4, 5, 6, 7, 8, 9, 10, 11, 12, 13] [0, 1, 2, 3, 4, 5, 6, 7, 8, 9, 10, 11, 12, 13] rfl (by decide) rfl (by decide) (by decide) (fun _ => rfl) (by decide) rfl (Nat.le_of_ble_eq_true rfl) ⟨by decide, by decide⟩ dX7_made_17 (fun r u hr_1 => ?_)
  subst hr_1
  refine kw_if_ne_D (tgt := 25) C dX7_made_20 (by decide) (fun c_20 => ?_) (fun c_20 => ?_)
  ·
    exact absurd ((in_R (by omega)).mp c_20) hb
  ·
    refine kw_iconst (v := (-1)) C dX7_made_23 (by decide) ?_
    refine kR_i C () dX7_made_24 ?_ rfl
    first | rfl | trivial | (simp; done) | omega

set_option maxHeartbeats 4000000 in
set_option maxRecDepth 100000 in
theorem c_X7_made_ok (l : Launch) (G : va_G) (y : Nat → ClassId) (t : Nat) (a : Nat → Nat) (th : Int32) (Sr : Nat → Int32) (dr : Nat → Int32) (pa : Nat → Int32) (um : Int32) (im : Nat → Int32) (ikp : Nat → Int32) (tx : Nat → Int32) (ty : Int32) (sn : Nat → Int32) (sm : Int32) (at1 : Int32) (pl : Int32) (tk : Int32) (vl : Int32) (fa : Int32) (pf : Nat → Int32) (odr : Nat → Int32) (gv : Nat → Int32) (mk : Nat → Int32) (bo : Nat → Int32) (bq : Nat → Int32) (set : Nat) (W : Nat) (H : Nat) (N : Nat) (pcl : Nat → Nat) (ik : Nat → Nat) (o : Nat → Nat) (bk : Nat → Nat) (kk : Nat → Nat) (hR : RowOk Sr W H N pcl ik o bk kk) (hset : set < 2 ^ N) (sz : Nat) : Met l yX7_made (Cond.code yX7_made cX7_made 2 (some .int) :: TG) ({ frames := 2, cells := 0, slots := 0, locals := 44 }) (va_Pc [.ref (a 0), .int (nI set)] (PR G y t (kMod y a th Sr dr pa um im ikp tx ty sn sm at1 pl tk vl fa pf odr gv mk bo bq) sz)) (va_Qi (fun (r : Int32) (u : (Nat → Int32) × (Nat → Int32) × (Nat → Int32)) => r = (nI (mkP (fun z => gvF o ik z N) set (set + 1)))) (fun (u : (Nat → Int32) × (Nat → Int32) × (Nat → Int32)) t => PO G (va_A (kMod y a th Sr dr pa um im ikp tx ty sn sm at1 pl tk vl fa pf odr gv mk bo bq) sz) (kMod y a (nI 0) Sr dr pa um im ikp tx ty sn sm at1 pl tk vl fa pf u.1 u.2.1 u.2.2 bo bq) t) (va_A (kMod y a th Sr dr pa um im ikp tx ty sn sm at1 pl tk vl fa pf odr gv mk bo bq) sz)) 0 0 (va_A (kMod y a th Sr dr pa um im ikp tx ty sn sm at1 pl tk vl fa pf odr gv mk bo bq) sz) := by
  refine kMet (cc := cX7_made) (maxL := 2) (ret := some .int) (Qc := fun A => va_Qi (fun (r : Int32) (u : (Nat → Int32) × (Nat → Int32) × (Nat → Int32)) => r = (nI (mkP (fun z => gvF o ik z N) set (set + 1)))) (fun (u : (Nat → Int32) × (Nat → Int32) × (Nat → Int32)) t => PO G A (kMod y a (nI 0) Sr dr pa um im ikp tx ty sn sm at1 pl tk vl fa pf u.1 u.2.1 u.2.2 bo bq) t) A) (by decide) rfl (Nat.le_of_ble_eq_true rfl) (fun p e s m below meth c A hsz C hin => ?_)
  obtain ⟨hS0, hS1, hS2, hW, hH, hN, hpic, hink, hord, hblk, hdx⟩ := id hR
  have h64 := pow6 hN
  refine KW.loc (lv' := [(0, .ref (a 0)), (1, .int (nI set))]) [0, 1] rfl ?_
  refine kw_aload_n C 0 dX7_made_0 rfl ?_
  refine kw_iconst (v := nI 0) C dX7_made_1 (by decide) ?_
  refine kw_put (T := TX7) (ty := .int) C 0 0 (kMod y a (nI 0) Sr dr pa um im ikp tx ty sn sm at1 pl tk vl fa pf odr gv mk bo bq) rfl rfl (by decide) (fun w h => mT (fwX7 w h)) tyX7 tyX7_ok nmX7 rfl (mT wd_615) rfl (by decide +kernel) rfl rfl (Nat.le_of_ble_eq_true rfl) dX7_made_2 rfl ?_
  refine kw_iload_n C 1 dX7_made_5 rfl ?_
  refine kw_iconst (v := nI 0) C dX7_made_6 (by decide) ?_
  refine kw_iconst (v := nI 1) C dX7_made_7 (by decide) ?_
  refine kw_aload_n C 0 dX7_made_8 rfl ?_
  refine kw_get (v := .ref (a 1)) (T := TX7) C 0 1 rfl rfl (by decide) (fun w h => mT (fwX7 w h)) rfl (mT wd_616) rfl dX7_made_9 ?_
  refine kw_iconst (v := nI 2) C dX7_made_12 (by decide) ?_
  refine kw_iald (f := Sr) C 1 rfl (by omega) (by decide) dX7_made_13 ?_
  refine kw_top (show (Sr 2) = (nI N) from by exact hS2) ?_
  refine kw_ishl C dX7_made_14 (kw_top (n_shl1 (by omega)) ?_)
  refine kw_iconst (v := nI 1) C dX7_made_15 (by decide) ?_
  refine kw_isub C dX7_made_16 ?_
  refine kS_i (As := [.int (nI set), .int (nI 0), .int ((nI (2 ^ N)) - (nI 1))]) (rest := []) (ws' := fun (u : Unit) => kMod y a (nI 0) Sr dr pa um im ikp tx ty sn sm at1 pl tk vl fa pf odr gv mk bo bq) C (c_X7_in l G y t (nI set) (nI 0) ((nI (2 ^ N)) - (nI 1))) (va_cwS 3 C.2.2.2.2.1 (goodS cT wd_688 wd_686 wd_687 wd_48) rfl rfl rfl (by decide +kernel) ⟨by decide, by decide⟩) [] [0, 1, 2, 3, 4, 5, 6, 7, 8, 9, 10, 11, 12, 13] [0, 1, 2, 3, 4, 5, 6, 7, 8, 9, 10, 11, 12, 13] rfl (by decide) rfl (by decide) (by decide) (fun _ => rfl) (by decide) rfl (Nat.le_of_ble_eq_true rfl) ⟨by decide, by decide⟩ dX7_made_17 (fun r u hr_1 => ?_)
  subst hr_1
  refine kw_if_ne_D (tgt := 25) C dX7_made_20 (by decide) (fun c_20 => ?_) (fun c_20 => ?_)
  ·
    refine kw_aload_n C 0 dX7_made_25 rfl ?_
    refine kV_v (As := []) (rest := []) (ws' := fun (u : Nat → Int32) => kMod y a (nI 0) Sr dr pa um im ikp tx ty sn sm at1 pl tk vl fa pf u gv mk bo bq) C (c_X7_asOrdered l G y t a (nI 0) Sr dr pa um im ikp tx ty sn sm at1 pl tk vl fa pf odr gv mk bo bq W H N pcl ik o bk kk (by exact hR)) (cwV 0 C.2.2.2.2.1 (goodV cT wd_736 wd_733 wd_735 wd_21 wd_48) rfl rfl rfl (by decide +kernel) ⟨by decide, by decide⟩) [0, 1, 2, 3, 4, 5, 6, 7, 8, 9, 10, 11, 12, 13] [] [0, 1, 2, 3, 4, 5, 6, 7, 8, 9, 10, 11, 12, 13] rfl (by decide) rfl (by decide) (by decide) (fun _ => rfl) (by decide) 0 rfl rfl rfl (Nat.le_of_ble_eq_true rfl) ⟨by decide, by decide⟩ dX7_made_26 (fun u hr_2 => ?_)
    obtain ⟨od_a, ehr_2⟩ : ∃ z, z = u := ⟨u, rfl⟩
    subst ehr_2
    have hao := hr_2
    refine kw_aload_n C 0 dX7_made_29 rfl ?_
    refine kV_v (As := []) (rest := []) (ws' := fun (u : (Nat → Int32) × (Nat → Int32)) => kMod y a (nI 0) Sr dr pa um im ikp tx ty sn sm at1 pl tk vl fa pf od_a u.1 u.2 bo bq) C (c_X7_mixes l G y t a (nI 0) Sr dr pa um im ikp tx ty sn sm at1 pl tk vl fa pf od_a gv mk bo bq o W H N pcl ik o bk kk (by exact hR) (by intro q hq; rw [hao q (by omega)]; exact hord q hq)) (cwV 0 C.2.2.2.2.1 (goodV cT wd_744 wd_741 wd_743 wd_23 wd_48) rfl rfl rfl (by decide +kernel) ⟨by decide, by decide⟩) [0, 1, 2, 3, 4, 5, 6, 7, 8, 9, 10, 11, 12, 13] [] [0, 1, 2, 3, 4, 5, 6, 7, 8, 9, 10, 11, 12, 13] rfl (by decide) rfl (by decide) (by decide) (fun _ => rfl) (by decide) 0 rfl rfl rfl (Nat.le_of_ble_eq_true rfl) ⟨by decide, by decide⟩ dX7_made_30 (fun u hr_3 => ?_)
    obtain ⟨gv_b, mk_b⟩ := u
    try dsimp only at hr_3
    have hmx := hr_3
    refine kw_aload_n C 0 dX7_made_33 rfl ?_
    refine kw_get (v := .ref (a 11)) (T := TX7) C 0 19 rfl rfl (by decide) (fun w h => mT (fwX7 w h)) rfl (mT wd_634) rfl dX7_made_34 ?_
    refine kw_iload_n C 1 dX7_made_37 rfl ?_
    refine kw_iald (f := mk_b) C 11 rfl (by omega) (by decide) dX7_made_38 ?_
    refine kw_top (show (mk_b set) = (nI (mkP (fun z => gvF o ik z N) set (set + 1))) from by exact hmx.2 set hset) ?_
    refine kR_i C (od_a, gv_b, mk_b) dX7_made_39 ?_ rfl
    first | rfl | trivial | (simp; done) | omega
  ·
    exact absurd ((in_R (by omega)).mpr (inR_of hset (by omega))) c_20

set_option maxHeartbeats 4000000 in
set_option maxRecDepth 100000 in
theorem c_X7_least_bad (l : Launch) (G : va_G) (y : Nat → ClassId) (t : Nat) (a : Nat → Nat) (th : Int32) (Sr : Nat → Int32) (dr : Nat → Int32) (pa : Nat → Int32) (um : Int32) (im : Nat → Int32) (ikp : Nat → Int32) (tx : Nat → Int32) (ty : Int32) (sn : Nat → Int32) (sm : Int32) (at1 : Int32) (pl : Int32) (tk : Int32) (vl : Int32) (fa : Int32) (pf : Nat → Int32) (odr : Nat → Int32) (gv : Nat → Int32) (mk : Nat → Int32) (bo : Nat → Int32) (bq : Nat → Int32) (i : Int32) (hb : ¬ inR i 2) (sz : Nat) : Met l yX7_least (Cond.code yX7_least cX7_least 3 (some .int) :: TG) ({ frames := 1, cells := 0, slots := 0, locals := 22 }) (va_Pc [.ref (a 0), .int i] (PR G y t (kMod y a th Sr dr pa um im ikp tx ty sn sm at1 pl tk vl fa pf odr gv mk bo bq) sz)) (va_Qi (fun (r : Int32) (u : Unit) => r = (-1)) (fun (u : Unit) t => PO G (va_A (kMod y a th Sr dr pa um im ikp tx ty sn sm at1 pl tk vl fa pf odr gv mk bo bq) sz) (kMod y a (nI 0) Sr dr pa um im ikp tx ty sn sm at1 pl tk vl fa pf odr gv mk bo bq) t) (va_A (kMod y a th Sr dr pa um im ikp tx ty sn sm at1 pl tk vl fa pf odr gv mk bo bq) sz)) 0 0 (va_A (kMod y a th Sr dr pa um im ikp tx ty sn sm at1 pl tk vl fa pf odr gv mk bo bq) sz) := by
  refine kMet (cc := cX7_least) (maxL := 3) (ret := some .int) (Qc := fun A => va_Qi (fun (r : Int32) (u : Unit) => r = (-1)) (fun (u : Unit) t => PO G A (kMod y a (nI 0) Sr dr pa um im ikp tx ty sn sm at1 pl tk vl fa pf odr gv mk bo bq) t) A) (by decide) rfl (Nat.le_of_ble_eq_true rfl) (fun p e s m below meth c A hsz C hin => ?_)
  refine KW.loc (lv' := [(0, .ref (a 0)), (1, .int i)]) [0, 1] rfl ?_
  refine kw_aload_n C 0 dX7_least_0 rfl ?_
  refine kw_iconst (v := nI 0) C dX7_least_1 (by decide) ?_
  refine kw_put (T := TX7) (ty := .int) C 0 0 (kMod y a (nI 0) Sr dr pa um im ikp tx ty sn sm at1 pl tk vl fa pf odr gv mk bo bq) rfl rfl (by decide) (fun w h => mT (fwX7 w h)) tyX7 tyX7_ok nmX7 rfl (mT wd_615) rfl (by decide +kernel) rfl rfl (Nat.le_of_ble_eq_true rfl) dX7_least_2 rfl ?_
  refine kw_iload_n C 1 dX7_least_5 rfl ?_
  refine kw_iconst (v := nI 0) C dX7_least_6 (by decide) ?_
  refine kw_iconst (v := nI 1) C dX7_least_7 (by decide) ?_
  refine kS_i (As := [.int i, .int (nI 0), .int (nI 1)]) (rest := []) (ws' := fun (u : Unit) => kMod y a (nI 0) Sr dr pa um im ikp tx ty sn sm at1 pl tk vl fa pf odr gv mk bo bq) C (c_X7_in l G y t i (nI 0) (nI 1)) (va_cwS 3 C.2.2.2.2.1 (goodS cT wd_688 wd_686 wd_687 wd_48) rfl rfl rfl (by decide +kernel) ⟨by decide, by decide⟩) [] [0, 1, 2, 3, 4, 5, 6, 7, 8, 9, 10, 11, 12, 13] [0, 1, 2, 3, 4, 5, 6, 7, 8, 9, 10, 11, 12, 13] rfl (by decide) rfl (by decide) (by decide) (fun _ => rfl) (by decide) rfl (Nat.le_of_ble_eq_true rfl) ⟨by decide, by decide⟩ dX7_least_8 (fun r u hr_1 => ?_)
  subst hr_1
  refine kw_if_ne_D (tgt := 16) C dX7_least_11 (by decide) (fun c_11 => ?_) (fun c_11 => ?_)
  ·
    exact absurd ((in_R1 (by decide)).mp c_11) hb
  ·
    refine kw_iconst (v := (-1)) C dX7_least_14 (by decide) ?_
    refine kR_i C () dX7_least_15 ?_ rfl
    first | rfl | trivial | (simp; done) | omega

set_option maxHeartbeats 4000000 in
set_option maxRecDepth 100000 in
theorem c_X7_least_0 (l : Launch) (G : va_G) (y : Nat → ClassId) (t : Nat) (a : Nat → Nat) (th : Int32) (Sr : Nat → Int32) (dr : Nat → Int32) (pa : Nat → Int32) (um : Int32) (im : Nat → Int32) (ikp : Nat → Int32) (tx : Nat → Int32) (ty : Int32) (sn : Nat → Int32) (sm : Int32) (at1 : Int32) (pl : Int32) (tk : Int32) (vl : Int32) (fa : Int32) (pf : Nat → Int32) (odr : Nat → Int32) (gv : Nat → Int32) (mk : Nat → Int32) (bo : Nat → Int32) (bq : Nat → Int32) (W : Nat) (H : Nat) (N : Nat) (pcl : Nat → Nat) (ik : Nat → Nat) (o : Nat → Nat) (bk : Nat → Nat) (kk : Nat → Nat) (hR : RowOk Sr W H N pcl ik o bk kk) (sz : Nat) : Met l yX7_least (Cond.code yX7_least cX7_least 3 (some .int) :: TG) ({ frames := 3, cells := 0, slots := 0, locals := 68 }) (va_Pc [.ref (a 0), .int (nI 0)] (PR G y t (kMod y a th Sr dr pa um im ikp tx ty sn sm at1 pl tk vl fa pf odr gv mk bo bq) sz)) (va_Qi (fun (r : Int32) (u : (Nat → Int32) × (Nat → Int32) × (Nat → Int32)) => r = (if lsM (wtY pcl W H) (fun z => mkP (fun z => gvF o ik z N) z (z + 1)) (2 ^ N) = -9 then lsM (wtY pcl W H) (fun z => mkP (fun z => gvF o ik z N) z (z + 1)) (2 ^ N) else onI (lsM (wtY pcl W H) (fun z => mkP (fun z => gvF o ik z N) z (z + 1)) (2 ^ N)) 8)) (fun (u : (Nat → Int32) × (Nat → Int32) × (Nat → Int32)) t => PO G (va_A (kMod y a th Sr dr pa um im ikp tx ty sn sm at1 pl tk vl fa pf odr gv mk bo bq) sz) (kMod y a (nI 0) Sr dr pa um im ikp tx ty sn sm at1 pl tk vl fa pf u.1 u.2.1 u.2.2 bo bq) t) (va_A (kMod y a th Sr dr pa um im ikp tx ty sn sm at1 pl tk vl fa pf odr gv mk bo bq) sz)) 0 0 (va_A (kMod y a th Sr dr pa um im ikp tx ty sn sm at1 pl tk vl fa pf odr gv mk bo bq) sz) := by
  refine kMet (cc := cX7_least) (maxL := 3) (ret := some .int) (Qc := fun A => va_Qi (fun (r : Int32) (u : (Nat → Int32) × (Nat → Int32) × (Nat → Int32)) => r = (if lsM (wtY pcl W H) (fun z => mkP (fun z => gvF o ik z N) z (z + 1)) (2 ^ N) = -9 then lsM (wtY pcl W H) (fun z => mkP (fun z => gvF o ik z N) z (z + 1)) (2 ^ N) else onI (lsM (wtY pcl W H) (fun z => mkP (fun z => gvF o ik z N) z (z + 1)) (2 ^ N)) 8)) (fun (u : (Nat → Int32) × (Nat → Int32) × (Nat → Int32)) t => PO G A (kMod y a (nI 0) Sr dr pa um im ikp tx ty sn sm at1 pl tk vl fa pf u.1 u.2.1 u.2.2 bo bq) t) A) (by decide) rfl (Nat.le_of_ble_eq_true rfl) (fun p e s m below meth c A hsz C hin => ?_)
  obtain ⟨hS0, hS1, hS2, hW, hH, hN, hpic, hink, hord, hblk, hdx⟩ := id hR
  refine KW.loc (lv' := [(0, .ref (a 0)), (1, .int (nI 0))]) [0, 1] rfl ?_
  refine kw_aload_n C 0 dX7_least_0 rfl ?_
  refine kw_iconst (v := nI 0) C dX7_least_1 (by decide) ?_
  refine kw_put (T := TX7) (ty := .int) C 0 0 (kMod y a (nI 0) Sr dr pa um im ikp tx ty sn sm at1 pl tk vl fa pf odr gv mk bo bq) rfl rfl (by decide) (fun w h => mT (fwX7 w h)) tyX7 tyX7_ok nmX7 rfl (mT wd_615) rfl (by decide +kernel) rfl rfl (Nat.le_of_ble_eq_true rfl) dX7_least_2 rfl ?_
  refine kw_iload_n C 1 dX7_least_5 rfl ?_
  refine kw_iconst (v := nI 0) C dX7_least_6 (by decide) ?_
  refine kw_iconst (v := nI 1) C dX7_least_7 (by decide) ?_
  refine kS_i (As := [.int (nI 0), .int (nI 0), .int (nI 1)]) (rest := []) (ws' := fun (u : Unit) => kMod y a (nI 0) Sr dr pa um im ikp tx ty sn sm at1 pl tk vl fa pf odr gv mk bo bq) C (c_X7_in l G y t (nI 0) (nI 0) (nI 1)) (va_cwS 3 C.2.2.2.2.1 (goodS cT wd_688 wd_686 wd_687 wd_48) rfl rfl rfl (by decide +kernel) ⟨by decide, by decide⟩) [] [0, 1, 2, 3, 4, 5, 6, 7, 8, 9, 10, 11, 12, 13] [0, 1, 2, 3, 4, 5, 6, 7, 8, 9, 10, 11, 12, 13] rfl (by decide) rfl (by decide) (by decide) (fun _ => rfl) (by decide) rfl (Nat.le_of_ble_eq_true rfl) ⟨by decide, by decide⟩ dX7_least_8 (fun r u hr_1 => ?_)
  subst hr_1
  refine kw_if_ne_D (tgt := 16) C dX7_least_11 (by decide) (fun c_11 => ?_) (fun c_11 => ?_)
  ·
    refine kw_aload_n C 0 dX7_least_16 rfl ?_
    refine kV_v (As := []) (rest := []) (ws' := fun (u : Nat → Int32) => kMod y a (nI 0) Sr dr pa um im ikp tx ty sn sm at1 pl tk vl fa pf u gv mk bo bq) C (c_X7_asOrdered l G y t a (nI 0) Sr dr pa um im ikp tx ty sn sm at1 pl tk vl fa pf odr gv mk bo bq W H N pcl ik o bk kk (by exact hR)) (cwV 0 C.2.2.2.2.1 (goodV cT wd_736 wd_733 wd_735 wd_21 wd_48) rfl rfl rfl (by decide +kernel) ⟨by decide, by decide⟩) [0, 1, 2, 3, 4, 5, 6, 7, 8, 9, 10, 11, 12, 13] [] [0, 1, 2, 3, 4, 5, 6, 7, 8, 9, 10, 11, 12, 13] rfl (by decide) rfl (by decide) (by decide) (fun _ => rfl) (by decide) 0 rfl rfl rfl (Nat.le_of_ble_eq_true rfl) ⟨by decide, by decide⟩ dX7_least_17 (fun u hr_2 => ?_)
    obtain ⟨od_a, ehr_2⟩ : ∃ z, z = u := ⟨u, rfl⟩
    subst ehr_2
    have hao := hr_2
    refine kw_aload_n C 0 dX7_least_20 rfl ?_
    refine kV_i (As := []) (rest := []) (ws' := fun (u : (Nat → Int32) × (Nat → Int32)) => kMod y a (nI 0) Sr dr pa um im ikp tx ty sn sm at1 pl tk vl fa pf od_a u.1 u.2 bo bq) C (c_X7_leastSet l G y t a (nI 0) Sr dr pa um im ikp tx ty sn sm at1 pl tk vl fa pf od_a gv mk bo bq o W H N pcl ik o bk kk (by exact hR) (by intro q hq; rw [hao q (by omega)]; exact hord q hq)) (cwV 0 C.2.2.2.2.1 (goodV cT wd_740 wd_737 wd_739 wd_22 wd_48) rfl rfl rfl (by decide +kernel) ⟨by decide, by decide⟩) [0, 1, 2, 3, 4, 5, 6, 7, 8, 9, 10, 11, 12, 13] [] [0, 1, 2, 3, 4, 5, 6, 7, 8, 9, 10, 11, 12, 13] rfl (by decide) rfl (by decide) (by decide) (fun _ => rfl) (by decide) 0 rfl rfl rfl (Nat.le_of_ble_eq_true rfl) ⟨by decide, by decide⟩ dX7_least_21 (fun r u hr_3 => ?_)
    obtain ⟨gv_b, mk_b⟩ := u
    try dsimp only at hr_3
    obtain ⟨hq, hmx⟩ := hr_3
    subst hq
    refine kw_istore_n C [(2, .int (lsM (wtY pcl W H) (fun z => mkP (fun z => gvF o ik z N) z (z + 1)) (2 ^ N))), (0, .ref (a 0)), (1, .int (nI 0))] dX7_least_24 rfl (by decide) rfl ?_
    refine kw_iload_n C 0 dX7_least_25 rfl ?_
    refine kw_bipush (v := (-9)) C dX7_least_26 (by decide) ?_
    refine kw_icmp_eq (tgt := 36) C dX7_least_28 (by decide) (fun c_28 => ?_) (fun c_28 => ?_)
    ·
      refine kw_iload_n C 0 dX7_least_36 rfl ?_
      refine kw_goto (tgt := 44) C dX7_least_37 (by decide) ?_
      refine kR_i C (od_a, gv_b, mk_b) dX7_least_44 ?_ rfl
      first | rw [if_pos c_28] | rw [if_neg c_28]
    ·
      refine kw_iload_n C 2 dX7_least_31 rfl ?_
      refine kw_iconst (v := nI 1) C dX7_least_32 (by decide) ?_
      refine kw_icmp_ne_N (tgt := 40) C (by omega) (by omega) dX7_least_33 (by decide) (fun c_33 => ?_) (fun c_33 => ?_)
      ·
        refine kw_iload_n C 0 dX7_least_40 rfl ?_
        refine kS_i (As := [.int (lsM (wtY pcl W H) (fun z => mkP (fun z => gvF o ik z N) z (z + 1)) (2 ^ N))]) (rest := []) (ws' := fun (u : Unit) => kMod y a (nI 0) Sr dr pa um im ikp tx ty sn sm at1 pl tk vl fa pf od_a gv_b mk_b bo bq) C (c_X7_ones l G y t (lsM (wtY pcl W H) (fun z => mkP (fun z => gvF o ik z N) z (z + 1)) (2 ^ N))) (va_cwS 1 C.2.2.2.2.1 (goodS cT wd_754 wd_752 wd_753 wd_48) rfl rfl rfl (by decide +kernel) ⟨by decide, by decide⟩) [] [0, 1, 2, 3, 4, 5, 6, 7, 8, 9, 10, 11, 12, 13] [0, 1, 2, 3, 4, 5, 6, 7, 8, 9, 10, 11, 12, 13] rfl (by decide) rfl (by decide) (by decide) (fun _ => rfl) (by decide) rfl (Nat.le_of_ble_eq_true rfl) ⟨by decide, by decide⟩ dX7_least_41 (fun r u hr_4 => ?_)
        subst hr_4
        refine kR_i C (od_a, gv_b, mk_b) dX7_least_44 ?_ rfl
        first | rw [if_pos c_28] | rw [if_neg c_28]
      ·
        omega
  ·
    exact absurd (by decide) c_11

set_option maxHeartbeats 4000000 in
set_option maxRecDepth 100000 in
theorem c_X7_least_1 (l : Launch) (G : va_G) (y : Nat → ClassId) (t : Nat) (a : Nat → Nat) (th : Int32) (Sr : Nat → Int32) (dr : Nat → Int32) (pa : Nat → Int32) (um : Int32) (im : Nat → Int32) (ikp : Nat → Int32) (tx : Nat → Int32) (ty : Int32) (sn : Nat → Int32) (sm : Int32) (at1 : Int32) (pl : Int32) (tk : Int32) (vl : Int32) (fa : Int32) (pf : Nat → Int32) (odr : Nat → Int32) (gv : Nat → Int32) (mk : Nat → Int32) (bo : Nat → Int32) (bq : Nat → Int32) (W : Nat) (H : Nat) (N : Nat) (pcl : Nat → Nat) (ik : Nat → Nat) (o : Nat → Nat) (bk : Nat → Nat) (kk : Nat → Nat) (hR : RowOk Sr W H N pcl ik o bk kk) (sz : Nat) : Met l yX7_least (Cond.code yX7_least cX7_least 3 (some .int) :: TG) ({ frames := 3, cells := 0, slots := 0, locals := 68 }) (va_Pc [.ref (a 0), .int (nI 1)] (PR G y t (kMod y a th Sr dr pa um im ikp tx ty sn sm at1 pl tk vl fa pf odr gv mk bo bq) sz)) (va_Qi (fun (r : Int32) (u : (Nat → Int32) × (Nat → Int32) × (Nat → Int32)) => r = (lsM (wtY pcl W H) (fun z => mkP (fun z => gvF o ik z N) z (z + 1)) (2 ^ N))) (fun (u : (Nat → Int32) × (Nat → Int32) × (Nat → Int32)) t => PO G (va_A (kMod y a th Sr dr pa um im ikp tx ty sn sm at1 pl tk vl fa pf odr gv mk bo bq) sz) (kMod y a (nI 0) Sr dr pa um im ikp tx ty sn sm at1 pl tk vl fa pf u.1 u.2.1 u.2.2 bo bq) t) (va_A (kMod y a th Sr dr pa um im ikp tx ty sn sm at1 pl tk vl fa pf odr gv mk bo bq) sz)) 0 0 (va_A (kMod y a th Sr dr pa um im ikp tx ty sn sm at1 pl tk vl fa pf odr gv mk bo bq) sz) := by
  refine kMet (cc := cX7_least) (maxL := 3) (ret := some .int) (Qc := fun A => va_Qi (fun (r : Int32) (u : (Nat → Int32) × (Nat → Int32) × (Nat → Int32)) => r = (lsM (wtY pcl W H) (fun z => mkP (fun z => gvF o ik z N) z (z + 1)) (2 ^ N))) (fun (u : (Nat → Int32) × (Nat → Int32) × (Nat → Int32)) t => PO G A (kMod y a (nI 0) Sr dr pa um im ikp tx ty sn sm at1 pl tk vl fa pf u.1 u.2.1 u.2.2 bo bq) t) A) (by decide) rfl (Nat.le_of_ble_eq_true rfl) (fun p e s m below meth c A hsz C hin => ?_)
  obtain ⟨hS0, hS1, hS2, hW, hH, hN, hpic, hink, hord, hblk, hdx⟩ := id hR
  refine KW.loc (lv' := [(0, .ref (a 0)), (1, .int (nI 1))]) [0, 1] rfl ?_
  refine kw_aload_n C 0 dX7_least_0 rfl ?_
  refine kw_iconst (v := nI 0) C dX7_least_1 (by decide) ?_
  refine kw_put (T := TX7) (ty := .int) C 0 0 (kMod y a (nI 0) Sr dr pa um im ikp tx ty sn sm at1 pl tk vl fa pf odr gv mk bo bq) rfl rfl (by decide) (fun w h => mT (fwX7 w h)) tyX7 tyX7_ok nmX7 rfl (mT wd_615) rfl (by decide +kernel) rfl rfl (Nat.le_of_ble_eq_true rfl) dX7_least_2 rfl ?_
  refine kw_iload_n C 1 dX7_least_5 rfl ?_
  refine kw_iconst (v := nI 0) C dX7_least_6 (by decide) ?_
  refine kw_iconst (v := nI 1) C dX7_least_7 (by decide) ?_
  refine kS_i (As := [.int (nI 1), .int (nI 0), .int (nI 1)]) (rest := []) (ws' := fun (u : Unit) => kMod y a (nI 0) Sr dr pa um im ikp tx ty sn sm at1 pl tk vl fa pf odr gv mk bo bq) C (c_X7_in l G y t (nI 1) (nI 0) (nI 1)) (va_cwS 3 C.2.2.2.2.1 (goodS cT wd_688 wd_686 wd_687 wd_48) rfl rfl rfl (by decide +kernel) ⟨by decide, by decide⟩) [] [0, 1, 2, 3, 4, 5, 6, 7, 8, 9, 10, 11, 12, 13] [0, 1, 2, 3, 4, 5, 6, 7, 8, 9, 10, 11, 12, 13] rfl (by decide) rfl (by decide) (by decide) (fun _ => rfl) (by decide) rfl (Nat.le_of_ble_eq_true rfl) ⟨by decide, by decide⟩ dX7_least_8 (fun r u hr_1 => ?_)
  subst hr_1
  refine kw_if_ne_D (tgt := 16) C dX7_least_11 (by decide) (fun c_11 => ?_) (fun c_11 => ?_)
  ·
    refine kw_aload_n C 0 dX7_least_16 rfl ?_
    refine kV_v (As := []) (rest := []) (ws' := fun (u : Nat → Int32) => kMod y a (nI 0) Sr dr pa um im ikp tx ty sn sm at1 pl tk vl fa pf u gv mk bo bq) C (c_X7_asOrdered l G y t a (nI 0) Sr dr pa um im ikp tx ty sn sm at1 pl tk vl fa pf odr gv mk bo bq W H N pcl ik o bk kk (by exact hR)) (cwV 0 C.2.2.2.2.1 (goodV cT wd_736 wd_733 wd_735 wd_21 wd_48) rfl rfl rfl (by decide +kernel) ⟨by decide, by decide⟩) [0, 1, 2, 3, 4, 5, 6, 7, 8, 9, 10, 11, 12, 13] [] [0, 1, 2, 3, 4, 5, 6, 7, 8, 9, 10, 11, 12, 13] rfl (by decide) rfl (by decide) (by decide) (fun _ => rfl) (by decide) 0 rfl rfl rfl (Nat.le_of_ble_eq_true rfl) ⟨by decide, by decide⟩ dX7_least_17 (fun u hr_2 => ?_)
    obtain ⟨od_a, ehr_2⟩ : ∃ z, z = u := ⟨u, rfl⟩
    subst ehr_2
    have hao := hr_2
    refine kw_aload_n C 0 dX7_least_20 rfl ?_
    refine kV_i (As := []) (rest := []) (ws' := fun (u : (Nat → Int32) × (Nat → Int32)) => kMod y a (nI 0) Sr dr pa um im ikp tx ty sn sm at1 pl tk vl fa pf od_a u.1 u.2 bo bq) C (c_X7_leastSet l G y t a (nI 0) Sr dr pa um im ikp tx ty sn sm at1 pl tk vl fa pf od_a gv mk bo bq o W H N pcl ik o bk kk (by exact hR) (by intro q hq; rw [hao q (by omega)]; exact hord q hq)) (cwV 0 C.2.2.2.2.1 (goodV cT wd_740 wd_737 wd_739 wd_22 wd_48) rfl rfl rfl (by decide +kernel) ⟨by decide, by decide⟩) [0, 1, 2, 3, 4, 5, 6, 7, 8, 9, 10, 11, 12, 13] [] [0, 1, 2, 3, 4, 5, 6, 7, 8, 9, 10, 11, 12, 13] rfl (by decide) rfl (by decide) (by decide) (fun _ => rfl) (by decide) 0 rfl rfl rfl (Nat.le_of_ble_eq_true rfl) ⟨by decide, by decide⟩ dX7_least_21 (fun r u hr_3 => ?_)
    obtain ⟨gv_b, mk_b⟩ := u
    try dsimp only at hr_3
    obtain ⟨hq, hmx⟩ := hr_3
    subst hq
    refine kw_istore_n C [(2, .int (lsM (wtY pcl W H) (fun z => mkP (fun z => gvF o ik z N) z (z + 1)) (2 ^ N))), (0, .ref (a 0)), (1, .int (nI 1))] dX7_least_24 rfl (by decide) rfl ?_
    refine kw_iload_n C 0 dX7_least_25 rfl ?_
    refine kw_bipush (v := (-9)) C dX7_least_26 (by decide) ?_
    refine kw_icmp_eq (tgt := 36) C dX7_least_28 (by decide) (fun c_28 => ?_) (fun c_28 => ?_)
    ·
      refine kw_iload_n C 0 dX7_least_36 rfl ?_
      refine kw_goto (tgt := 44) C dX7_least_37 (by decide) ?_
      refine kR_i C (od_a, gv_b, mk_b) dX7_least_44 ?_ rfl
      first | rfl | trivial | (simp; done) | omega
    ·
      refine kw_iload_n C 2 dX7_least_31 rfl ?_
      refine kw_iconst (v := nI 1) C dX7_least_32 (by decide) ?_
      refine kw_icmp_ne_N (tgt := 40) C (by omega) (by omega) dX7_least_33 (by decide) (fun c_33 => ?_) (fun c_33 => ?_)
      ·
        omega
      ·
        refine kw_iload_n C 0 dX7_least_36 rfl ?_
        refine kw_goto (tgt := 44) C dX7_least_37 (by decide) ?_
        refine kR_i C (od_a, gv_b, mk_b) dX7_least_44 ?_ rfl
        first | rfl | trivial | (simp; done) | omega
  ·
    exact absurd (by decide) c_11

set_option maxHeartbeats 4000000 in
set_option maxRecDepth 100000 in
theorem c_X7_exchanges (l : Launch) (G : va_G) (y : Nat → ClassId) (t : Nat) (a : Nat → Nat) (th : Int32) (Sr : Nat → Int32) (dr : Nat → Int32) (pa : Nat → Int32) (um : Int32) (im : Nat → Int32) (ikp : Nat → Int32) (tx : Nat → Int32) (ty : Int32) (sn : Nat → Int32) (sm : Int32) (at1 : Int32) (pl : Int32) (tk : Int32) (vl : Int32) (fa : Int32) (pf : Nat → Int32) (gv : Nat → Int32) (mk : Nat → Int32) (bo : Nat → Int32) (bq : Nat → Int32) (oo : Nat → Nat) (i : Nat) (j : Nat) (hi : i < 6) (hj : j < 6) (sz : Nat) : Met l yX7_exchanges (Cond.code yX7_exchanges cX7_exchanges 4 (none) :: TG) ({ frames := 0, cells := 0, slots := 0, locals := 0 }) (va_Pc [.ref (a 0), .int (nI i), .int (nI j)] (PR G y t (kMod y a th Sr dr pa um im ikp tx ty sn sm at1 pl tk vl fa pf (aN oo) gv mk bo bq) sz)) (va_Qv (fun (u : Unit) => True) (fun (u : Unit) t => PO G (va_A (kMod y a th Sr dr pa um im ikp tx ty sn sm at1 pl tk vl fa pf (aN oo) gv mk bo bq) sz) (kMod y a th Sr dr pa um im ikp tx ty sn sm at1 pl tk vl fa pf (aN (exO oo i j)) gv mk bo bq) t) (va_A (kMod y a th Sr dr pa um im ikp tx ty sn sm at1 pl tk vl fa pf (aN oo) gv mk bo bq) sz)) 0 0 (va_A (kMod y a th Sr dr pa um im ikp tx ty sn sm at1 pl tk vl fa pf (aN oo) gv mk bo bq) sz) := by
  refine kMet (cc := cX7_exchanges) (maxL := 4) (ret := none) (Qc := fun A => va_Qv (fun (u : Unit) => True) (fun (u : Unit) t => PO G A (kMod y a th Sr dr pa um im ikp tx ty sn sm at1 pl tk vl fa pf (aN (exO oo i j)) gv mk bo bq) t) A) (by decide) rfl (Nat.le_of_ble_eq_true rfl) (fun p e s m below meth c A hsz C hin => ?_)
  refine KW.loc (lv' := [(0, .ref (a 0)), (1, .int (nI i)), (2, .int (nI j))]) [0, 1, 2] rfl ?_
  refine kw_aload_n C 0 dX7_exchanges_0 rfl ?_
  refine kw_get (v := .ref (a 9)) (T := TX7) C 0 17 rfl rfl (by decide) (fun w h => mT (fwX7 w h)) rfl (mT wd_632) rfl dX7_exchanges_1 ?_
  refine kw_iload_n C 1 dX7_exchanges_4 rfl ?_
  refine kw_iald (f := aN oo) C 9 rfl (by omega) (by decide) dX7_exchanges_5 ?_
  refine kw_top (show ((aN oo) i) = (nI (oo i)) from by rfl) ?_
  refine kw_istore_n C [(3, .int (nI (oo i))), (0, .ref (a 0)), (1, .int (nI i)), (2, .int (nI j))] dX7_exchanges_6 rfl (by decide) rfl ?_
  refine kw_aload_n C 1 dX7_exchanges_7 rfl ?_
  refine kw_get (v := .ref (a 9)) (T := TX7) C 0 17 rfl rfl (by decide) (fun w h => mT (fwX7 w h)) rfl (mT wd_632) rfl dX7_exchanges_8 ?_
  refine kw_iload_n C 2 dX7_exchanges_11 rfl ?_
  refine kw_aload_n C 1 dX7_exchanges_12 rfl ?_
  refine kw_get (v := .ref (a 9)) (T := TX7) C 0 17 rfl rfl (by decide) (fun w h => mT (fwX7 w h)) rfl (mT wd_632) rfl dX7_exchanges_13 ?_
  refine kw_iload_n C 3 dX7_exchanges_16 rfl ?_
  refine kw_iald (f := aN oo) C 9 rfl (by omega) (by decide) dX7_exchanges_17 ?_
  refine kw_top (show ((aN oo) j) = (nI (oo j)) from by rfl) ?_
  refine kw_iast C 9 (kMod y a th Sr dr pa um im ikp tx ty sn sm at1 pl tk vl fa pf (upd (aN oo) i (nI (oo j))) gv mk bo bq) rfl (by omega) (by decide) dX7_exchanges_18 rfl ?_
  refine kw_aload_n C 1 dX7_exchanges_19 rfl ?_
  refine kw_get (v := .ref (a 9)) (T := TX7) C 0 17 rfl rfl (by decide) (fun w h => mT (fwX7 w h)) rfl (mT wd_632) rfl dX7_exchanges_20 ?_
  refine kw_iload_n C 3 dX7_exchanges_23 rfl ?_
  refine kw_iload_n C 0 dX7_exchanges_24 rfl ?_
  refine kw_iast C 9 (kMod y a th Sr dr pa um im ikp tx ty sn sm at1 pl tk vl fa pf (upd (upd (aN oo) i (nI (oo j))) j (nI (oo i))) gv mk bo bq) rfl (by omega) (by decide) dX7_exchanges_25 rfl ?_
  rw [show (upd (upd (aN oo) i (nI (oo j))) j (nI (oo i))) = (aN (exO oo i j)) from by exact exO_eq oo i j]
  refine kR_v C () dX7_exchanges_26 ?_ rfl
  first | rfl | trivial | (simp; done) | omega

set_option maxHeartbeats 4000000 in
set_option maxRecDepth 100000 in
theorem c_X7_goesOn (l : Launch) (G : va_G) (y : Nat → ClassId) (t : Nat) (a : Nat → Nat) (th : Int32) (Sr : Nat → Int32) (dr : Nat → Int32) (pa : Nat → Int32) (um : Int32) (im : Nat → Int32) (ikp : Nat → Int32) (tx : Nat → Int32) (ty : Int32) (sn : Nat → Int32) (sm : Int32) (at1 : Int32) (pl : Int32) (tk : Int32) (vl : Int32) (fa : Int32) (pf : Nat → Int32) (gv : Nat → Int32) (mk : Nat → Int32) (bo : Nat → Int32) (bq : Nat → Int32) (oo : Nat → Nat) (W : Nat) (H : Nat) (N : Nat) (pcl : Nat → Nat) (ik : Nat → Nat) (o : Nat → Nat) (bk : Nat → Nat) (kk : Nat → Nat) (hR : RowOk Sr W H N pcl ik o bk kk) (hN1 : 0 < N) (hon : ∀ q, q < N → oo q < N) (sz : Nat) : Met l yX7_goesOn (Cond.code yX7_goesOn cX7_goesOn 4 (some .boolean) :: TG) ({ frames := 1, cells := 0, slots := 0, locals := 23 }) (va_Pc [.ref (a 0)] (PR G y t (kMod y a th Sr dr pa um im ikp tx ty sn sm at1 pl tk vl fa pf (aN oo) gv mk bo bq) sz)) (va_Qi (fun (r : Int32) (u : Nat → Nat) => r = (bI (decide (dsc oo (N - 1) ≠ 0))) ∧ (dsc oo (N - 1) ≠ 0 → u = nxF N oo) ∧ (dsc oo (N - 1) = 0 → u = oo)) (fun (u : Nat → Nat) t => PO G (va_A (kMod y a th Sr dr pa um im ikp tx ty sn sm at1 pl tk vl fa pf (aN oo) gv mk bo bq) sz) (kMod y a th Sr dr pa um im ikp tx ty sn sm at1 pl tk vl fa pf (aN u) gv mk bo bq) t) (va_A (kMod y a th Sr dr pa um im ikp tx ty sn sm at1 pl tk vl fa pf (aN oo) gv mk bo bq) sz)) 0 0 (va_A (kMod y a th Sr dr pa um im ikp tx ty sn sm at1 pl tk vl fa pf (aN oo) gv mk bo bq) sz) := by
  refine kMet (cc := cX7_goesOn) (maxL := 4) (ret := some .boolean) (Qc := fun A => va_Qi (fun (r : Int32) (u : Nat → Nat) => r = (bI (decide (dsc oo (N - 1) ≠ 0))) ∧ (dsc oo (N - 1) ≠ 0 → u = nxF N oo) ∧ (dsc oo (N - 1) = 0 → u = oo)) (fun (u : Nat → Nat) t => PO G A (kMod y a th Sr dr pa um im ikp tx ty sn sm at1 pl tk vl fa pf (aN u) gv mk bo bq) t) A) (by decide) rfl (Nat.le_of_ble_eq_true rfl) (fun p e s m below meth c A hsz C hin => ?_)
  obtain ⟨hS0, hS1, hS2, hW, hH, hN, hpic, hink, hord, hblk, hdx⟩ := id hR
  refine KW.loc (lv' := [(0, .ref (a 0))]) [0] rfl ?_
  refine kw_aload_n C 0 dX7_goesOn_0 rfl ?_
  refine kw_get (v := .ref (a 1)) (T := TX7) C 0 1 rfl rfl (by decide) (fun w h => mT (fwX7 w h)) rfl (mT wd_616) rfl dX7_goesOn_1 ?_
  refine kw_iconst (v := nI 2) C dX7_goesOn_4 (by decide) ?_
  refine kw_iald (f := Sr) C 1 rfl (by omega) (by decide) dX7_goesOn_5 ?_
  refine kw_top (show (Sr 2) = (nI N) from by exact hS2) ?_
  refine kw_iconst (v := nI 2) C dX7_goesOn_6 (by decide) ?_
  refine kw_isub C dX7_goesOn_7 ?_
  refine kw_istore_n C [(1, .int ((nI N) - (nI 2))), (0, .ref (a 0))] dX7_goesOn_8 rfl (by decide) rfl ?_
  have L9_1 : ∀ (nn : Nat) (u1 : Nat) (hu1 : u1 < N) (hds : dsc oo u1 = dsc oo (N - 1)) (hms : u1 < nn), KW p l e ({ frames := 1, cells := 0, slots := 0, locals := 23 }) s m ([.ref (a 0)] : List Value).toArray below meth c 0 0 (MQ below (va_Qi (fun (r : Int32) (u : Nat → Nat) => r = (bI (decide (dsc oo (N - 1) ≠ 0))) ∧ (dsc oo (N - 1) ≠ 0 → u = nxF N oo) ∧ (dsc oo (N - 1) = 0 → u = oo)) (fun (u : Nat → Nat) t => PO G A (kMod y a th Sr dr pa um im ikp tx ty sn sm at1 pl tk vl fa pf (aN u) gv mk bo bq) t) A) ([.ref (a 0)] : List Value).toArray s 0 0 A) G A 4 (kMod y a th Sr dr pa um im ikp tx ty sn sm at1 pl tk vl fa pf (aN oo) gv mk bo bq) [(1, .int (gs u1)), (0, .ref (a 0))] 9 [] := by
    intro nn
    induction nn with
    | zero => intro u1 hu1 hds hms; exact absurd hms (Nat.not_lt_zero _)
    | succ nn ih_9 =>
      intro u1 hu1 hds hms
      refine kw_iload_n C 0 dX7_goesOn_9 rfl ?_
      refine kw_if_lt (tgt := 36) C dX7_goesOn_10 (by decide) (fun c_10 => ?_) (fun c_10 => ?_)
      ·
        have hu0 : u1 = 0 := Nat.eq_zero_of_not_pos (fun h => absurd c_10 (Int32.not_lt.mpr ((gs_pos (by omega)).mpr h)))
        refine kw_iload_n C 0 dX7_goesOn_36 rfl ?_
        refine kw_if_ge (tgt := 42) C dX7_goesOn_37 (by decide) (fun c_37 => ?_) (fun c_37 => ?_)
        ·
          have hup2 := (gs_pos (g := u1) (by omega)).mp c_37
          refine kw_aload_n C 1 dX7_goesOn_42 rfl ?_
          refine kw_get (v := .ref (a 1)) (T := TX7) C 0 1 rfl rfl (by decide) (fun w h => mT (fwX7 w h)) rfl (mT wd_616) rfl dX7_goesOn_43 ?_
          refine kw_iconst (v := nI 2) C dX7_goesOn_46 (by decide) ?_
          refine kw_iald (f := Sr) C 1 rfl (by omega) (by decide) dX7_goesOn_47 ?_
          refine kw_top (show (Sr 2) = (nI N) from by exact hS2) ?_
          refine kw_iconst (v := nI 1) C dX7_goesOn_48 (by decide) ?_
          refine kw_isub C dX7_goesOn_49 (kw_top (pk_sub (by omega)) ?_)
          refine kw_istore_n C [(2, .int (nI (N - 1))), (1, .int (gs u1)), (0, .ref (a 0))] dX7_goesOn_50 rfl (by decide) rfl ?_
          have L51_2 : ∀ (nn : Nat) (b1 : Nat) (hb1 : b1 < N) (hb2 : u1 - 1 ≤ b1) (hfb : fnb oo (oo (u1 - 1)) b1 = fnb oo (oo (u1 - 1)) (N - 1)) (hms : b1 < nn), KW p l e ({ frames := 1, cells := 0, slots := 0, locals := 23 }) s m ([.ref (a 0)] : List Value).toArray below meth c 0 0 (MQ below (va_Qi (fun (r : Int32) (u : Nat → Nat) => r = (bI (decide (dsc oo (N - 1) ≠ 0))) ∧ (dsc oo (N - 1) ≠ 0 → u = nxF N oo) ∧ (dsc oo (N - 1) = 0 → u = oo)) (fun (u : Nat → Nat) t => PO G A (kMod y a th Sr dr pa um im ikp tx ty sn sm at1 pl tk vl fa pf (aN u) gv mk bo bq) t) A) ([.ref (a 0)] : List Value).toArray s 0 0 A) G A 4 (kMod y a th Sr dr pa um im ikp tx ty sn sm at1 pl tk vl fa pf (aN oo) gv mk bo bq) [(2, .int (nI b1)), (1, .int (gs u1)), (0, .ref (a 0))] 51 [] := by
            intro nn
            induction nn with
            | zero => intro b1 hb1 hb2 hfb hms; exact absurd hms (Nat.not_lt_zero _)
            | succ nn ih_51 =>
              intro b1 hb1 hb2 hfb hms
              refine kw_aload_n C 2 dX7_goesOn_51 rfl ?_
              refine kw_get (v := .ref (a 9)) (T := TX7) C 0 17 rfl rfl (by decide) (fun w h => mT (fwX7 w h)) rfl (mT wd_632) rfl dX7_goesOn_52 ?_
              refine kw_iload_n C 0 dX7_goesOn_55 rfl ?_
              refine kw_iald (f := aN oo) C 9 rfl (by omega) (by decide) dX7_goesOn_56 ?_
              refine kw_top (show ((aN oo) b1) = (nI (oo b1)) from by rfl) ?_
              refine kw_aload_n C 2 dX7_goesOn_57 rfl ?_
              refine kw_get (v := .ref (a 9)) (T := TX7) C 0 17 rfl rfl (by decide) (fun w h => mT (fwX7 w h)) rfl (mT wd_632) rfl dX7_goesOn_58 ?_
              refine kw_iload_n C 1 dX7_goesOn_61 rfl ?_
              refine kw_top (show (gs u1) = (nI (u1 - 1)) from by rw [show u1 = (u1 - 1) + 1 from by omega, gs_s]; rfl) ?_
              refine kw_iald (f := aN oo) C 9 rfl (by omega) (by decide) dX7_goesOn_62 ?_
              refine kw_top (show ((aN oo) (u1 - 1)) = (nI (oo (u1 - 1))) from by rfl) ?_
              refine kw_icmp_ge_N (tgt := 72) C (by first | exact Nat.lt_of_lt_of_le (hon _ (by omega)) (by omega)) (by first | exact Nat.lt_of_lt_of_le (hon _ (by omega)) (by omega)) dX7_goesOn_63 (by decide) (fun c_63 => ?_) (fun c_63 => ?_)
              ·
                refine kw_aload_n C 2 dX7_goesOn_72 rfl ?_
                refine kw_iload_n C 1 dX7_goesOn_73 rfl ?_
                refine kw_top (show (gs u1) = (nI (u1 - 1)) from by rw [show u1 = (u1 - 1) + 1 from by omega, gs_s]; rfl) ?_
                refine kw_iload_n C 0 dX7_goesOn_74 rfl ?_
                refine kV_v (As := [.int (nI (u1 - 1)), .int (nI b1)]) (rest := []) (ws' := fun (u : Unit) => kMod y a th Sr dr pa um im ikp tx ty sn sm at1 pl tk vl fa pf (aN (exO oo (u1 - 1) b1)) gv mk bo bq) C (c_X7_exchanges l G y t a th Sr dr pa um im ikp tx ty sn sm at1 pl tk vl fa pf gv mk bo bq oo (u1 - 1) b1 (by first | assumption | omega | decide) (by first | assumption | omega | decide)) (cwV 2 C.2.2.2.2.1 (goodV cT wd_835 wd_832 wd_834 wd_35 wd_48) rfl rfl rfl (by decide +kernel) ⟨by decide, by decide⟩) [0, 1, 2, 3, 4, 5, 6, 7, 8, 9, 10, 11, 12, 13] [] [0, 1, 2, 3, 4, 5, 6, 7, 8, 9, 10, 11, 12, 13] rfl (by decide) rfl (by decide) (by decide) (fun _ => rfl) (by decide) 0 rfl rfl rfl (Nat.le_of_ble_eq_true rfl) ⟨by decide, by decide⟩ dX7_goesOn_75 (fun u hr_3 => ?_)
                refine kw_iconst (v := nI 1) C dX7_goesOn_78 (by decide) ?_
                refine kw_istore_n C [(3, .int (nI 1)), (2, .int (nI b1)), (1, .int (gs u1)), (0, .ref (a 0))] dX7_goesOn_79 rfl (by decide) rfl ?_
                have L80_4 : ∀ (nn : Nat) (k1 : Nat) (o1 : Nat → Nat) (hk1 : 1 ≤ k1) (hk3 : k1 ≤ 4) (hkN : k1 ≤ N) (ho1 : o1 = rvO N (u1 - 1) (k1 - 1) (exO oo (u1 - 1) b1)) (hms : 4 - k1 < nn), KW p l e ({ frames := 1, cells := 0, slots := 0, locals := 23 }) s m ([.ref (a 0)] : List Value).toArray below meth c 0 0 (MQ below (va_Qi (fun (r : Int32) (u : Nat → Nat) => r = (bI (decide (dsc oo (N - 1) ≠ 0))) ∧ (dsc oo (N - 1) ≠ 0 → u = nxF N oo) ∧ (dsc oo (N - 1) = 0 → u = oo)) (fun (u : Nat → Nat) t => PO G A (kMod y a th Sr dr pa um im ikp tx ty sn sm at1 pl tk vl fa pf (aN u) gv mk bo bq) t) A) ([.ref (a 0)] : List Value).toArray s 0 0 A) G A 4 (kMod y a th Sr dr pa um im ikp tx ty sn sm at1 pl tk vl fa pf (aN o1) gv mk bo bq) [(3, .int (nI k1)), (2, .int (nI b1)), (1, .int (gs u1)), (0, .ref (a 0))] 80 [] := by
                  intro nn
                  induction nn with
                  | zero => intro k1 o1 hk1 hk3 hkN ho1 hms; exact absurd hms (Nat.not_lt_zero _)
                  | succ nn ih_80 =>
                    intro k1 o1 hk1 hk3 hkN ho1 hms
                    refine kw_iload_n C 2 dX7_goesOn_80 rfl ?_
                    refine kw_top (show (gs u1) = (nI (u1 - 1)) from by rw [show u1 = (u1 - 1) + 1 from by omega, gs_s]; rfl) ?_
                    refine kw_iload_n C 0 dX7_goesOn_81 rfl ?_
                    refine kw_iadd C dX7_goesOn_82 (kw_top (nI_add _ _) ?_)
                    refine kw_aload_n C 3 dX7_goesOn_83 rfl ?_
                    refine kw_get (v := .ref (a 1)) (T := TX7) C 0 1 rfl rfl (by decide) (fun w h => mT (fwX7 w h)) rfl (mT wd_616) rfl dX7_goesOn_84 ?_
                    refine kw_iconst (v := nI 2) C dX7_goesOn_87 (by decide) ?_
                    refine kw_iald (f := Sr) C 1 rfl (by omega) (by decide) dX7_goesOn_88 ?_
                    refine kw_top (show (Sr 2) = (nI N) from by exact hS2) ?_
                    refine kw_iload_n C 0 dX7_goesOn_89 rfl ?_
                    refine kw_isub C dX7_goesOn_90 (kw_top (pk_sub (by omega)) ?_)
                    refine kw_icmp_ge_N (tgt := 115) C (by omega) (by omega) dX7_goesOn_91 (by decide) (fun c_91 => ?_) (fun c_91 => ?_)
                    ·
                      refine kw_iconst (v := nI 1) C dX7_goesOn_115 (by decide) ?_
                      refine kR_z C (o1) dX7_goesOn_116 (by first | decide | exact bI_z _ | rfl) ?_ rfl
                      have hdu : dsc oo (N - 1) = u1 := by rw [← hds]; first | exact ds_st2 hup2 c_27 | omega
                      have hfu : fnb oo (oo (u1 - 1)) (N - 1) = b1 := by rw [← hfb]; exact fb_st c_63
                      refine ⟨(bI_t (by omega)).symm, fun _ => ?_, fun h => absurd h (by omega)⟩
                      unfold nxF
                      rw [hdu, hfu, ho1]
                      have e := rvO_e (f := exO oo (u1 - 1) b1) (N := N) (a := u1 - 1) (k := k1 - 1) (by omega) (3 - (k1 - 1))
                      rw [show k1 - 1 + (3 - (k1 - 1)) = 3 from by omega] at e
                      exact e.symm
                    ·
                      refine kw_aload_n C 3 dX7_goesOn_94 rfl ?_
                      refine kw_iload_n C 2 dX7_goesOn_95 rfl ?_
                      refine kw_top (show (gs u1) = (nI (u1 - 1)) from by rw [show u1 = (u1 - 1) + 1 from by omega, gs_s]; rfl) ?_
                      refine kw_iload_n C 0 dX7_goesOn_96 rfl ?_
                      refine kw_iadd C dX7_goesOn_97 (kw_top (nI_add _ _) ?_)
                      refine kw_aload_n C 3 dX7_goesOn_98 rfl ?_
                      refine kw_get (v := .ref (a 1)) (T := TX7) C 0 1 rfl rfl (by decide) (fun w h => mT (fwX7 w h)) rfl (mT wd_616) rfl dX7_goesOn_99 ?_
                      refine kw_iconst (v := nI 2) C dX7_goesOn_102 (by decide) ?_
                      refine kw_iald (f := Sr) C 1 rfl (by omega) (by decide) dX7_goesOn_103 ?_
                      refine kw_top (show (Sr 2) = (nI N) from by exact hS2) ?_
                      refine kw_iload_n C 0 dX7_goesOn_104 rfl ?_
                      refine kw_isub C dX7_goesOn_105 (kw_top (pk_sub (by omega)) ?_)
                      refine kV_v (As := [.int (nI ((u1 - 1) + k1)), .int (nI (N - k1))]) (rest := []) (ws' := fun (u : Unit) => kMod y a th Sr dr pa um im ikp tx ty sn sm at1 pl tk vl fa pf (aN (exO o1 ((u1 - 1) + k1) (N - k1))) gv mk bo bq) C (c_X7_exchanges l G y t a th Sr dr pa um im ikp tx ty sn sm at1 pl tk vl fa pf gv mk bo bq o1 ((u1 - 1) + k1) (N - k1) (by first | assumption | omega | decide) (by first | assumption | omega | decide)) (cwV 2 C.2.2.2.2.1 (goodV cT wd_835 wd_832 wd_834 wd_35 wd_48) rfl rfl rfl (by decide +kernel) ⟨by decide, by decide⟩) [0, 1, 2, 3, 4, 5, 6, 7, 8, 9, 10, 11, 12, 13] [] [0, 1, 2, 3, 4, 5, 6, 7, 8, 9, 10, 11, 12, 13] rfl (by decide) rfl (by decide) (by decide) (fun _ => rfl) (by decide) 0 rfl rfl rfl (Nat.le_of_ble_eq_true rfl) ⟨by decide, by decide⟩ dX7_goesOn_106 (fun u hr_5 => ?_)
                      refine kw_iinc (v := nI (k1 + 1)) C [(3, .int (nI (k1 + 1))), (2, .int (nI b1)), (1, .int (gs u1)), (0, .ref (a 0))] 0 dX7_goesOn_109 rfl (nI_1 _) (by decide) rfl ?_
                      refine kw_goto (tgt := 80) C dX7_goesOn_112 (by decide) ?_
                      refine KW.loc (lv' := [(3, .int (nI (k1 + 1))), (2, .int (nI b1)), (1, .int (gs u1)), (0, .ref (a 0))]) [0, 1, 2, 3] rfl ?_
                      exact ih_80 (k1 + 1) (exO o1 ((u1 - 1) + k1) (N - k1)) (by first | assumption | omega | (simp; done)) (by omega) (by first | assumption | omega | (simp; done)) (by rw [ho1]; have e := (rvO_s (f := exO oo (u1 - 1) b1) (N := N) (a := u1 - 1) (k := k1 - 1) (by omega)); rw [show k1 - 1 + 1 = k1 from by omega] at e; exact e.symm) (by omega)
                refine KW.loc (lv' := [(3, .int (nI 1)), (2, .int (nI b1)), (1, .int (gs u1)), (0, .ref (a 0))]) [0, 1, 2, 3] rfl ?_
                exact L80_4 (4 - 1 + 1) 1 (exO oo (u1 - 1) b1) (by first | assumption | omega | (simp; done)) (by first | assumption | omega | (simp; done)) (by first | assumption | omega | (simp; done)) (by rfl) (Nat.lt_succ_self _)
              ·
                refine kw_iinc (v := nI (b1 - 1)) C [(2, .int (nI (b1 - 1))), (1, .int (gs u1)), (0, .ref (a 0))] 0 dX7_goesOn_66 rfl (by exact nI_dn (by have := fb_ne (oo := oo) (u := u1 - 1) (b := b1) c_63; omega)) (by decide) rfl ?_
                refine kw_goto (tgt := 51) C dX7_goesOn_69 (by decide) ?_
                refine KW.loc (lv' := [(2, .int (nI (b1 - 1))), (1, .int (gs u1)), (0, .ref (a 0))]) [0, 1, 2] rfl ?_
                exact ih_51 (b1 - 1) (by first | assumption | omega | (simp; done)) (by have := fb_ne (oo := oo) (u := u1 - 1) (b := b1) c_63; omega) (by exact (fb_dn (by have := fb_ne (oo := oo) (u := u1 - 1) (b := b1) c_63; omega) c_63).symm.trans hfb) (by have := fb_ne (oo := oo) (u := u1 - 1) (b := b1) c_63; omega)
          refine KW.loc (lv' := [(2, .int (nI (N - 1))), (1, .int (gs u1)), (0, .ref (a 0))]) [0, 1, 2] rfl ?_
          exact L51_2 ((N - 1) + 1) (N - 1) (by first | assumption | omega | (simp; done)) (by first | assumption | omega | (simp; done)) (by rfl) (Nat.lt_succ_self _)
        ·
          refine kw_iconst (v := nI 0) C dX7_goesOn_40 (by decide) ?_
          refine kR_z C (oo) dX7_goesOn_41 (by first | decide | exact bI_z _ | rfl) ?_ rfl
          have hz : dsc oo (N - 1) = 0 := by first | (rw [← hds, hu0]; rfl) | (exact absurd ((gs_pos (by omega)).mpr hup) c_37)
          exact ⟨(bI_f (fun h => h hz)).symm, fun h => absurd hz h, fun _ => rfl⟩
      ·
        have hup := (gs_pos (g := u1) (by omega)).mp (Int32.not_lt.mp c_10)
        refine kw_aload_n C 1 dX7_goesOn_13 rfl ?_
        refine kw_get (v := .ref (a 9)) (T := TX7) C 0 17 rfl rfl (by decide) (fun w h => mT (fwX7 w h)) rfl (mT wd_632) rfl dX7_goesOn_14 ?_
        refine kw_iload_n C 0 dX7_goesOn_17 rfl ?_
        refine kw_top (show (gs u1) = (nI (u1 - 1)) from by rw [show u1 = (u1 - 1) + 1 from by omega, gs_s]; rfl) ?_
        refine kw_iald (f := aN oo) C 9 rfl (by omega) (by decide) dX7_goesOn_18 ?_
        refine kw_top (show ((aN oo) (u1 - 1)) = (nI (oo (u1 - 1))) from by rfl) ?_
        refine kw_aload_n C 1 dX7_goesOn_19 rfl ?_
        refine kw_get (v := .ref (a 9)) (T := TX7) C 0 17 rfl rfl (by decide) (fun w h => mT (fwX7 w h)) rfl (mT wd_632) rfl dX7_goesOn_20 ?_
        refine kw_iload_n C 0 dX7_goesOn_23 rfl ?_
        refine kw_top (show (gs u1) = (nI (u1 - 1)) from by rw [show u1 = (u1 - 1) + 1 from by omega, gs_s]; rfl) ?_
        refine kw_iconst (v := nI 1) C dX7_goesOn_24 (by decide) ?_
        refine kw_iadd C dX7_goesOn_25 (kw_top (nI_add _ _) ?_)
        refine kw_iald (f := aN oo) C 9 rfl (by omega) (by decide) dX7_goesOn_26 ?_
        refine kw_top (show ((aN oo) ((u1 - 1) + 1)) = (nI (oo ((u1 - 1) + 1))) from by rfl) ?_
        refine kw_icmp_le_N (tgt := 36) C (by first | exact Nat.lt_of_lt_of_le (hon _ (by omega)) (by omega)) (by first | exact Nat.lt_of_lt_of_le (hon _ (by omega)) (by omega)) dX7_goesOn_27 (by decide) (fun c_27 => ?_) (fun c_27 => ?_)
        ·
          refine kw_iload_n C 0 dX7_goesOn_36 rfl ?_
          refine kw_if_ge (tgt := 42) C dX7_goesOn_37 (by decide) (fun c_37 => ?_) (fun c_37 => ?_)
          ·
            have hup2 := (gs_pos (g := u1) (by omega)).mp c_37
            refine kw_aload_n C 1 dX7_goesOn_42 rfl ?_
            refine kw_get (v := .ref (a 1)) (T := TX7) C 0 1 rfl rfl (by decide) (fun w h => mT (fwX7 w h)) rfl (mT wd_616) rfl dX7_goesOn_43 ?_
            refine kw_iconst (v := nI 2) C dX7_goesOn_46 (by decide) ?_
            refine kw_iald (f := Sr) C 1 rfl (by omega) (by decide) dX7_goesOn_47 ?_
            refine kw_top (show (Sr 2) = (nI N) from by exact hS2) ?_
            refine kw_iconst (v := nI 1) C dX7_goesOn_48 (by decide) ?_
            refine kw_isub C dX7_goesOn_49 (kw_top (pk_sub (by omega)) ?_)
            refine kw_istore_n C [(2, .int (nI (N - 1))), (1, .int (gs u1)), (0, .ref (a 0))] dX7_goesOn_50 rfl (by decide) rfl ?_
            have L51_6 : ∀ (nn : Nat) (b1 : Nat) (hb1 : b1 < N) (hb2 : u1 - 1 ≤ b1) (hfb : fnb oo (oo (u1 - 1)) b1 = fnb oo (oo (u1 - 1)) (N - 1)) (hms : b1 < nn), KW p l e ({ frames := 1, cells := 0, slots := 0, locals := 23 }) s m ([.ref (a 0)] : List Value).toArray below meth c 0 0 (MQ below (va_Qi (fun (r : Int32) (u : Nat → Nat) => r = (bI (decide (dsc oo (N - 1) ≠ 0))) ∧ (dsc oo (N - 1) ≠ 0 → u = nxF N oo) ∧ (dsc oo (N - 1) = 0 → u = oo)) (fun (u : Nat → Nat) t => PO G A (kMod y a th Sr dr pa um im ikp tx ty sn sm at1 pl tk vl fa pf (aN u) gv mk bo bq) t) A) ([.ref (a 0)] : List Value).toArray s 0 0 A) G A 4 (kMod y a th Sr dr pa um im ikp tx ty sn sm at1 pl tk vl fa pf (aN oo) gv mk bo bq) [(2, .int (nI b1)), (1, .int (gs u1)), (0, .ref (a 0))] 51 [] := by
              intro nn
              induction nn with
              | zero => intro b1 hb1 hb2 hfb hms; exact absurd hms (Nat.not_lt_zero _)
              | succ nn ih_51 =>
                intro b1 hb1 hb2 hfb hms
                refine kw_aload_n C 2 dX7_goesOn_51 rfl ?_
                refine kw_get (v := .ref (a 9)) (T := TX7) C 0 17 rfl rfl (by decide) (fun w h => mT (fwX7 w h)) rfl (mT wd_632) rfl dX7_goesOn_52 ?_
                refine kw_iload_n C 0 dX7_goesOn_55 rfl ?_
                refine kw_iald (f := aN oo) C 9 rfl (by omega) (by decide) dX7_goesOn_56 ?_
                refine kw_top (show ((aN oo) b1) = (nI (oo b1)) from by rfl) ?_
                refine kw_aload_n C 2 dX7_goesOn_57 rfl ?_
                refine kw_get (v := .ref (a 9)) (T := TX7) C 0 17 rfl rfl (by decide) (fun w h => mT (fwX7 w h)) rfl (mT wd_632) rfl dX7_goesOn_58 ?_
                refine kw_iload_n C 1 dX7_goesOn_61 rfl ?_
                refine kw_top (show (gs u1) = (nI (u1 - 1)) from by rw [show u1 = (u1 - 1) + 1 from by omega, gs_s]; rfl) ?_
                refine kw_iald (f := aN oo) C 9 rfl (by omega) (by decide) dX7_goesOn_62 ?_
                refine kw_top (show ((aN oo) (u1 - 1)) = (nI (oo (u1 - 1))) from by rfl) ?_
                refine kw_icmp_ge_N (tgt := 72) C (by first | exact Nat.lt_of_lt_of_le (hon _ (by omega)) (by omega)) (by first | exact Nat.lt_of_lt_of_le (hon _ (by omega)) (by omega)) dX7_goesOn_63 (by decide) (fun c_63 => ?_) (fun c_63 => ?_)
                ·
                  refine kw_aload_n C 2 dX7_goesOn_72 rfl ?_
                  refine kw_iload_n C 1 dX7_goesOn_73 rfl ?_
                  refine kw_top (show (gs u1) = (nI (u1 - 1)) from by rw [show u1 = (u1 - 1) + 1 from by omega, gs_s]; rfl) ?_
                  refine kw_iload_n C 0 dX7_goesOn_74 rfl ?_
                  refine kV_v (As := [.int (nI (u1 - 1)), .int (nI b1)]) (rest := []) (ws' := fun (u : Unit) => kMod y a th Sr dr pa um im ikp tx ty sn sm at1 pl tk vl fa pf (aN (exO oo (u1 - 1) b1)) gv mk bo bq) C (c_X7_exchanges l G y t a th Sr dr pa um im ikp tx ty sn sm at1 pl tk vl fa pf gv mk bo bq oo (u1 - 1) b1 (by first | assumption | omega | decide) (by first | assumption | omega | decide)) (cwV 2 C.2.2.2.2.1 (goodV cT wd_835 wd_832 wd_834 wd_35 wd_48) rfl rfl rfl (by decide +kernel) ⟨by decide, by decide⟩) [0, 1, 2, 3, 4, 5, 6, 7, 8, 9, 10, 11, 12, 13] [] [0, 1, 2, 3, 4, 5, 6, 7, 8, 9, 10, 11, 12, 13] rfl (by decide) rfl (by decide) (by decide) (fun _ => rfl) (by decide) 0 rfl rfl rfl (Nat.le_of_ble_eq_true rfl) ⟨by decide, by decide⟩ dX7_goesOn_75 (fun u hr_7 => ?_)
                  refine kw_iconst (v := nI 1) C dX7_goesOn_78 (by decide) ?_
                  refine kw_istore_n C [(3, .int (nI 1)), (2, .int (nI b1)), (1, .int (gs u1)), (0, .ref (a 0))] dX7_goesOn_79 rfl (by decide) rfl ?_
                  have L80_8 : ∀ (nn : Nat) (k1 : Nat) (o1 : Nat → Nat) (hk1 : 1 ≤ k1) (hk3 : k1 ≤ 4) (hkN : k1 ≤ N) (ho1 : o1 = rvO N (u1 - 1) (k1 - 1) (exO oo (u1 - 1) b1)) (hms : 4 - k1 < nn), KW p l e ({ frames := 1, cells := 0, slots := 0, locals := 23 }) s m ([.ref (a 0)] : List Value).toArray below meth c 0 0 (MQ below (va_Qi (fun (r : Int32) (u : Nat → Nat) => r = (bI (decide (dsc oo (N - 1) ≠ 0))) ∧ (dsc oo (N - 1) ≠ 0 → u = nxF N oo) ∧ (dsc oo (N - 1) = 0 → u = oo)) (fun (u : Nat → Nat) t => PO G A (kMod y a th Sr dr pa um im ikp tx ty sn sm at1 pl tk vl fa pf (aN u) gv mk bo bq) t) A) ([.ref (a 0)] : List Value).toArray s 0 0 A) G A 4 (kMod y a th Sr dr pa um im ikp tx ty sn sm at1 pl tk vl fa pf (aN o1) gv mk bo bq) [(3, .int (nI k1)), (2, .int (nI b1)), (1, .int (gs u1)), (0, .ref (a 0))] 80 [] := by
                    intro nn
                    induction nn with
                    | zero => intro k1 o1 hk1 hk3 hkN ho1 hms; exact absurd hms (Nat.not_lt_zero _)
                    | succ nn ih_80 =>
                      intro k1 o1 hk1 hk3 hkN ho1 hms
                      refine kw_iload_n C 2 dX7_goesOn_80 rfl ?_
                      refine kw_top (show (gs u1) = (nI (u1 - 1)) from by rw [show u1 = (u1 - 1) + 1 from by omega, gs_s]; rfl) ?_
                      refine kw_iload_n C 0 dX7_goesOn_81 rfl ?_
                      refine kw_iadd C dX7_goesOn_82 (kw_top (nI_add _ _) ?_)
                      refine kw_aload_n C 3 dX7_goesOn_83 rfl ?_
                      refine kw_get (v := .ref (a 1)) (T := TX7) C 0 1 rfl rfl (by decide) (fun w h => mT (fwX7 w h)) rfl (mT wd_616) rfl dX7_goesOn_84 ?_
                      refine kw_iconst (v := nI 2) C dX7_goesOn_87 (by decide) ?_
                      refine kw_iald (f := Sr) C 1 rfl (by omega) (by decide) dX7_goesOn_88 ?_
                      refine kw_top (show (Sr 2) = (nI N) from by exact hS2) ?_
                      refine kw_iload_n C 0 dX7_goesOn_89 rfl ?_
                      refine kw_isub C dX7_goesOn_90 (kw_top (pk_sub (by omega)) ?_)
                      refine kw_icmp_ge_N (tgt := 115) C (by omega) (by omega) dX7_goesOn_91 (by decide) (fun c_91 => ?_) (fun c_91 => ?_)
                      ·
                        refine kw_iconst (v := nI 1) C dX7_goesOn_115 (by decide) ?_
                        refine kR_z C (o1) dX7_goesOn_116 (by first | decide | exact bI_z _ | rfl) ?_ rfl
                        have hdu : dsc oo (N - 1) = u1 := by rw [← hds]; first | exact ds_st2 hup2 c_27 | omega
                        have hfu : fnb oo (oo (u1 - 1)) (N - 1) = b1 := by rw [← hfb]; exact fb_st c_63
                        refine ⟨(bI_t (by omega)).symm, fun _ => ?_, fun h => absurd h (by omega)⟩
                        unfold nxF
                        rw [hdu, hfu, ho1]
                        have e := rvO_e (f := exO oo (u1 - 1) b1) (N := N) (a := u1 - 1) (k := k1 - 1) (by omega) (3 - (k1 - 1))
                        rw [show k1 - 1 + (3 - (k1 - 1)) = 3 from by omega] at e
                        exact e.symm
                      ·
                        refine kw_aload_n C 3 dX7_goesOn_94 rfl ?_
                        refine kw_iload_n C 2 dX7_goesOn_95 rfl ?_
                        refine kw_top (show (gs u1) = (nI (u1 - 1)) from by rw [show u1 = (u1 - 1) + 1 from by omega, gs_s]; rfl) ?_
                        refine kw_iload_n C 0 dX7_goesOn_96 rfl ?_
                        refine kw_iadd C dX7_goesOn_97 (kw_top (nI_add _ _) ?_)
                        refine kw_aload_n C 3 dX7_goesOn_98 rfl ?_
                        refine kw_get (v := .ref (a 1)) (T := TX7) C 0 1 rfl rfl (by decide) (fun w h => mT (fwX7 w h)) rfl (mT wd_616) rfl dX7_goesOn_99 ?_
                        refine kw_iconst (v := nI 2) C dX7_goesOn_102 (by decide) ?_
                        refine kw_iald (f := Sr) C 1 rfl (by omega) (by decide) dX7_goesOn_103 ?_
                        refine kw_top (show (Sr 2) = (nI N) from by exact hS2) ?_
                        refine kw_iload_n C 0 dX7_goesOn_104 rfl ?_
                        refine kw_isub C dX7_goesOn_105 (kw_top (pk_sub (by omega)) ?_)
                        refine kV_v (As := [.int (nI ((u1 - 1) + k1)), .int (nI (N - k1))]) (rest := []) (ws' := fun (u : Unit) => kMod y a th Sr dr pa um im ikp tx ty sn sm at1 pl tk vl fa pf (aN (exO o1 ((u1 - 1) + k1) (N - k1))) gv mk bo bq) C (c_X7_exchanges l G y t a th Sr dr pa um im ikp tx ty sn sm at1 pl tk vl fa pf gv mk bo bq o1 ((u1 - 1) + k1) (N - k1) (by first | assumption | omega | decide) (by first | assumption | omega | decide)) (cwV 2 C.2.2.2.2.1 (goodV cT wd_835 wd_832 wd_834 wd_35 wd_48) rfl rfl rfl (by decide +kernel) ⟨by decide, by decide⟩) [0, 1, 2, 3, 4, 5, 6, 7, 8, 9, 10, 11, 12, 13] [] [0, 1, 2, 3, 4, 5, 6, 7, 8, 9, 10, 11, 12, 13] rfl (by decide) rfl (by decide) (by decide) (fun _ => rfl) (by decide) 0 rfl rfl rfl (Nat.le_of_ble_eq_true rfl) ⟨by decide, by decide⟩ dX7_goesOn_106 (fun u hr_9 => ?_)
                        refine kw_iinc (v := nI (k1 + 1)) C [(3, .int (nI (k1 + 1))), (2, .int (nI b1)), (1, .int (gs u1)), (0, .ref (a 0))] 0 dX7_goesOn_109 rfl (nI_1 _) (by decide) rfl ?_
                        refine kw_goto (tgt := 80) C dX7_goesOn_112 (by decide) ?_
                        refine KW.loc (lv' := [(3, .int (nI (k1 + 1))), (2, .int (nI b1)), (1, .int (gs u1)), (0, .ref (a 0))]) [0, 1, 2, 3] rfl ?_
                        exact ih_80 (k1 + 1) (exO o1 ((u1 - 1) + k1) (N - k1)) (by first | assumption | omega | (simp; done)) (by omega) (by first | assumption | omega | (simp; done)) (by rw [ho1]; have e := (rvO_s (f := exO oo (u1 - 1) b1) (N := N) (a := u1 - 1) (k := k1 - 1) (by omega)); rw [show k1 - 1 + 1 = k1 from by omega] at e; exact e.symm) (by omega)
                  refine KW.loc (lv' := [(3, .int (nI 1)), (2, .int (nI b1)), (1, .int (gs u1)), (0, .ref (a 0))]) [0, 1, 2, 3] rfl ?_
                  exact L80_8 (4 - 1 + 1) 1 (exO oo (u1 - 1) b1) (by first | assumption | omega | (simp; done)) (by first | assumption | omega | (simp; done)) (by first | assumption | omega | (simp; done)) (by rfl) (Nat.lt_succ_self _)
                ·
                  refine kw_iinc (v := nI (b1 - 1)) C [(2, .int (nI (b1 - 1))), (1, .int (gs u1)), (0, .ref (a 0))] 0 dX7_goesOn_66 rfl (by exact nI_dn (by have := fb_ne (oo := oo) (u := u1 - 1) (b := b1) c_63; omega)) (by decide) rfl ?_
                  refine kw_goto (tgt := 51) C dX7_goesOn_69 (by decide) ?_
                  refine KW.loc (lv' := [(2, .int (nI (b1 - 1))), (1, .int (gs u1)), (0, .ref (a 0))]) [0, 1, 2] rfl ?_
                  exact ih_51 (b1 - 1) (by first | assumption | omega | (simp; done)) (by have := fb_ne (oo := oo) (u := u1 - 1) (b := b1) c_63; omega) (by exact (fb_dn (by have := fb_ne (oo := oo) (u := u1 - 1) (b := b1) c_63; omega) c_63).symm.trans hfb) (by have := fb_ne (oo := oo) (u := u1 - 1) (b := b1) c_63; omega)
            refine KW.loc (lv' := [(2, .int (nI (N - 1))), (1, .int (gs u1)), (0, .ref (a 0))]) [0, 1, 2] rfl ?_
            exact L51_6 ((N - 1) + 1) (N - 1) (by first | assumption | omega | (simp; done)) (by first | assumption | omega | (simp; done)) (by rfl) (Nat.lt_succ_self _)
          ·
            refine kw_iconst (v := nI 0) C dX7_goesOn_40 (by decide) ?_
            refine kR_z C (oo) dX7_goesOn_41 (by first | decide | exact bI_z _ | rfl) ?_ rfl
            have hz : dsc oo (N - 1) = 0 := by first | (rw [← hds, hu0]; rfl) | (exact absurd ((gs_pos (by omega)).mpr hup) c_37)
            exact ⟨(bI_f (fun h => h hz)).symm, fun h => absurd hz h, fun _ => rfl⟩
        ·
          refine kw_iinc (v := gs (u1 - 1)) C [(1, .int (gs (u1 - 1))), (0, .ref (a 0))] 0 dX7_goesOn_30 rfl (by exact gs_dn hup) (by decide) rfl ?_
          refine kw_goto (tgt := 9) C dX7_goesOn_33 (by decide) ?_
          refine KW.loc (lv' := [(1, .int (gs (u1 - 1))), (0, .ref (a 0))]) [0, 1] rfl ?_
          exact ih_9 (u1 - 1) (by first | assumption | omega | (simp; done)) (by exact (ds_dn hup c_27).symm.trans hds) (by omega)
  refine KW.loc (lv' := [(1, .int ((nI N) - (nI 2))), (0, .ref (a 0))]) [0, 1] rfl ?_
  refine KW.asl (congrArg (fun zq => ([(1, .int zq), (0, .ref (a 0))] : List (Nat × Value))) (show ((nI N) - (nI 2)) = (gs (N - 1)) from by exact two_gs hN1)) ?_
  exact L9_1 ((N - 1) + 1) (N - 1) (by first | assumption | omega | (simp; done)) (by rfl) (Nat.lt_succ_self _)
