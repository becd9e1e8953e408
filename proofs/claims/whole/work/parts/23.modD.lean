set_option maxHeartbeats 4000000 in
set_option maxRecDepth 100000 in
theorem c_X7_goesOn_z (l : Launch) (G : va_G) (y : Nat → ClassId) (t : Nat) (a : Nat → Nat) (th : Int32) (Sr : Nat → Int32) (dr : Nat → Int32) (pa : Nat → Int32) (um : Int32) (im : Nat → Int32) (ikp : Nat → Int32) (tx : Nat → Int32) (ty : Int32) (sn : Nat → Int32) (sm : Int32) (at1 : Int32) (pl : Int32) (tk : Int32) (vl : Int32) (fa : Int32) (pf : Nat → Int32) (gv : Nat → Int32) (mk : Nat → Int32) (bo : Nat → Int32) (bq : Nat → Int32) (oo : Nat → Nat) (W : Nat) (H : Nat) (N : Nat) (pcl : Nat → Nat) (ik : Nat → Nat) (o : Nat → Nat) (bk : Nat → Nat) (kk : Nat → Nat) (hR : RowOk Sr W H N pcl ik o bk kk) (hN0 : N = 0) (hon : ∀ q, q < N → oo q < N) (sz : Nat) : Met l yX7_goesOn (Cond.code yX7_goesOn cX7_goesOn 4 (some .boolean) :: TG) ({ frames := 1, cells := 0, slots := 0, locals := 23 }) (va_Pc [.ref (a 0)] (PR G y t (kMod y a th Sr dr pa um im ikp tx ty sn sm at1 pl tk vl fa pf (aN oo) gv mk bo bq) sz)) (va_Qi (fun (r : Int32) (u : Nat → Nat) => r = (bI (decide (dsc oo (N - 1) ≠ 0))) ∧ (dsc oo (N - 1) ≠ 0 → u = nxF N oo) ∧ (dsc oo (N - 1) = 0 → u = oo)) (fun (u : Nat → Nat) t => PO G (va_A (kMod y a th Sr dr pa um im ikp tx ty sn sm at1 pl tk vl fa pf (aN oo) gv mk bo bq) sz) (kMod y a th Sr dr pa um im ikp tx ty sn sm at1 pl tk vl fa pf (aN u) gv mk bo bq) t) (va_A (kMod y a th Sr dr pa um im ikp tx ty sn sm at1 pl tk vl fa pf (aN oo) gv mk bo bq) sz)) 0 0 (va_A (kMod y a th Sr dr pa um im ikp tx ty sn sm at1 pl tk vl fa pf (aN oo) gv mk bo bq) sz) := by
  refine kMet (cc := cX7_goesOn) (maxL := 4) (ret := some .boolean) (Qc := fun A => va_Qi (fun (r : Int32) (u : Nat → Nat) => r = (bI (decide (dsc oo (N - 1) ≠ 0))) ∧ (dsc oo (N - 1) ≠ 0 → u = nxF N oo) ∧ (dsc oo (N - 1) = 0 → u = oo)) (fun (u : Nat → Nat) t => PO G A (kMod y a th Sr dr pa um im ikp tx ty sn sm at1 pl tk vl fa pf (aN u) gv mk bo bq) t) A) (by decide) rfl (Nat.le_of_ble_eq_true rfl) (fun p e s m below meth c A hsz C hin => ?_)
  obtain ⟨hS0, hS1, hS2, hW, hH, hN, hpic, hink, hord, hblk, hdx⟩ := id hR
  refine KW.loc (lv' := [(0, .ref (a 0))]) [0] rfl ?_
  refine kw_aload_n C 0 dX7_goesOn_0 rfl ?_
  refine kw_get (v := .ref (a 1)) (T := TX7) C 0 1 rfl rfl (by decide) (fun w h => mT (fwX7 w h)) rfl (mT wd_616) rfl dX7_goesOn_1 ?_
  refine kw_iconst (v := nI 2) C dX7_goesOn_4 (by decide) ?_
  refine kw_iald (f := Sr) C 1 rfl (by omega) (by decide) dX7_goesOn_5 ?_
  refine kw_top (show (Sr 2) = (nI N) from by exact hS2) ?_
  refine kw_iconst (v := nI 2) C dX7_goesOn_6 (by decide) ?_
  refine kw_isub C dX7_goesOn_7 ?_
  refine kw_istore_n C [(1, .int ((nI N) - (nI 2))), (0, .ref (a 0))] dX7_goesOn_8 rfl (by decide) rfl ?_
  refine kw_iload_n C 0 dX7_goesOn_9 rfl ?_
  refine kw_if_lt (tgt := 36) C dX7_goesOn_10 (by decide) (fun c_10 => ?_) (fun c_10 => ?_)
  ·
    refine kw_iload_n C 0 dX7_goesOn_36 rfl ?_
    refine kw_if_ge (tgt := 42) C dX7_goesOn_37 (by decide) (fun c_37 => ?_) (fun c_37 => ?_)
    ·
      rw [hN0] at c_37; exact absurd c_37 (by decide)
    ·
      refine kw_iconst (v := nI 0) C dX7_goesOn_40 (by decide) ?_
      refine kR_z C (oo) dX7_goesOn_41 (by first | decide | exact bI_z _ | rfl) ?_ rfl
      have hz : dsc oo (N - 1) = 0 := by rw [hN0]; rfl
      exact ⟨(bI_f (fun h => h hz)).symm, fun h => absurd hz h, fun _ => rfl⟩
  ·
    rw [hN0] at c_10; exact absurd (by decide) c_10

set_option maxHeartbeats 4000000 in
theorem c_X7_goesOn_any (l : Launch) (G : va_G) (y : Nat → ClassId) (t : Nat) (a : Nat → Nat) (th : Int32) (Sr : Nat → Int32) (dr : Nat → Int32) (pa : Nat → Int32) (um : Int32) (im : Nat → Int32) (ikp : Nat → Int32) (tx : Nat → Int32) (ty : Int32) (sn : Nat → Int32) (sm : Int32) (at1 : Int32) (pl : Int32) (tk : Int32) (vl : Int32) (fa : Int32) (pf : Nat → Int32) (gv : Nat → Int32) (mk : Nat → Int32) (bo : Nat → Int32) (bq : Nat → Int32) (oo : Nat → Nat) (W : Nat) (H : Nat) (N : Nat) (pcl : Nat → Nat) (ik : Nat → Nat) (o : Nat → Nat) (bk : Nat → Nat) (kk : Nat → Nat) (hR : RowOk Sr W H N pcl ik o bk kk) (hon : ∀ q, q < N → oo q < N) (sz : Nat) : Met l yX7_goesOn (Cond.code yX7_goesOn cX7_goesOn 4 (some .boolean) :: TG) ({ frames := 1, cells := 0, slots := 0, locals := 23 }) (va_Pc [.ref (a 0)] (PR G y t (kMod y a th Sr dr pa um im ikp tx ty sn sm at1 pl tk vl fa pf (aN oo) gv mk bo bq) sz)) (va_Qi (fun (r : Int32) (u : Nat → Nat) => r = (bI (decide (dsc oo (N - 1) ≠ 0))) ∧ (dsc oo (N - 1) ≠ 0 → u = nxF N oo) ∧ (dsc oo (N - 1) = 0 → u = oo)) (fun (u : Nat → Nat) t => PO G (va_A (kMod y a th Sr dr pa um im ikp tx ty sn sm at1 pl tk vl fa pf (aN oo) gv mk bo bq) sz) (kMod y a th Sr dr pa um im ikp tx ty sn sm at1 pl tk vl fa pf (aN u) gv mk bo bq) t) (va_A (kMod y a th Sr dr pa um im ikp tx ty sn sm at1 pl tk vl fa pf (aN oo) gv mk bo bq) sz)) 0 0 (va_A (kMod y a th Sr dr pa um im ikp tx ty sn sm at1 pl tk vl fa pf (aN oo) gv mk bo bq) sz) := by
  rcases Nat.eq_zero_or_pos N with h0 | h0
  · exact c_X7_goesOn_z l G y t a th Sr dr pa um im ikp tx ty sn sm at1 pl tk vl fa pf gv mk bo bq oo W H N pcl ik o bk kk hR h0 hon sz
  · exact c_X7_goesOn l G y t a th Sr dr pa um im ikp tx ty sn sm at1 pl tk vl fa pf gv mk bo bq oo W H N pcl ik o bk kk hR h0 hon sz

set_option maxHeartbeats 4000000 in
set_option maxRecDepth 100000 in
theorem c_X7_fewestByOrder (l : Launch) (G : va_G) (y : Nat → ClassId) (t : Nat) (a : Nat → Nat) (th : Int32) (Sr : Nat → Int32) (dr : Nat → Int32) (pa : Nat → Int32) (um : Int32) (im : Nat → Int32) (ikp : Nat → Int32) (tx : Nat → Int32) (ty : Int32) (sn : Nat → Int32) (sm : Int32) (at1 : Int32) (pl : Int32) (tk : Int32) (vl : Int32) (fa : Int32) (pf : Nat → Int32) (odr : Nat → Int32) (gv : Nat → Int32) (mk : Nat → Int32) (bo : Nat → Int32) (bq : Nat → Int32) (W : Nat) (H : Nat) (N : Nat) (pcl : Nat → Nat) (ik : Nat → Nat) (o : Nat → Nat) (bk : Nat → Nat) (kk : Nat → Nat) (hR : RowOk Sr W H N pcl ik o bk kk) (sz : Nat) : Met l yX7_fewestByOrder (Cond.code yX7_fewestByOrder cX7_fewestByOrder 5 (some .int) :: TG) ({ frames := 3, cells := 0, slots := 0, locals := 68 }) (va_Pc [.ref (a 0)] (PR G y t (kMod y a th Sr dr pa um im ikp tx ty sn sm at1 pl tk vl fa pf odr gv mk bo bq) sz)) (va_Qi (fun (r : Int32) (u : (Nat → Int32) × (Nat → Int32) × (Nat → Int32) × (Nat → Int32)) => r = ((fbF (lsK W H N pcl ik) ((PL N).length)).1) ∧ ((fbF (lsK W H N pcl ik) ((PL N).length)).1 ≠ -9 → ∀ q, q < 6 → u.2.2.2 q = nI (pfO N (fbF (lsK W H N pcl ik) ((PL N).length)).2 q))) (fun (u : (Nat → Int32) × (Nat → Int32) × (Nat → Int32) × (Nat → Int32)) t => PO G (va_A (kMod y a th Sr dr pa um im ikp tx ty sn sm at1 pl tk vl fa pf odr gv mk bo bq) sz) (kMod y a th Sr dr pa um im ikp tx ty sn sm at1 pl tk vl fa pf u.1 u.2.1 u.2.2.1 u.2.2.2 bq) t) (va_A (kMod y a th Sr dr pa um im ikp tx ty sn sm at1 pl tk vl fa pf odr gv mk bo bq) sz)) 0 0 (va_A (kMod y a th Sr dr pa um im ikp tx ty sn sm at1 pl tk vl fa pf odr gv mk bo bq) sz) := by
  refine kMet (cc := cX7_fewestByOrder) (maxL := 5) (ret := some .int) (Qc := fun A => va_Qi (fun (r : Int32) (u : (Nat → Int32) × (Nat → Int32) × (Nat → Int32) × (Nat → Int32)) => r = ((fbF (lsK W H N pcl ik) ((PL N).length)).1) ∧ ((fbF (lsK W H N pcl ik) ((PL N).length)).1 ≠ -9 → ∀ q, q < 6 → u.2.2.2 q = nI (pfO N (fbF (lsK W H N pcl ik) ((PL N).length)).2 q))) (fun (u : (Nat → Int32) × (Nat → Int32) × (Nat → Int32) × (Nat → Int32)) t => PO G A (kMod y a th Sr dr pa um im ikp tx ty sn sm at1 pl tk vl fa pf u.1 u.2.1 u.2.2.1 u.2.2.2 bq) t) A) (by decide) rfl (Nat.le_of_ble_eq_true rfl) (fun p e s m below meth c A hsz C hin => ?_)
  obtain ⟨hS0, hS1, hS2, hW, hH, hN, hpic, hink, hord, hblk, hdx⟩ := id hR
  have hN7 : N < 7 := by omega
  refine KW.loc (lv' := [(0, .ref (a 0))]) [0] rfl ?_
  refine kw_iconst (v := nI 0) C dX7_fewestByOrder_0 (by decide) ?_
  refine kw_istore_n C [(1, .int (nI 0)), (0, .ref (a 0))] dX7_fewestByOrder_1 rfl (by decide) rfl ?_
  have L2_1 : ∀ (nn : Nat) (i : Nat) (f0 : Nat → Int32) (hi : i ≤ 6) (hf0 : ∀ j, j < i → f0 j = nI j) (hms : 6 - i < nn), KW p l e ({ frames := 3, cells := 0, slots := 0, locals := 68 }) s m ([.ref (a 0)] : List Value).toArray below meth c 0 0 (MQ below (va_Qi (fun (r : Int32) (u : (Nat → Int32) × (Nat → Int32) × (Nat → Int32) × (Nat → Int32)) => r = ((fbF (lsK W H N pcl ik) ((PL N).length)).1) ∧ ((fbF (lsK W H N pcl ik) ((PL N).length)).1 ≠ -9 → ∀ q, q < 6 → u.2.2.2 q = nI (pfO N (fbF (lsK W H N pcl ik) ((PL N).length)).2 q))) (fun (u : (Nat → Int32) × (Nat → Int32) × (Nat → Int32) × (Nat → Int32)) t => PO G A (kMod y a th Sr dr pa um im ikp tx ty sn sm at1 pl tk vl fa pf u.1 u.2.1 u.2.2.1 u.2.2.2 bq) t) A) ([.ref (a 0)] : List Value).toArray s 0 0 A) G A 5 (kMod y a th Sr dr pa um im ikp tx ty sn sm at1 pl tk vl fa pf f0 gv mk bo bq) [(1, .int (nI i)), (0, .ref (a 0))] 2 [] := by
    intro nn
    induction nn with
    | zero => intro i f0 hi hf0 hms; exact absurd hms (Nat.not_lt_zero _)
    | succ nn ih_2 =>
      intro i f0 hi hf0 hms
      refine kw_iload_n C 0 dX7_fewestByOrder_2 rfl ?_
      refine kw_bipush (v := nI 6) C dX7_fewestByOrder_3 (by decide) ?_
      refine kw_icmp_ge_N (tgt := 21) C (by omega) (by omega) dX7_fewestByOrder_5 (by decide) (fun c_5 => ?_) (fun c_5 => ?_)
      ·
        refine kw_bipush (v := (-9)) C dX7_fewestByOrder_21 (by decide) ?_
        refine kw_exti (aN (pfO N 0)) 9 (kMod y a th Sr dr pa um im ikp tx ty sn sm at1 pl tk vl fa pf (aN (pfO N 0)) gv mk bo bq) rfl (by intro j hj; rw [hf0 j (by omega)]; show nI j = nI (pfO N 0 j); rw [(pfO_0 hN7).2 j hj]) rfl ?_
        refine kw_istore_n C [(1, .int (-9)), (0, .ref (a 0))] dX7_fewestByOrder_23 rfl (by decide) rfl ?_
        refine kw_iconst (v := nI 1) C dX7_fewestByOrder_24 (by decide) ?_
        refine kw_istore_n C [(2, .int (nI 1)), (1, .int (-9)), (0, .ref (a 0))] dX7_fewestByOrder_25 rfl (by decide) rfl ?_
        have L26_2 : ∀ (nn : Nat) (k : Nat) (mb : Bool) (oo : Nat → Nat) (g1 : Nat → Int32) (m1 : Nat → Int32) (b1 : Nat → Int32) (hk : k ≤ (PL N).length) (hmt : mb = true → k < (PL N).length ∧ ∀ q, q < 6 → oo q = pfO N k q) (hmf : mb = false → k = (PL N).length) (hbo : (fbF (lsK W H N pcl ik) (k)).1 ≠ -9 → ∀ q, q < 6 → b1 q = nI (pfO N (fbF (lsK W H N pcl ik) (k)).2 q)) (hms : (PL N).length - k < nn), KW p l e ({ frames := 3, cells := 0, slots := 0, locals := 68 }) s m ([.ref (a 0)] : List Value).toArray below meth c 0 0 (MQ below (va_Qi (fun (r : Int32) (u : (Nat → Int32) × (Nat → Int32) × (Nat → Int32) × (Nat → Int32)) => r = ((fbF (lsK W H N pcl ik) ((PL N).length)).1) ∧ ((fbF (lsK W H N pcl ik) ((PL N).length)).1 ≠ -9 → ∀ q, q < 6 → u.2.2.2 q = nI (pfO N (fbF (lsK W H N pcl ik) ((PL N).length)).2 q))) (fun (u : (Nat → Int32) × (Nat → Int32) × (Nat → Int32) × (Nat → Int32)) t => PO G A (kMod y a th Sr dr pa um im ikp tx ty sn sm at1 pl tk vl fa pf u.1 u.2.1 u.2.2.1 u.2.2.2 bq) t) A) ([.ref (a 0)] : List Value).toArray s 0 0 A) G A 5 (kMod y a th Sr dr pa um im ikp tx ty sn sm at1 pl tk vl fa pf (aN oo) g1 m1 b1 bq) [(2, .int (bI mb)), (1, .int ((fbF (lsK W H N pcl ik) (k)).1)), (0, .ref (a 0))] 26 [] := by
          intro nn
          induction nn with
          | zero => intro k mb oo g1 m1 b1 hk hmt hmf hbo hms; exact absurd hms (Nat.not_lt_zero _)
          | succ nn ih_26 =>
            intro k mb oo g1 m1 b1 hk hmt hmf hbo hms
            refine kw_iload_n C 0 dX7_fewestByOrder_26 rfl ?_
            refine kw_if_eq_B (tgt := 98) C dX7_fewestByOrder_27 (by decide) (fun c_27 => ?_) (fun c_27 => ?_)
            ·
              refine kw_iload_n C 1 dX7_fewestByOrder_98 rfl ?_
              refine kR_i C (aN oo, g1, m1, b1) dX7_fewestByOrder_99 ?_ rfl
              have e : k = (PL N).length := hmf c_27
              rw [e] at hbo ⊢
              exact ⟨rfl, hbo⟩
            ·
              obtain ⟨hkl, hoq⟩ := hmt c_27
              refine kw_aload_n C 2 dX7_fewestByOrder_30 rfl ?_
              refine kw_exti (aN (pfO N k)) 9 (kMod y a th Sr dr pa um im ikp tx ty sn sm at1 pl tk vl fa pf (aN (pfO N k)) g1 m1 b1 bq) rfl (by intro j hj; show nI (oo j) = nI (pfO N k j); rw [hoq j hj]) rfl ?_
              refine kV_i (As := []) (rest := []) (ws' := fun (u : (Nat → Int32) × (Nat → Int32)) => kMod y a th Sr dr pa um im ikp tx ty sn sm at1 pl tk vl fa pf (aN (pfO N k)) u.1 u.2 b1 bq) C (c_X7_leastSet l G y t a th Sr dr pa um im ikp tx ty sn sm at1 pl tk vl fa pf (aN (pfO N k)) g1 m1 b1 bq (pfO N k) W H N pcl ik o bk kk (by exact hR) (by intro q hq; exact ⟨rfl, pfO_lt hN7 hkl q hq⟩)) (cwV 0 C.2.2.2.2.1 (goodV cT wd_740 wd_737 wd_739 wd_22 wd_48) rfl rfl rfl (by decide +kernel) ⟨by decide, by decide⟩) [0, 1, 2, 3, 4, 5, 6, 7, 8, 9, 10, 11, 12, 13] [] [0, 1, 2, 3, 4, 5, 6, 7, 8, 9, 10, 11, 12, 13] rfl (by decide) rfl (by decide) (by decide) (fun _ => rfl) (by decide) 0 rfl rfl rfl (Nat.le_of_ble_eq_true rfl) ⟨by decide, by decide⟩ dX7_fewestByOrder_31 (fun r u hr_5 => ?_)
              obtain ⟨gv1_3, mk1_4⟩ := u
              try dsimp only at hr_5
              obtain ⟨hq, hr_5⟩ := hr_5
              subst hq
              refine kw_top (show (lsM (wtY pcl W H) (fun z => mkP (fun z => gvF (pfO N k) ik z N) z (z + 1)) (2 ^ N)) = (lsK W H N pcl ik k) from by rfl) ?_
              refine kw_istore_n C [(3, .int (lsK W H N pcl ik k)), (2, .int (bI mb)), (1, .int ((fbF (lsK W H N pcl ik) (k)).1)), (0, .ref (a 0))] dX7_fewestByOrder_34 rfl (by decide) rfl ?_
              refine kw_iload_n C 0 dX7_fewestByOrder_35 rfl ?_
              refine kw_bipush (v := (-9)) C dX7_fewestByOrder_36 (by decide) ?_
              have J90_6 : ∀ (few1 : Int32) (b2 : Nat → Int32) (hf1 : few1 = (fbF (lsK W H N pcl ik) (k + 1)).1) (hb2 : (fbF (lsK W H N pcl ik) (k + 1)).1 ≠ -9 → ∀ q, q < 6 → b2 q = nI (pfO N (fbF (lsK W H N pcl ik) (k + 1)).2 q)), KW p l e ({ frames := 3, cells := 0, slots := 0, locals := 68 }) s m ([.ref (a 0)] : List Value).toArray below meth c 0 0 (MQ below (va_Qi (fun (r : Int32) (u : (Nat → Int32) × (Nat → Int32) × (Nat → Int32) × (Nat → Int32)) => r = ((fbF (lsK W H N pcl ik) ((PL N).length)).1) ∧ ((fbF (lsK W H N pcl ik) ((PL N).length)).1 ≠ -9 → ∀ q, q < 6 → u.2.2.2 q = nI (pfO N (fbF (lsK W H N pcl ik) ((PL N).length)).2 q))) (fun (u : (Nat → Int32) × (Nat → Int32) × (Nat → Int32) × (Nat → Int32)) t => PO G A (kMod y a th Sr dr pa um im ikp tx ty sn sm at1 pl tk vl fa pf u.1 u.2.1 u.2.2.1 u.2.2.2 bq) t) A) ([.ref (a 0)] : List Value).toArray s 0 0 A) G A 5 (kMod y a th Sr dr pa um im ikp tx ty sn sm at1 pl tk vl fa pf (aN (pfO N k)) gv1_3 mk1_4 b2 bq) [(3, .int (lsK W H N pcl ik k)), (2, .int (bI mb)), (1, .int few1), (0, .ref (a 0))] 90 [] := by
                intro few1 b2 hf1 hb2
                refine kw_aload_n C 3 dX7_fewestByOrder_90 rfl ?_
                refine kV_i (As := []) (rest := []) (ws' := fun (u : Nat → Nat) => kMod y a th Sr dr pa um im ikp tx ty sn sm at1 pl tk vl fa pf (aN u) gv1_3 mk1_4 b2 bq) C (c_X7_goesOn_any l G y t a th Sr dr pa um im ikp tx ty sn sm at1 pl tk vl fa pf gv1_3 mk1_4 b2 bq (pfO N k) W H N pcl ik o bk kk (by exact hR) (by exact pfO_lt hN7 hkl)) (cwV 0 C.2.2.2.2.1 (goodV cT wd_831 wd_828 wd_830 wd_34 wd_48) rfl rfl rfl (by decide +kernel) ⟨by decide, by decide⟩) [0, 1, 2, 3, 4, 5, 6, 7, 8, 9, 10, 11, 12, 13] [] [0, 1, 2, 3, 4, 5, 6, 7, 8, 9, 10, 11, 12, 13] rfl (by decide) rfl (by decide) (by decide) (fun _ => rfl) (by decide) 0 rfl rfl rfl (Nat.le_of_ble_eq_true rfl) ⟨by decide, by decide⟩ dX7_fewestByOrder_91 (fun r u hr_7 => ?_)
                obtain ⟨oo9, ehr_7⟩ : ∃ z, z = u := ⟨u, rfl⟩
                subst ehr_7
                obtain ⟨hq, hgo⟩ := hr_7
                subst hq
                refine kw_istore_n C [(2, .int (bI (decide (dsc (pfO N k) (N - 1) ≠ 0)))), (3, .int (lsK W H N pcl ik k)), (1, .int few1), (0, .ref (a 0))] dX7_fewestByOrder_94 rfl (by decide) rfl ?_
                refine kw_goto (tgt := 26) C dX7_fewestByOrder_95 (by decide) ?_
                refine KW.loc (lv' := [(2, .int (bI (decide (dsc (pfO N k) (N - 1) ≠ 0)))), (1, .int few1), (0, .ref (a 0))]) [0, 2, 3] rfl ?_
                refine KW.asl (congrArg (fun zq => ([(2, .int (bI (decide (dsc (pfO N k) (N - 1) ≠ 0)))), (1, .int zq), (0, .ref (a 0))] : List (Nat × Value))) (show few1 = ((fbF (lsK W H N pcl ik) ((k + 1))).1) from by exact hf1)) ?_
                exact ih_26 (k + 1) (decide (dsc (pfO N k) (N - 1) ≠ 0)) oo9 gv1_3 mk1_4 b2 (by first | assumption | omega | (simp; done)) (by intro h; have h2 := of_decide_eq_true h; rcases Nat.lt_or_ge (k + 1) (PL N).length with h3 | h3; exact ⟨h3, fun q hq => by rw [hgo.1 h2]; exact (pfO_step hN7 h3).2 q hq⟩; exact absurd (pfO_last hN7 (by omega)) h2) (by intro h; have h2 := of_decide_eq_false h; rcases Nat.lt_or_ge (k + 1) (PL N).length with h3 | h3; exact absurd (pfO_step hN7 h3).1 h2; omega) (by exact hb2) (by omega)
              refine kw_icmp_eq (tgt := 90) C dX7_fewestByOrder_38 (by decide) (fun c_38 => ?_) (fun c_38 => ?_)
              ·
                refine KW.loc (lv' := [(3, .int (lsK W H N pcl ik k)), (2, .int (bI mb)), (1, .int ((fbF (lsK W H N pcl ik) (k)).1)), (0, .ref (a 0))]) [0, 1, 2, 3] rfl ?_
                exact J90_6 ((fbF (lsK W H N pcl ik) (k)).1) b1 (by simp only [fbF]; split <;> rename_i hh <;> first | rfl | exact absurd c_38 hh.1 | exact absurd (And.intro c_38 (Or.inl c_44)) hh | exact absurd (And.intro c_38 (Or.inr (not_le32 c_52))) hh | exact absurd hh.2 (fun q => q.elim c_44 (fun r => absurd r (Int32.not_lt.mpr c_52)))) (by simp only [fbF]; split <;> rename_i hh <;> first | exact fun _ q hq => hb0 q (by omega) | exact hbo | exact absurd c_38 hh.1 | exact absurd (And.intro c_38 (Or.inl c_44)) hh | exact absurd (And.intro c_38 (Or.inr (not_le32 c_52))) hh | exact absurd hh.2 (fun q => q.elim c_44 (fun r => absurd r (Int32.not_lt.mpr c_52))))
              ·
                refine kw_iload_n C 2 dX7_fewestByOrder_41 rfl ?_
                refine kw_bipush (v := (-9)) C dX7_fewestByOrder_42 (by decide) ?_
                refine kw_icmp_eq (tgt := 55) C dX7_fewestByOrder_44 (by decide) (fun c_44 => ?_) (fun c_44 => ?_)
                ·
                  refine kw_iload_n C 0 dX7_fewestByOrder_55 rfl ?_
                  refine kS_i (As := [.int (lsK W H N pcl ik k)]) (rest := []) (ws' := fun (u : Unit) => kMod y a th Sr dr pa um im ikp tx ty sn sm at1 pl tk vl fa pf (aN (pfO N k)) gv1_3 mk1_4 b1 bq) C (c_X7_ones l G y t (lsK W H N pcl ik k)) (va_cwS 1 C.2.2.2.2.1 (goodS cT wd_754 wd_752 wd_753 wd_48) rfl rfl rfl (by decide +kernel) ⟨by decide, by decide⟩) [] [0, 1, 2, 3, 4, 5, 6, 7, 8, 9, 10, 11, 12, 13] [0, 1, 2, 3, 4, 5, 6, 7, 8, 9, 10, 11, 12, 13] rfl (by decide) rfl (by decide) (by decide) (fun _ => rfl) (by decide) rfl (Nat.le_of_ble_eq_true rfl) ⟨by decide, by decide⟩ dX7_fewestByOrder_56 (fun r u hr_8 => ?_)
                  subst hr_8
                  refine kw_istore_n C [(1, .int (onI (lsK W H N pcl ik k) 8)), (3, .int (lsK W H N pcl ik k)), (2, .int (bI mb)), (0, .ref (a 0))] dX7_fewestByOrder_59 rfl (by decide) rfl ?_
                  refine kw_iconst (v := nI 0) C dX7_fewestByOrder_60 (by decide) ?_
                  refine kw_istore C [(4, .int (nI 0)), (1, .int (onI (lsK W H N pcl ik k) 8)), (3, .int (lsK W H N pcl ik k)), (2, .int (bI mb)), (0, .ref (a 0))] dX7_fewestByOrder_61 (by decide) rfl ?_
                  have L63_9 : ∀ (nn : Nat) (i2 : Nat) (b0 : Nat → Int32) (hi2 : i2 ≤ 6) (hb0 : ∀ q, q < i2 → b0 q = nI (pfO N k q)) (hms : 6 - i2 < nn), KW p l e ({ frames := 3, cells := 0, slots := 0, locals := 68 }) s m ([.ref (a 0)] : List Value).toArray below meth c 0 0 (MQ below (va_Qi (fun (r : Int32) (u : (Nat → Int32) × (Nat → Int32) × (Nat → Int32) × (Nat → Int32)) => r = ((fbF (lsK W H N pcl ik) ((PL N).length)).1) ∧ ((fbF (lsK W H N pcl ik) ((PL N).length)).1 ≠ -9 → ∀ q, q < 6 → u.2.2.2 q = nI (pfO N (fbF (lsK W H N pcl ik) ((PL N).length)).2 q))) (fun (u : (Nat → Int32) × (Nat → Int32) × (Nat → Int32) × (Nat → Int32)) t => PO G A (kMod y a th Sr dr pa um im ikp tx ty sn sm at1 pl tk vl fa pf u.1 u.2.1 u.2.2.1 u.2.2.2 bq) t) A) ([.ref (a 0)] : List Value).toArray s 0 0 A) G A 5 (kMod y a th Sr dr pa um im ikp tx ty sn sm at1 pl tk vl fa pf (aN (pfO N k)) gv1_3 mk1_4 b0 bq) [(4, .int (nI i2)), (1, .int (onI (lsK W H N pcl ik k) 8)), (3, .int (lsK W H N pcl ik k)), (2, .int (bI mb)), (0, .ref (a 0))] 63 [] := by
                    intro nn
                    induction nn with
                    | zero => intro i2 b0 hi2 hb0 hms; exact absurd hms (Nat.not_lt_zero _)
                    | succ nn ih_63 =>
                      intro i2 b0 hi2 hb0 hms
                      refine kw_iload C 0 dX7_fewestByOrder_63 rfl ?_
                      refine kw_bipush (v := nI 6) C dX7_fewestByOrder_65 (by decide) ?_
                      refine kw_icmp_ge_N (tgt := 90) C (by omega) (by omega) dX7_fewestByOrder_67 (by decide) (fun c_67 => ?_) (fun c_67 => ?_)
                      ·
                        refine KW.loc (lv' := [(3, .int (lsK W H N pcl ik k)), (2, .int (bI mb)), (1, .int (onI (lsK W H N pcl ik k) 8)), (0, .ref (a 0))]) [2, 3, 1, 4] rfl ?_
                        exact J90_6 (onI (lsK W H N pcl ik k) 8) b0 (by simp only [fbF]; split <;> rename_i hh <;> first | rfl | exact absurd c_38 hh.1 | exact absurd (And.intro c_38 (Or.inl c_44)) hh | exact absurd (And.intro c_38 (Or.inr (not_le32 c_52))) hh | exact absurd hh.2 (fun q => q.elim c_44 (fun r => absurd r (Int32.not_lt.mpr c_52)))) (by simp only [fbF]; split <;> rename_i hh <;> first | exact fun _ q hq => hb0 q (by omega) | exact hbo | exact absurd c_38 hh.1 | exact absurd (And.intro c_38 (Or.inl c_44)) hh | exact absurd (And.intro c_38 (Or.inr (not_le32 c_52))) hh | exact absurd hh.2 (fun q => q.elim c_44 (fun r => absurd r (Int32.not_lt.mpr c_52))))
                      ·
                        refine kw_aload_n C 4 dX7_fewestByOrder_70 rfl ?_
                        refine kw_get (v := .ref (a 12)) (T := TX7) C 0 20 rfl rfl (by decide) (fun w h => mT (fwX7 w h)) rfl (mT wd_635) rfl dX7_fewestByOrder_71 ?_
                        refine kw_iload C 0 dX7_fewestByOrder_74 rfl ?_
                        refine kw_aload_n C 4 dX7_fewestByOrder_76 rfl ?_
                        refine kw_get (v := .ref (a 9)) (T := TX7) C 0 17 rfl rfl (by decide) (fun w h => mT (fwX7 w h)) rfl (mT wd_632) rfl dX7_fewestByOrder_77 ?_
                        refine kw_iload C 0 dX7_fewestByOrder_80 rfl ?_
                        refine kw_iald (f := aN (pfO N k)) C 9 rfl (by omega) (by decide) dX7_fewestByOrder_82 ?_
                        refine kw_top (show ((aN (pfO N k)) i2) = (nI ((pfO N k) i2)) from by rfl) ?_
                        refine kw_iast C 12 (kMod y a th Sr dr pa um im ikp tx ty sn sm at1 pl tk vl fa pf (aN (pfO N k)) gv1_3 mk1_4 (upd b0 i2 (nI ((pfO N k) i2))) bq) rfl (by omega) (by decide) dX7_fewestByOrder_83 rfl ?_
                        refine kw_iinc (v := nI (i2 + 1)) C [(4, .int (nI (i2 + 1))), (1, .int (onI (lsK W H N pcl ik k) 8)), (3, .int (lsK W H N pcl ik k)), (2, .int (bI mb)), (0, .ref (a 0))] 0 dX7_fewestByOrder_84 rfl (nI_1 _) (by decide) rfl ?_
                        refine kw_goto (tgt := 63) C dX7_fewestByOrder_87 (by decide) ?_
                        refine KW.loc (lv' := [(4, .int (nI (i2 + 1))), (1, .int (onI (lsK W H N pcl ik k) 8)), (3, .int (lsK W H N pcl ik k)), (2, .int (bI mb)), (0, .ref (a 0))]) [0, 1, 2, 3, 4] rfl ?_
                        exact ih_63 (i2 + 1) (upd b0 i2 (nI ((pfO N k) i2))) (by first | assumption | omega | (simp; done)) (by intro j hj; rcases Nat.lt_or_ge j i2 with h | h; rw [pk_un (by omega)]; exact hb0 j h; rw [show j = i2 from by omega]; exact pk_us) (by omega)
                  refine KW.loc (lv' := [(4, .int (nI 0)), (1, .int (onI (lsK W H N pcl ik k) 8)), (3, .int (lsK W H N pcl ik k)), (2, .int (bI mb)), (0, .ref (a 0))]) [0, 1, 2, 3, 4] rfl ?_
                  exact L63_9 (6 - 0 + 1) 0 b1 (by first | assumption | omega | (simp; done)) (by intro j hj; exact absurd hj (Nat.not_lt_zero _)) (Nat.lt_succ_self _)
                ·
                  refine kw_iload_n C 0 dX7_fewestByOrder_47 rfl ?_
                  refine kS_i (As := [.int (lsK W H N pcl ik k)]) (rest := []) (ws' := fun (u : Unit) => kMod y a th Sr dr pa um im ikp tx ty sn sm at1 pl tk vl fa pf (aN (pfO N k)) gv1_3 mk1_4 b1 bq) C (c_X7_ones l G y t (lsK W H N pcl ik k)) (va_cwS 1 C.2.2.2.2.1 (goodS cT wd_754 wd_752 wd_753 wd_48) rfl rfl rfl (by decide +kernel) ⟨by decide, by decide⟩) [] [0, 1, 2, 3, 4, 5, 6, 7, 8, 9, 10, 11, 12, 13] [0, 1, 2, 3, 4, 5, 6, 7, 8, 9, 10, 11, 12, 13] rfl (by decide) rfl (by decide) (by decide) (fun _ => rfl) (by decide) rfl (Nat.le_of_ble_eq_true rfl) ⟨by decide, by decide⟩ dX7_fewestByOrder_48 (fun r u hr_10 => ?_)
                  subst hr_10
                  refine kw_iload_n C 2 dX7_fewestByOrder_51 rfl ?_
                  refine kw_icmp_ge (tgt := 90) C dX7_fewestByOrder_52 (by decide) (fun c_52 => ?_) (fun c_52 => ?_)
                  ·
                    refine KW.loc (lv' := [(3, .int (lsK W H N pcl ik k)), (2, .int (bI mb)), (1, .int ((fbF (lsK W H N pcl ik) (k)).1)), (0, .ref (a 0))]) [0, 1, 2, 3] rfl ?_
                    exact J90_6 ((fbF (lsK W H N pcl ik) (k)).1) b1 (by simp only [fbF]; split <;> rename_i hh <;> first | rfl | exact absurd c_38 hh.1 | exact absurd (And.intro c_38 (Or.inl c_44)) hh | exact absurd (And.intro c_38 (Or.inr (not_le32 c_52))) hh | exact absurd hh.2 (fun q => q.elim c_44 (fun r => absurd r (Int32.not_lt.mpr c_52)))) (by simp only [fbF]; split <;> rename_i hh <;> first | exact fun _ q hq => hb0 q (by omega) | exact hbo | exact absurd c_38 hh.1 | exact absurd (And.intro c_38 (Or.inl c_44)) hh | exact absurd (And.intro c_38 (Or.inr (not_le32 c_52))) hh | exact absurd hh.2 (fun q => q.elim c_44 (fun r => absurd r (Int32.not_lt.mpr c_52))))
                  ·
                    refine kw_iload_n C 0 dX7_fewestByOrder_55 rfl ?_
                    refine kS_i (As := [.int (lsK W H N pcl ik k)]) (rest := []) (ws' := fun (u : Unit) => kMod y a th Sr dr pa um im ikp tx ty sn sm at1 pl tk vl fa pf (aN (pfO N k)) gv1_3 mk1_4 b1 bq) C (c_X7_ones l G y t (lsK W H N pcl ik k)) (va_cwS 1 C.2.2.2.2.1 (goodS cT wd_754 wd_752 wd_753 wd_48) rfl rfl rfl (by decide +kernel) ⟨by decide, by decide⟩) [] [0, 1, 2, 3, 4, 5, 6, 7, 8, 9, 10, 11, 12, 13] [0, 1, 2, 3, 4, 5, 6, 7, 8, 9, 10, 11, 12, 13] rfl (by decide) rfl (by decide) (by decide) (fun _ => rfl) (by decide) rfl (Nat.le_of_ble_eq_true rfl) ⟨by decide, by decide⟩ dX7_fewestByOrder_56 (fun r u hr_11 => ?_)
                    subst hr_11
                    refine kw_istore_n C [(1, .int (onI (lsK W H N pcl ik k) 8)), (3, .int (lsK W H N pcl ik k)), (2, .int (bI mb)), (0, .ref (a 0))] dX7_fewestByOrder_59 rfl (by decide) rfl ?_
                    refine kw_iconst (v := nI 0) C dX7_fewestByOrder_60 (by decide) ?_
                    refine kw_istore C [(4, .int (nI 0)), (1, .int (onI (lsK W H N pcl ik k) 8)), (3, .int (lsK W H N pcl ik k)), (2, .int (bI mb)), (0, .ref (a 0))] dX7_fewestByOrder_61 (by decide) rfl ?_
                    have L63_12 : ∀ (nn : Nat) (i2 : Nat) (b0 : Nat → Int32) (hi2 : i2 ≤ 6) (hb0 : ∀ q, q < i2 → b0 q = nI (pfO N k q)) (hms : 6 - i2 < nn), KW p l e ({ frames := 3, cells := 0, slots := 0, locals := 68 }) s m ([.ref (a 0)] : List Value).toArray below meth c 0 0 (MQ below (va_Qi (fun (r : Int32) (u : (Nat → Int32) × (Nat → Int32) × (Nat → Int32) × (Nat → Int32)) => r = ((fbF (lsK W H N pcl ik) ((PL N).length)).1) ∧ ((fbF (lsK W H N pcl ik) ((PL N).length)).1 ≠ -9 → ∀ q, q < 6 → u.2.2.2 q = nI (pfO N (fbF (lsK W H N pcl ik) ((PL N).length)).2 q))) (fun (u : (Nat → Int32) × (Nat → Int32) × (Nat → Int32) × (Nat → Int32)) t => PO G A (kMod y a th Sr dr pa um im ikp tx ty sn sm at1 pl tk vl fa pf u.1 u.2.1 u.2.2.1 u.2.2.2 bq) t) A) ([.ref (a 0)] : List Value).toArray s 0 0 A) G A 5 (kMod y a th Sr dr pa um im ikp tx ty sn sm at1 pl tk vl fa pf (aN (pfO N k)) gv1_3 mk1_4 b0 bq) [(4, .int (nI i2)), (1, .int (onI (lsK W H N pcl ik k) 8)), (3, .int (lsK W H N pcl ik k)), (2, .int (bI mb)), (0, .ref (a 0))] 63 [] := by
                      intro nn
                      induction nn with
                      | zero => intro i2 b0 hi2 hb0 hms; exact absurd hms (Nat.not_lt_zero _)
                      | succ nn ih_63 =>
                        intro i2 b0 hi2 hb0 hms
                        refine kw_iload C 0 dX7_fewestByOrder_63 rfl ?_
                        refine kw_bipush (v := nI 6) C dX7_fewestByOrder_65 (by decide) ?_
                        refine kw_icmp_ge_N (tgt := 90) C (by omega) (by omega) dX7_fewestByOrder_67 (by decide) (fun c_67 => ?_) (fun c_67 => ?_)
                        ·
                          refine KW.loc (lv' := [(3, .int (lsK W H N pcl ik k)), (2, .int (bI mb)), (1, .int (onI (lsK W H N pcl ik k) 8)), (0, .ref (a 0))]) [2, 3, 1, 4] rfl ?_
                          exact J90_6 (onI (lsK W H N pcl ik k) 8) b0 (by simp only [fbF]; split <;> rename_i hh <;> first | rfl | exact absurd c_38 hh.1 | exact absurd (And.intro c_38 (Or.inl c_44)) hh | exact absurd (And.intro c_38 (Or.inr (not_le32 c_52))) hh | exact absurd hh.2 (fun q => q.elim c_44 (fun r => absurd r (Int32.not_lt.mpr c_52)))) (by simp only [fbF]; split <;> rename_i hh <;> first | exact fun _ q hq => hb0 q (by omega) | exact hbo | exact absurd c_38 hh.1 | exact absurd (And.intro c_38 (Or.inl c_44)) hh | exact absurd (And.intro c_38 (Or.inr (not_le32 c_52))) hh | exact absurd hh.2 (fun q => q.elim c_44 (fun r => absurd r (Int32.not_lt.mpr c_52))))
                        ·
                          refine kw_aload_n C 4 dX7_fewestByOrder_70 rfl ?_
                          refine kw_get (v := .ref (a 12)) (T := TX7) C 0 20 rfl rfl (by decide) (fun w h => mT (fwX7 w h)) rfl (mT wd_635) rfl dX7_fewestByOrder_71 ?_
                          refine kw_iload C 0 dX7_fewestByOrder_74 rfl ?_
                          refine kw_aload_n C 4 dX7_fewestByOrder_76 rfl ?_
                          refine kw_get (v := .ref (a 9)) (T := TX7) C 0 17 rfl rfl (by decide) (fun w h => mT (fwX7 w h)) rfl (mT wd_632) rfl dX7_fewestByOrder_77 ?_
                          refine kw_iload C 0 dX7_fewestByOrder_80 rfl ?_
                          refine kw_iald (f := aN (pfO N k)) C 9 rfl (by omega) (by decide) dX7_fewestByOrder_82 ?_
                          refine kw_top (show ((aN (pfO N k)) i2) = (nI ((pfO N k) i2)) from by rfl) ?_
                          refine kw_iast C 12 (kMod y a th Sr dr pa um im ikp tx ty sn sm at1 pl tk vl fa pf (aN (pfO N k)) gv1_3 mk1_4 (upd b0 i2 (nI ((pfO N k) i2))) bq) rfl (by omega) (by decide) dX7_fewestByOrder_83 rfl ?_
                          refine kw_iinc (v := nI (i2 + 1)) C [(4, .int (nI (i2 + 1))), (1, .int (onI (lsK W H N pcl ik k) 8)), (3, .int (lsK W H N pcl ik k)), (2, .int (bI mb)), (0, .ref (a 0))] 0 dX7_fewestByOrder_84 rfl (nI_1 _) (by decide) rfl ?_
                          refine kw_goto (tgt := 63) C dX7_fewestByOrder_87 (by decide) ?_
                          refine KW.loc (lv' := [(4, .int (nI (i2 + 1))), (1, .int (onI (lsK W H N pcl ik k) 8)), (3, .int (lsK W H N pcl ik k)), (2, .int (bI mb)), (0, .ref (a 0))]) [0, 1, 2, 3, 4] rfl ?_
                          exact ih_63 (i2 + 1) (upd b0 i2 (nI ((pfO N k) i2))) (by first | assumption | omega | (simp; done)) (by intro j hj; rcases Nat.lt_or_ge j i2 with h | h; rw [pk_un (by omega)]; exact hb0 j h; rw [show j = i2 from by omega]; exact pk_us) (by omega)
                    refine KW.loc (lv' := [(4, .int (nI 0)), (1, .int (onI (lsK W H N pcl ik k) 8)), (3, .int (lsK W H N pcl ik k)), (2, .int (bI mb)), (0, .ref (a 0))]) [0, 1, 2, 3, 4] rfl ?_
                    exact L63_12 (6 - 0 + 1) 0 b1 (by first | assumption | omega | (simp; done)) (by intro j hj; exact absurd hj (Nat.not_lt_zero _)) (Nat.lt_succ_self _)
        refine KW.loc (lv' := [(2, .int (nI 1)), (1, .int (-9)), (0, .ref (a 0))]) [0, 1, 2] rfl ?_
        refine KW.asl (congrArg (fun zq => ([(2, .int zq), (1, .int (-9)), (0, .ref (a 0))] : List (Nat × Value))) (show (nI 1) = (bI true) from by rfl)) ?_
        refine KW.asl (congrArg (fun zq => ([(2, .int (bI true)), (1, .int zq), (0, .ref (a 0))] : List (Nat × Value))) (show (-9) = ((fbF (lsK W H N pcl ik) (0)).1) from by rfl)) ?_
        exact L26_2 ((PL N).length - 0 + 1) 0 true (pfO N 0) gv mk bo (by first | assumption | omega | (simp; done)) (by exact fun _ => ⟨(pfO_0 hN7).1, fun _ _ => rfl⟩) (by intro h; cases h) (by exact fun h => absurd rfl h) (Nat.lt_succ_self _)
      ·
        refine kw_aload_n C 1 dX7_fewestByOrder_8 rfl ?_
        refine kw_get (v := .ref (a 9)) (T := TX7) C 0 17 rfl rfl (by decide) (fun w h => mT (fwX7 w h)) rfl (mT wd_632) rfl dX7_fewestByOrder_9 ?_
        refine kw_iload_n C 0 dX7_fewestByOrder_12 rfl ?_
        refine kw_iload_n C 0 dX7_fewestByOrder_13 rfl ?_
        refine kw_iast C 9 (kMod y a th Sr dr pa um im ikp tx ty sn sm at1 pl tk vl fa pf (upd f0 i (nI i)) gv mk bo bq) rfl (by omega) (by decide) dX7_fewestByOrder_14 rfl ?_
        refine kw_iinc (v := nI (i + 1)) C [(1, .int (nI (i + 1))), (0, .ref (a 0))] 0 dX7_fewestByOrder_15 rfl (nI_1 _) (by decide) rfl ?_
        refine kw_goto (tgt := 2) C dX7_fewestByOrder_18 (by decide) ?_
        refine KW.loc (lv' := [(1, .int (nI (i + 1))), (0, .ref (a 0))]) [0, 1] rfl ?_
        exact ih_2 (i + 1) (upd f0 i (nI i)) (by first | assumption | omega | (simp; done)) (by intro j hj; rcases Nat.lt_or_ge j i with h | h; rw [pk_un (by omega)]; exact hf0 j h; rw [show j = i from by omega]; exact pk_us) (by omega)
  refine KW.loc (lv' := [(1, .int (nI 0)), (0, .ref (a 0))]) [0, 1] rfl ?_
  exact L2_1 (6 - 0 + 1) 0 odr (by first | assumption | omega | (simp; done)) (by intro j hj; exact absurd hj (Nat.not_lt_zero _)) (Nat.lt_succ_self _)

set_option maxHeartbeats 4000000 in
set_option maxRecDepth 100000 in
theorem c_X7_order_bad (l : Launch) (G : va_G) (y : Nat → ClassId) (t : Nat) (a : Nat → Nat) (th : Int32) (Sr : Nat → Int32) (dr : Nat → Int32) (pa : Nat → Int32) (um : Int32) (im : Nat → Int32) (ikp : Nat → Int32) (tx : Nat → Int32) (ty : Int32) (sn : Nat → Int32) (sm : Int32) (at1 : Int32) (pl : Int32) (tk : Int32) (vl : Int32) (fa : Int32) (pf : Nat → Int32) (odr : Nat → Int32) (gv : Nat → Int32) (mk : Nat → Int32) (bo : Nat → Int32) (bq : Nat → Int32) (i : Int32) (hb : i < -1) (sz : Nat) : Met l yX7_order (Cond.code yX7_order cX7_order 3 (some .int) :: TG) ({ frames := 0, cells := 0, slots := 0, locals := 0 }) (va_Pc [.ref (a 0), .int i] (PR G y t (kMod y a th Sr dr pa um im ikp tx ty sn sm at1 pl tk vl fa pf odr gv mk bo bq) sz)) (va_Qi (fun (r : Int32) (u : Unit) => r = (-1)) (fun (u : Unit) t => PO G (va_A (kMod y a th Sr dr pa um im ikp tx ty sn sm at1 pl tk vl fa pf odr gv mk bo bq) sz) (kMod y a (nI 0) Sr dr pa um im ikp tx ty sn sm at1 pl tk vl fa pf odr gv mk bo bq) t) (va_A (kMod y a th Sr dr pa um im ikp tx ty sn sm at1 pl tk vl fa pf odr gv mk bo bq) sz)) 0 0 (va_A (kMod y a th Sr dr pa um im ikp tx ty sn sm at1 pl tk vl fa pf odr gv mk bo bq) sz) := by
  refine kMet (cc := cX7_order) (maxL := 3) (ret := some .int) (Qc := fun A => va_Qi (fun (r : Int32) (u : Unit) => r = (-1)) (fun (u : Unit) t => PO G A (kMod y a (nI 0) Sr dr pa um im ikp tx ty sn sm at1 pl tk vl fa pf odr gv mk bo bq) t) A) (by decide) rfl (Nat.le_of_ble_eq_true rfl) (fun p e s m below meth c A hsz C hin => ?_)
  refine KW.loc (lv' := [(0, .ref (a 0)), (1, .int i)]) [0, 1] rfl ?_
  refine kw_aload_n C 0 dX7_order_0 rfl ?_
  refine kw_iconst (v := nI 0) C dX7_order_1 (by decide) ?_
  refine kw_put (T := TX7) (ty := .int) C 0 0 (kMod y a (nI 0) Sr dr pa um im ikp tx ty sn sm at1 pl tk vl fa pf odr gv mk bo bq) rfl rfl (by decide) (fun w h => mT (fwX7 w h)) tyX7 tyX7_ok nmX7 rfl (mT wd_615) rfl (by decide +kernel) rfl rfl (Nat.le_of_ble_eq_true rfl) dX7_order_2 rfl ?_
  refine kw_iload_n C 1 dX7_order_5 rfl ?_
  refine kw_iconst (v := (-1)) C dX7_order_6 (by decide) ?_
  refine kw_icmp_ge (tgt := 12) C dX7_order_7 (by decide) (fun c_7 => ?_) (fun c_7 => ?_)
  ·
    exact absurd hb (Int32.not_lt.mpr c_7)
  ·
    refine kw_iconst (v := (-1)) C dX7_order_10 (by decide) ?_
    refine kR_i C () dX7_order_11 ?_ rfl
    first | rfl | trivial | (simp; done) | omega

set_option maxHeartbeats 4000000 in
set_option maxRecDepth 100000 in
theorem c_X7_order_big (l : Launch) (G : va_G) (y : Nat → ClassId) (t : Nat) (a : Nat → Nat) (th : Int32) (Sr : Nat → Int32) (dr : Nat → Int32) (pa : Nat → Int32) (um : Int32) (im : Nat → Int32) (ikp : Nat → Int32) (tx : Nat → Int32) (ty : Int32) (sn : Nat → Int32) (sm : Int32) (at1 : Int32) (pl : Int32) (tk : Int32) (vl : Int32) (fa : Int32) (pf : Nat → Int32) (odr : Nat → Int32) (gv : Nat → Int32) (mk : Nat → Int32) (bo : Nat → Int32) (bq : Nat → Int32) (i : Int32) (W : Nat) (H : Nat) (N : Nat) (pcl : Nat → Nat) (ik : Nat → Nat) (o : Nat → Nat) (bk : Nat → Nat) (kk : Nat → Nat) (hR : RowOk Sr W H N pcl ik o bk kk) (hb : ¬ i < -1) (hm1 : i ≠ -1) (hbg : nI N ≤ i) (sz : Nat) : Met l yX7_order (Cond.code yX7_order cX7_order 3 (some .int) :: TG) ({ frames := 4, cells := 0, slots := 0, locals := 92 }) (va_Pc [.ref (a 0), .int i] (PR G y t (kMod y a th Sr dr pa um im ikp tx ty sn sm at1 pl tk vl fa pf odr gv mk bo bq) sz)) (va_Qi (fun (r : Int32) (u : (Nat → Int32) × (Nat → Int32) × (Nat → Int32) × (Nat → Int32)) => r = (-9)) (fun (u : (Nat → Int32) × (Nat → Int32) × (Nat → Int32) × (Nat → Int32)) t => PO G (va_A (kMod y a th Sr dr pa um im ikp tx ty sn sm at1 pl tk vl fa pf odr gv mk bo bq) sz) (kMod y a (nI 0) Sr dr pa um im ikp tx ty sn sm at1 pl tk vl fa pf u.1 u.2.1 u.2.2.1 u.2.2.2 bq) t) (va_A (kMod y a th Sr dr pa um im ikp tx ty sn sm at1 pl tk vl fa pf odr gv mk bo bq) sz)) 0 0 (va_A (kMod y a th Sr dr pa um im ikp tx ty sn sm at1 pl tk vl fa pf odr gv mk bo bq) sz) := by
  refine kMet (cc := cX7_order) (maxL := 3) (ret := some .int) (Qc := fun A => va_Qi (fun (r : Int32) (u : (Nat → Int32) × (Nat → Int32) × (Nat → Int32) × (Nat → Int32)) => r = (-9)) (fun (u : (Nat → Int32) × (Nat → Int32) × (Nat → Int32) × (Nat → Int32)) t => PO G A (kMod y a (nI 0) Sr dr pa um im ikp tx ty sn sm at1 pl tk vl fa pf u.1 u.2.1 u.2.2.1 u.2.2.2 bq) t) A) (by decide) rfl (Nat.le_of_ble_eq_true rfl) (fun p e s m below meth c A hsz C hin => ?_)
  obtain ⟨hS0, hS1, hS2, hW, hH, hN, hpic, hink, hord, hblk, hdx⟩ := id hR
  refine KW.loc (lv' := [(0, .ref (a 0)), (1, .int i)]) [0, 1] rfl ?_
  refine kw_aload_n C 0 dX7_order_0 rfl ?_
  refine kw_iconst (v := nI 0) C dX7_order_1 (by decide) ?_
  refine kw_put (T := TX7) (ty := .int) C 0 0 (kMod y a (nI 0) Sr dr pa um im ikp tx ty sn sm at1 pl tk vl fa pf odr gv mk bo bq) rfl rfl (by decide) (fun w h => mT (fwX7 w h)) tyX7 tyX7_ok nmX7 rfl (mT wd_615) rfl (by decide +kernel) rfl rfl (Nat.le_of_ble_eq_true rfl) dX7_order_2 rfl ?_
  refine kw_iload_n C 1 dX7_order_5 rfl ?_
  refine kw_iconst (v := (-1)) C dX7_order_6 (by decide) ?_
  refine kw_icmp_ge (tgt := 12) C dX7_order_7 (by decide) (fun c_7 => ?_) (fun c_7 => ?_)
  ·
    refine kw_aload_n C 0 dX7_order_12 rfl ?_
    refine kV_i (As := []) (rest := []) (ws' := fun (u : (Nat → Int32) × (Nat → Int32) × (Nat → Int32) × (Nat → Int32)) => kMod y a (nI 0) Sr dr pa um im ikp tx ty sn sm at1 pl tk vl fa pf u.1 u.2.1 u.2.2.1 u.2.2.2 bq) C (c_X7_fewestByOrder l G y t a (nI 0) Sr dr pa um im ikp tx ty sn sm at1 pl tk vl fa pf odr gv mk bo bq W H N pcl ik o bk kk (by exact hR)) (cwV 0 C.2.2.2.2.1 (goodV cT wd_827 wd_824 wd_826 wd_33 wd_48) rfl rfl rfl (by decide +kernel) ⟨by decide, by decide⟩) [0, 1, 2, 3, 4, 5, 6, 7, 8, 9, 10, 11, 12, 13] [] [0, 1, 2, 3, 4, 5, 6, 7, 8, 9, 10, 11, 12, 13] rfl (by decide) rfl (by decide) (by decide) (fun _ => rfl) (by decide) 0 rfl rfl rfl (Nat.le_of_ble_eq_true rfl) ⟨by decide, by decide⟩ dX7_order_13 (fun r u hr_4 => ?_)
    obtain ⟨od1_1, gv1_2, mk1_3, bo_b⟩ := u
    try dsimp only at hr_4
    obtain ⟨hq, hbo⟩ := hr_4
    subst hq
    refine kw_istore_n C [(2, .int ((fbF (lsK W H N pcl ik) ((PL N).length)).1)), (0, .ref (a 0)), (1, .int i)] dX7_order_16 rfl (by decide) rfl ?_
    refine kw_iload_n C 0 dX7_order_17 rfl ?_
    refine kw_bipush (v := (-9)) C dX7_order_18 (by decide) ?_
    refine kw_icmp_eq (tgt := 28) C dX7_order_20 (by decide) (fun c_20 => ?_) (fun c_20 => ?_)
    ·
      refine kw_iload_n C 0 dX7_order_28 rfl ?_
      refine kw_goto (tgt := 53) C dX7_order_29 (by decide) ?_
      refine kR_i C (od1_1, gv1_2, mk1_3, bo_b) dX7_order_53 ?_ rfl
      first | rfl | exact c_20
    ·
      refine kw_iload_n C 2 dX7_order_23 rfl ?_
      refine kw_iconst (v := (-1)) C dX7_order_24 (by decide) ?_
      refine kw_icmp_ne (tgt := 32) C dX7_order_25 (by decide) (fun c_25 => ?_) (fun c_25 => ?_)
      ·
        refine kw_iload_n C 2 dX7_order_32 rfl ?_
        refine kw_aload_n C 1 dX7_order_33 rfl ?_
        refine kw_get (v := .ref (a 1)) (T := TX7) C 0 1 rfl rfl (by decide) (fun w h => mT (fwX7 w h)) rfl (mT wd_616) rfl dX7_order_34 ?_
        refine kw_iconst (v := nI 2) C dX7_order_37 (by decide) ?_
        refine kw_iald (f := Sr) C 1 rfl (by omega) (by decide) dX7_order_38 ?_
        refine kw_top (show (Sr 2) = (nI N) from by exact hS2) ?_
        refine kw_icmp_ge (tgt := 51) C dX7_order_39 (by decide) (fun c_39 => ?_) (fun c_39 => ?_)
        ·
          refine kw_bipush (v := (-9)) C dX7_order_51 (by decide) ?_
          refine kR_i C (od1_1, gv1_2, mk1_3, bo_b) dX7_order_53 ?_ rfl
          first | rfl | exact c_20
        ·
          exact absurd hbg c_39
      ·
        exact absurd c_25 hm1
  ·
    exact absurd (not_le32 c_7) hb

set_option maxHeartbeats 4000000 in
set_option maxRecDepth 100000 in
theorem c_X7_order_run (l : Launch) (G : va_G) (y : Nat → ClassId) (t : Nat) (a : Nat → Nat) (th : Int32) (Sr : Nat → Int32) (dr : Nat → Int32) (pa : Nat → Int32) (um : Int32) (im : Nat → Int32) (ikp : Nat → Int32) (tx : Nat → Int32) (ty : Int32) (sn : Nat → Int32) (sm : Int32) (at1 : Int32) (pl : Int32) (tk : Int32) (vl : Int32) (fa : Int32) (pf : Nat → Int32) (odr : Nat → Int32) (gv : Nat → Int32) (mk : Nat → Int32) (bo : Nat → Int32) (bq : Nat → Int32) (g : Nat) (W : Nat) (H : Nat) (N : Nat) (pcl : Nat → Nat) (ik : Nat → Nat) (o : Nat → Nat) (bk : Nat → Nat) (kk : Nat → Nat) (hR : RowOk Sr W H N pcl ik o bk kk) (hg : g ≤ N) (sz : Nat) : Met l yX7_order (Cond.code yX7_order cX7_order 3 (some .int) :: TG) ({ frames := 4, cells := 0, slots := 0, locals := 92 }) (va_Pc [.ref (a 0), .int (gs g)] (PR G y t (kMod y a th Sr dr pa um im ikp tx ty sn sm at1 pl tk vl fa pf odr gv mk bo bq) sz)) (va_Qi (fun (r : Int32) (u : (Nat → Int32) × (Nat → Int32) × (Nat → Int32) × (Nat → Int32)) => r = (if (fbF (lsK W H N pcl ik) ((PL N).length)).1 = -9 then (-9) else if g = 0 then (fbF (lsK W H N pcl ik) ((PL N).length)).1 else nI (pfO N (fbF (lsK W H N pcl ik) ((PL N).length)).2 (g - 1)))) (fun (u : (Nat → Int32) × (Nat → Int32) × (Nat → Int32) × (Nat → Int32)) t => PO G (va_A (kMod y a th Sr dr pa um im ikp tx ty sn sm at1 pl tk vl fa pf odr gv mk bo bq) sz) (kMod y a (nI 0) Sr dr pa um im ikp tx ty sn sm at1 pl tk vl fa pf u.1 u.2.1 u.2.2.1 u.2.2.2 bq) t) (va_A (kMod y a th Sr dr pa um im ikp tx ty sn sm at1 pl tk vl fa pf odr gv mk bo bq) sz)) 0 0 (va_A (kMod y a th Sr dr pa um im ikp tx ty sn sm at1 pl tk vl fa pf odr gv mk bo bq) sz) := by
  refine kMet (cc := cX7_order) (maxL := 3) (ret := some .int) (Qc := fun A => va_Qi (fun (r : Int32) (u : (Nat → Int32) × (Nat → Int32) × (Nat → Int32) × (Nat → Int32)) => r = (if (fbF (lsK W H N pcl ik) ((PL N).length)).1 = -9 then (-9) else if g = 0 then (fbF (lsK W H N pcl ik) ((PL N).length)).1 else nI (pfO N (fbF (lsK W H N pcl ik) ((PL N).length)).2 (g - 1)))) (fun (u : (Nat → Int32) × (Nat → Int32) × (Nat → Int32) × (Nat → Int32)) t => PO G A (kMod y a (nI 0) Sr dr pa um im ikp tx ty sn sm at1 pl tk vl fa pf u.1 u.2.1 u.2.2.1 u.2.2.2 bq) t) A) (by decide) rfl (Nat.le_of_ble_eq_true rfl) (fun p e s m below meth c A hsz C hin => ?_)
  obtain ⟨hS0, hS1, hS2, hW, hH, hN, hpic, hink, hord, hblk, hdx⟩ := id hR
  refine KW.loc (lv' := [(0, .ref (a 0)), (1, .int (gs g))]) [0, 1] rfl ?_
  refine kw_aload_n C 0 dX7_order_0 rfl ?_
  refine kw_iconst (v := nI 0) C dX7_order_1 (by decide) ?_
  refine kw_put (T := TX7) (ty := .int) C 0 0 (kMod y a (nI 0) Sr dr pa um im ikp tx ty sn sm at1 pl tk vl fa pf odr gv mk bo bq) rfl rfl (by decide) (fun w h => mT (fwX7 w h)) tyX7 tyX7_ok nmX7 rfl (mT wd_615) rfl (by decide +kernel) rfl rfl (Nat.le_of_ble_eq_true rfl) dX7_order_2 rfl ?_
  refine kw_iload_n C 1 dX7_order_5 rfl ?_
  refine kw_iconst (v := (-1)) C dX7_order_6 (by decide) ?_
  refine kw_icmp_ge (tgt := 12) C dX7_order_7 (by decide) (fun c_7 => ?_) (fun c_7 => ?_)
  ·
    refine kw_aload_n C 0 dX7_order_12 rfl ?_
    refine kV_i (As := []) (rest := []) (ws' := fun (u : (Nat → Int32) × (Nat → Int32) × (Nat → Int32) × (Nat → Int32)) => kMod y a (nI 0) Sr dr pa um im ikp tx ty sn sm at1 pl tk vl fa pf u.1 u.2.1 u.2.2.1 u.2.2.2 bq) C (c_X7_fewestByOrder l G y t a (nI 0) Sr dr pa um im ikp tx ty sn sm at1 pl tk vl fa pf odr gv mk bo bq W H N pcl ik o bk kk (by exact hR)) (cwV 0 C.2.2.2.2.1 (goodV cT wd_827 wd_824 wd_826 wd_33 wd_48) rfl rfl rfl (by decide +kernel) ⟨by decide, by decide⟩) [0, 1, 2, 3, 4, 5, 6, 7, 8, 9, 10, 11, 12, 13] [] [0, 1, 2, 3, 4, 5, 6, 7, 8, 9, 10, 11, 12, 13] rfl (by decide) rfl (by decide) (by decide) (fun _ => rfl) (by decide) 0 rfl rfl rfl (Nat.le_of_ble_eq_true rfl) ⟨by decide, by decide⟩ dX7_order_13 (fun r u hr_4 => ?_)
    obtain ⟨od1_1, gv1_2, mk1_3, bo_b⟩ := u
    try dsimp only at hr_4
    obtain ⟨hq, hbo⟩ := hr_4
    subst hq
    refine kw_istore_n C [(2, .int ((fbF (lsK W H N pcl ik) ((PL N).length)).1)), (0, .ref (a 0)), (1, .int (gs g))] dX7_order_16 rfl (by decide) rfl ?_
    refine kw_iload_n C 0 dX7_order_17 rfl ?_
    refine kw_bipush (v := (-9)) C dX7_order_18 (by decide) ?_
    refine kw_icmp_eq (tgt := 28) C dX7_order_20 (by decide) (fun c_20 => ?_) (fun c_20 => ?_)
    ·
      refine kw_iload_n C 0 dX7_order_28 rfl ?_
      refine kw_goto (tgt := 53) C dX7_order_29 (by decide) ?_
      refine kR_i C (od1_1, gv1_2, mk1_3, bo_b) dX7_order_53 ?_ rfl
      first | (rw [if_pos c_20]; exact c_20) | (rw [if_neg c_20, if_pos hg0]; done) | (rw [if_neg c_20, if_neg hg0]; done)
    ·
      refine kw_iload_n C 2 dX7_order_23 rfl ?_
      refine kw_iconst (v := (-1)) C dX7_order_24 (by decide) ?_
      refine kw_icmp_ne (tgt := 32) C dX7_order_25 (by decide) (fun c_25 => ?_) (fun c_25 => ?_)
      ·
        have hg0 : ¬ g = 0 := fun h => c_25 ((gs_m1 (by omega)).mpr h)
        refine kw_iload_n C 2 dX7_order_32 rfl ?_
        refine kw_aload_n C 1 dX7_order_33 rfl ?_
        refine kw_get (v := .ref (a 1)) (T := TX7) C 0 1 rfl rfl (by decide) (fun w h => mT (fwX7 w h)) rfl (mT wd_616) rfl dX7_order_34 ?_
        refine kw_iconst (v := nI 2) C dX7_order_37 (by decide) ?_
        refine kw_iald (f := Sr) C 1 rfl (by omega) (by decide) dX7_order_38 ?_
        refine kw_top (show (Sr 2) = (nI N) from by exact hS2) ?_
        refine kw_icmp_ge (tgt := 51) C dX7_order_39 (by decide) (fun c_39 => ?_) (fun c_39 => ?_)
        ·
          exact absurd ((gs_ge (by omega) (by omega)).mp c_39) (by omega)
        ·
          refine kw_aload_n C 1 dX7_order_42 rfl ?_
          refine kw_get (v := .ref (a 12)) (T := TX7) C 0 20 rfl rfl (by decide) (fun w h => mT (fwX7 w h)) rfl (mT wd_635) rfl dX7_order_43 ?_
          refine kw_iload_n C 2 dX7_order_46 rfl ?_
          refine kw_top (show (gs g) = (nI (g - 1)) from by rw [show g = (g - 1) + 1 from by omega, gs_s]; rfl) ?_
          refine kw_iald (f := bo_b) C 12 rfl (by omega) (by decide) dX7_order_47 ?_
          refine kw_top (show (bo_b (g - 1)) = (nI (pfO N (fbF (lsK W H N pcl ik) ((PL N).length)).2 (g - 1))) from by exact hbo c_20 _ (by omega)) ?_
          refine kw_goto (tgt := 53) C dX7_order_48 (by decide) ?_
          refine kR_i C (od1_1, gv1_2, mk1_3, bo_b) dX7_order_53 ?_ rfl
          first | (rw [if_pos c_20]; exact c_20) | (rw [if_neg c_20, if_pos hg0]; done) | (rw [if_neg c_20, if_neg hg0]; done)
      ·
        have hg0 : g = 0 := (gs_m1 (by omega)).mp c_25
        refine kw_iload_n C 0 dX7_order_28 rfl ?_
        refine kw_goto (tgt := 53) C dX7_order_29 (by decide) ?_
        refine kR_i C (od1_1, gv1_2, mk1_3, bo_b) dX7_order_53 ?_ rfl
        first | (rw [if_pos c_20]; exact c_20) | (rw [if_neg c_20, if_pos hg0]; done) | (rw [if_neg c_20, if_neg hg0]; done)
  ·
    exact absurd (gs_le (by omega)) c_7

set_option maxHeartbeats 4000000 in
set_option maxRecDepth 100000 in
theorem c_X7_tries (l : Launch) (G : va_G) (y : Nat → ClassId) (t : Nat) (a : Nat → Nat) (th : Int32) (Sr : Nat → Int32) (dr : Nat → Int32) (pa : Nat → Int32) (um : Int32) (im : Nat → Int32) (ikp : Nat → Int32) (tx : Nat → Int32) (ty : Int32) (sn : Nat → Int32) (sm : Int32) (at1 : Int32) (pl : Int32) (tk : Int32) (vl : Int32) (fa : Int32) (pf : Nat → Int32) (odr : Nat → Int32) (gv : Nat → Int32) (mk : Nat → Int32) (bo : Nat → Int32) (bq : Nat → Int32) (g : Nat) (W : Nat) (H : Nat) (N : Nat) (pcl : Nat → Nat) (ik : Nat → Nat) (o : Nat → Nat) (bk : Nat → Nat) (kk : Nat → Nat) (hR : RowOk Sr W H N pcl ik o bk kk) (hg : g ≤ 9 * N) (sz : Nat) : Met l yX7_tries (Cond.code yX7_tries cX7_tries 5 (some .boolean) :: TG) ({ frames := 3, cells := 0, slots := 0, locals := 74 }) (va_Pc [.ref (a 0), .int (gs g)] (PR G y t (kMod y a th Sr dr pa um im ikp tx ty sn sm at1 pl tk vl fa pf odr gv mk bo bq) sz)) (va_Qi (fun (r : Int32) (u : Nat → Int32) => r = (bI (!skip kk g)) ∧ ((!skip kk g) = true → u = aN (pvG W H N bk ik o kk g))) (fun (u : Nat → Int32) t => PO G (va_A (kMod y a th Sr dr pa um im ikp tx ty sn sm at1 pl tk vl fa pf odr gv mk bo bq) sz) (kMod y a th Sr dr pa um im ikp tx ty sn sm at1 pl tk vl fa u odr gv mk bo bq) t) (va_A (kMod y a th Sr dr pa um im ikp tx ty sn sm at1 pl tk vl fa pf odr gv mk bo bq) sz)) 0 0 (va_A (kMod y a th Sr dr pa um im ikp tx ty sn sm at1 pl tk vl fa pf odr gv mk bo bq) sz) := by
  refine kMet (cc := cX7_tries) (maxL := 5) (ret := some .boolean) (Qc := fun A => va_Qi (fun (r : Int32) (u : Nat → Int32) => r = (bI (!skip kk g)) ∧ ((!skip kk g) = true → u = aN (pvG W H N bk ik o kk g))) (fun (u : Nat → Int32) t => PO G A (kMod y a th Sr dr pa um im ikp tx ty sn sm at1 pl tk vl fa u odr gv mk bo bq) t) A) (by decide) rfl (Nat.le_of_ble_eq_true rfl) (fun p e s m below meth c A hsz C hin => ?_)
  obtain ⟨hS0, hS1, hS2, hW, hH, hN, hpic, hink, hord, hblk, hdx⟩ := id hR
  refine KW.loc (lv' := [(0, .ref (a 0)), (1, .int (gs g))]) [0, 1] rfl ?_
  refine kw_iload_n C 1 dX7_tries_0 rfl ?_
  refine kw_if_ge (tgt := 14) C dX7_tries_1 (by decide) (fun c_1 => ?_) (fun c_1 => ?_)
  ·
    have hgp := (gs_pos (g := g) (by omega)).mp c_1
    refine kw_iload_n C 1 dX7_tries_14 rfl ?_
    refine kw_top (show (gs g) = (nI (g - 1)) from by rw [show g = (g - 1) + 1 from by omega, gs_s]; rfl) ?_
    refine kw_bipush (v := nI 9) C dX7_tries_15 (by decide) ?_
    refine kw_idiv C dX7_tries_17 (by decide) (kw_top (pk_div (by omega) (by decide) (by decide)) ?_)
    refine kw_istore_n C [(2, .int (nI ((g - 1) / 9))), (0, .ref (a 0)), (1, .int (gs g))] dX7_tries_18 rfl (by decide) rfl ?_
    refine kw_iload_n C 2 dX7_tries_19 rfl ?_
    refine kw_top (show (gs g) = (nI (g - 1)) from by rw [show g = (g - 1) + 1 from by omega, gs_s]; rfl) ?_
    refine kw_bipush (v := nI 9) C dX7_tries_20 (by decide) ?_
    refine kw_irem C dX7_tries_22 (by decide) (kw_top (pk_rem (by omega) (by decide) (by decide)) ?_)
    refine kw_iconst (v := nI 3) C dX7_tries_23 (by decide) ?_
    refine kw_idiv C dX7_tries_24 (by decide) (kw_top (pk_div (by omega) (by decide) (by decide)) ?_)
    refine kw_iconst (v := nI 1) C dX7_tries_25 (by decide) ?_
    refine kw_isub C dX7_tries_26 ?_
    refine kw_top (show ((nI (((g - 1) % 9) / 3)) - (nI 1)) = (dI ((g - 1) % 9 / 3)) from by rfl) ?_
    refine kw_istore_n C [(3, .int (dI ((g - 1) % 9 / 3))), (2, .int (nI ((g - 1) / 9))), (0, .ref (a 0)), (1, .int (gs g))] dX7_tries_27 rfl (by decide) rfl ?_
    refine kw_iload_n C 3 dX7_tries_28 rfl ?_
    refine kw_top (show (gs g) = (nI (g - 1)) from by rw [show g = (g - 1) + 1 from by omega, gs_s]; rfl) ?_
    refine kw_iconst (v := nI 3) C dX7_tries_29 (by decide) ?_
    refine kw_irem C dX7_tries_30 (by decide) (kw_top (pk_rem (by omega) (by decide) (by decide)) ?_)
    refine kw_iconst (v := nI 1) C dX7_tries_31 (by decide) ?_
    refine kw_isub C dX7_tries_32 ?_
    refine kw_top (show ((nI ((g - 1) % 3)) - (nI 1)) = (dI ((g - 1) % 9 % 3)) from by unfold dI; rw [show (g - 1) % 9 % 3 = (g - 1) % 3 from by omega]) ?_
    refine kw_istore C [(4, .int (dI ((g - 1) % 9 % 3))), (3, .int (dI ((g - 1) % 9 / 3))), (2, .int (nI ((g - 1) / 9))), (0, .ref (a 0)), (1, .int (gs g))] dX7_tries_33 (by decide) rfl ?_
    refine kw_aload_n C 3 dX7_tries_35 rfl ?_
    refine kw_get (v := .ref (a 1)) (T := TX7) C 0 1 rfl rfl (by decide) (fun w h => mT (fwX7 w h)) rfl (mT wd_616) rfl dX7_tries_36 ?_
    refine kw_bipush (v := nI 87) C dX7_tries_39 (by decide) ?_
    refine kw_iload_n C 2 dX7_tries_41 rfl ?_
    refine kw_iadd C dX7_tries_42 (kw_top (nI_add _ _) ?_)
    refine kw_iald (f := Sr) C 1 rfl (by omega) (by decide) dX7_tries_43 ?_
    refine kw_top (show (Sr (87 + ((g - 1) / 9))) = (dI (kk ((g - 1) / 9) % 3)) from by exact (hdx ((g - 1) / 9) (by first | assumption | omega)).1) ?_
    have hl_43 := (hdx ((g - 1) / 9) (by first | assumption | omega)).2.2
    refine kw_iload C 0 dX7_tries_44 rfl ?_
    refine kw_icmp_ne (tgt := 64) C dX7_tries_46 (by decide) (fun c_46 => ?_) (fun c_46 => ?_)
    ·
      refine kw_aload_n C 3 dX7_tries_64 rfl ?_
      refine kw_iload_n C 2 dX7_tries_65 rfl ?_
      refine kw_iload C 0 dX7_tries_66 rfl ?_
      refine kw_iload_n C 1 dX7_tries_68 rfl ?_
      refine kV_v (As := [.int (nI ((g - 1) / 9)), .int (dI ((g - 1) % 9 % 3)), .int (dI ((g - 1) % 9 / 3))]) (rest := []) (ws' := fun (u : Unit) => kMod y a th Sr dr pa um im ikp tx ty sn sm at1 pl tk vl fa (aN (pvF W H bk ik o kk (nI ((g - 1) / 9)) ((g - 1) % 9) N)) odr gv mk bo bq) C (c_X7_proves l G y t a th Sr dr pa um im ikp tx ty sn sm at1 pl tk vl fa pf odr gv mk bo bq (nI ((g - 1) / 9)) ((g - 1) % 9) W H N pcl ik o bk kk (by exact hR) (by omega)) (cwV 3 C.2.2.2.2.1 (goodV cT wd_786 wd_783 wd_785 wd_29 wd_48) rfl rfl rfl (by decide +kernel) ⟨by decide, by decide⟩) [0, 1, 2, 3, 4, 5, 6, 7, 8, 9, 10, 11, 12, 13] [] [0, 1, 2, 3, 4, 5, 6, 7, 8, 9, 10, 11, 12, 13] rfl (by decide) rfl (by decide) (by decide) (fun _ => rfl) (by decide) 0 rfl rfl rfl (Nat.le_of_ble_eq_true rfl) ⟨by decide, by decide⟩ dX7_tries_69 (fun u hr_1 => ?_)
      refine kw_iconst (v := nI 1) C dX7_tries_72 (by decide) ?_
      refine kR_z C (aN (pvF W H bk ik o kk (nI ((g - 1) / 9)) ((g - 1) % 9) N)) dX7_tries_73 (by first | decide | exact bI_z _ | rfl) ?_ rfl
      have e : skip kk g = false := by
        unfold skip
        refine decide_eq_false (fun h => ?_)
        first | exact c_46 (by rw [h.2]) | exact c_59 (by rw [h.2])
      have e2 : pvG W H N bk ik o kk g = pvF W H bk ik o kk (nI ((g - 1) / 9)) ((g - 1) % 9) N := by unfold pvG oxM skG; rw [if_neg (by omega), if_neg (by omega)]
      rw [e, e2]; exact ⟨rfl, fun _ => rfl⟩
    ·
      refine kw_aload_n C 3 dX7_tries_49 rfl ?_
      refine kw_get (v := .ref (a 1)) (T := TX7) C 0 1 rfl rfl (by decide) (fun w h => mT (fwX7 w h)) rfl (mT wd_616) rfl dX7_tries_50 ?_
      refine kw_bipush (v := nI 93) C dX7_tries_53 (by decide) ?_
      refine kw_iload_n C 2 dX7_tries_55 rfl ?_
      refine kw_iadd C dX7_tries_56 (kw_top (nI_add _ _) ?_)
      refine kw_iald (f := Sr) C 1 rfl (by omega) (by decide) dX7_tries_57 ?_
      refine kw_top (show (Sr (93 + ((g - 1) / 9))) = (dI (kk ((g - 1) / 9) / 3)) from by exact (hdx ((g - 1) / 9) (by first | assumption | omega)).2.1) ?_
      have hl_57 := (hdx ((g - 1) / 9) (by first | assumption | omega)).2.2
      refine kw_iload_n C 1 dX7_tries_58 rfl ?_
      refine kw_icmp_ne (tgt := 64) C dX7_tries_59 (by decide) (fun c_59 => ?_) (fun c_59 => ?_)
      ·
        refine kw_aload_n C 3 dX7_tries_64 rfl ?_
        refine kw_iload_n C 2 dX7_tries_65 rfl ?_
        refine kw_iload C 0 dX7_tries_66 rfl ?_
        refine kw_iload_n C 1 dX7_tries_68 rfl ?_
        refine kV_v (As := [.int (nI ((g - 1) / 9)), .int (dI ((g - 1) % 9 % 3)), .int (dI ((g - 1) % 9 / 3))]) (rest := []) (ws' := fun (u : Unit) => kMod y a th Sr dr pa um im ikp tx ty sn sm at1 pl tk vl fa (aN (pvF W H bk ik o kk (nI ((g - 1) / 9)) ((g - 1) % 9) N)) odr gv mk bo bq) C (c_X7_proves l G y t a th Sr dr pa um im ikp tx ty sn sm at1 pl tk vl fa pf odr gv mk bo bq (nI ((g - 1) / 9)) ((g - 1) % 9) W H N pcl ik o bk kk (by exact hR) (by omega)) (cwV 3 C.2.2.2.2.1 (goodV cT wd_786 wd_783 wd_785 wd_29 wd_48) rfl rfl rfl (by decide +kernel) ⟨by decide, by decide⟩) [0, 1, 2, 3, 4, 5, 6, 7, 8, 9, 10, 11, 12, 13] [] [0, 1, 2, 3, 4, 5, 6, 7, 8, 9, 10, 11, 12, 13] rfl (by decide) rfl (by decide) (by decide) (fun _ => rfl) (by decide) 0 rfl rfl rfl (Nat.le_of_ble_eq_true rfl) ⟨by decide, by decide⟩ dX7_tries_69 (fun u hr_2 => ?_)
        refine kw_iconst (v := nI 1) C dX7_tries_72 (by decide) ?_
        refine kR_z C (aN (pvF W H bk ik o kk (nI ((g - 1) / 9)) ((g - 1) % 9) N)) dX7_tries_73 (by first | decide | exact bI_z _ | rfl) ?_ rfl
        have e : skip kk g = false := by
          unfold skip
          refine decide_eq_false (fun h => ?_)
          first | exact c_46 (by rw [h.2]) | exact c_59 (by rw [h.2])
        have e2 : pvG W H N bk ik o kk g = pvF W H bk ik o kk (nI ((g - 1) / 9)) ((g - 1) % 9) N := by unfold pvG oxM skG; rw [if_neg (by omega), if_neg (by omega)]
        rw [e, e2]; exact ⟨rfl, fun _ => rfl⟩
      ·
        refine kw_iconst (v := nI 0) C dX7_tries_62 (by decide) ?_
        refine kR_z C (pf) dX7_tries_63 (by first | decide | exact bI_z _ | rfl) ?_ rfl
        have e : skip kk g = true := by
          unfold skip
          have h1 := dI_inj _ (by omega) _ (by omega) c_46
          have h2 := dI_inj _ (by omega) _ (by omega) c_59
          exact decide_eq_true ⟨by omega, by have := (hdx ((g - 1) / 9) (by omega)).2.2; omega⟩
        rw [e]; exact ⟨rfl, fun h => absurd h (by decide)⟩
  ·
    have hg0 : g = 0 := Nat.eq_zero_of_not_pos (fun h => c_1 ((gs_pos (by omega)).mpr h))
    refine kw_aload_n C 0 dX7_tries_4 rfl ?_
    refine kw_bipush (v := (-9)) C dX7_tries_5 (by decide) ?_
    refine kw_iconst (v := nI 0) C dX7_tries_7 (by decide) ?_
    refine kw_iconst (v := nI 0) C dX7_tries_8 (by decide) ?_
    refine KW.ass (congrArg (fun zq => ([.int (nI 0), .int zq, .int (-9), .ref (a 0)] : List Value)) (show (nI 0) = (dI (4 % 3)) from by decide)) ?_
    refine KW.ass (congrArg (fun zq => ([.int zq, .int (dI (4 % 3)), .int (-9), .ref (a 0)] : List Value)) (show (nI 0) = (dI (4 / 3)) from by decide)) ?_
    refine kV_v (As := [.int (-9), .int (dI (4 % 3)), .int (dI (4 / 3))]) (rest := []) (ws' := fun (u : Unit) => kMod y a th Sr dr pa um im ikp tx ty sn sm at1 pl tk vl fa (aN (pvF W H bk ik o kk (-9) 4 N)) odr gv mk bo bq) C (c_X7_proves l G y t a th Sr dr pa um im ikp tx ty sn sm at1 pl tk vl fa pf odr gv mk bo bq (-9) 4 W H N pcl ik o bk kk (by exact hR) (by decide)) (cwV 3 C.2.2.2.2.1 (goodV cT wd_786 wd_783 wd_785 wd_29 wd_48) rfl rfl rfl (by decide +kernel) ⟨by decide, by decide⟩) [0, 1, 2, 3, 4, 5, 6, 7, 8, 9, 10, 11, 12, 13] [] [0, 1, 2, 3, 4, 5, 6, 7, 8, 9, 10, 11, 12, 13] rfl (by decide) rfl (by decide) (by decide) (fun _ => rfl) (by decide) 0 rfl rfl rfl (Nat.le_of_ble_eq_true rfl) ⟨by decide, by decide⟩ dX7_tries_9 (fun u hr_3 => ?_)
    refine kw_iconst (v := nI 1) C dX7_tries_12 (by decide) ?_
    refine kR_z C (aN (pvF W H bk ik o kk (-9) 4 N)) dX7_tries_13 (by first | decide | exact bI_z _ | rfl) ?_ rfl
    subst hg0; exact ⟨rfl, fun _ => rfl⟩

set_option maxHeartbeats 4000000 in
set_option maxRecDepth 100000 in
theorem c_X7_isSeen (l : Launch) (G : va_G) (y : Nat → ClassId) (t : Nat) (a : Nat → Nat) (th : Int32) (Sr : Nat → Int32) (dr : Nat → Int32) (pa : Nat → Int32) (um : Int32) (im : Nat → Int32) (ikp : Nat → Int32) (tx : Nat → Int32) (ty : Int32) (sn : Nat → Int32) (at1 : Int32) (pl : Int32) (tk : Int32) (vl : Int32) (fa : Int32) (odr : Nat → Int32) (gv : Nat → Int32) (mk : Nat → Int32) (bo : Nat → Int32) (bq : Nat → Int32) (pv : Nat → Nat) (M : Nat) (sx : Nat → Nat) (sy : Nat → Nat) (sc : Nat → Nat) (W : Nat) (H : Nat) (N : Nat) (pcl : Nat → Nat) (ik : Nat → Nat) (o : Nat → Nat) (bk : Nat → Nat) (kk : Nat → Nat) (hR : RowOk Sr W H N pcl ik o bk kk) (hM : M ≤ 6) (hse : ∀ i, i < M → sn (3 * i) = nI (sx i) ∧ sn (3 * i + 1) = nI (sy i) ∧ sn (3 * i + 2) = nI (sc i) ∧ sx i < 6 ∧ sy i < 6 ∧ sc i < 8) (hpv : ∀ j, pv j < 8) (sz : Nat) : Met l yX7_isSeen (Cond.code yX7_isSeen cX7_isSeen 5 (some .boolean) :: TG) ({ frames := 2, cells := 0, slots := 0, locals := 44 }) (va_Pc [.ref (a 0)] (PR G y t (kMod y a th Sr dr pa um im ikp tx ty sn (nI M) at1 pl tk vl fa (aN pv) odr gv mk bo bq) sz)) (va_Qi (fun (r : Int32) (u : Unit) => r = (bI (snB pv W H sx sy sc M))) (fun (u : Unit) t => PO G (va_A (kMod y a th Sr dr pa um im ikp tx ty sn (nI M) at1 pl tk vl fa (aN pv) odr gv mk bo bq) sz) (kMod y a th Sr dr pa um im ikp tx ty sn (nI M) at1 pl tk vl fa (aN pv) odr gv mk bo bq) t) (va_A (kMod y a th Sr dr pa um im ikp tx ty sn (nI M) at1 pl tk vl fa (aN pv) odr gv mk bo bq) sz)) 0 0 (va_A (kMod y a th Sr dr pa um im ikp tx ty sn (nI M) at1 pl tk vl fa (aN pv) odr gv mk bo bq) sz) := by
  refine kMet (cc := cX7_isSeen) (maxL := 5) (ret := some .boolean) (Qc := fun A => va_Qi (fun (r : Int32) (u : Unit) => r = (bI (snB pv W H sx sy sc M))) (fun (u : Unit) t => PO G A (kMod y a th Sr dr pa um im ikp tx ty sn (nI M) at1 pl tk vl fa (aN pv) odr gv mk bo bq) t) A) (by decide) rfl (Nat.le_of_ble_eq_true rfl) (fun p e s m below meth c A hsz C hin => ?_)
  obtain ⟨hS0, hS1, hS2, hW, hH, hN, hpic, hink, hord, hblk, hdx⟩ := id hR
  refine KW.loc (lv' := [(0, .ref (a 0))]) [0] rfl ?_
  refine kw_iconst (v := nI 1) C dX7_isSeen_0 (by decide) ?_
  refine kw_istore_n C [(1, .int (nI 1)), (0, .ref (a 0))] dX7_isSeen_1 rfl (by decide) rfl ?_
  refine kw_iconst (v := nI 0) C dX7_isSeen_2 (by decide) ?_
  refine kw_istore_n C [(2, .int (nI 0)), (1, .int (nI 1)), (0, .ref (a 0))] dX7_isSeen_3 rfl (by decide) rfl ?_
  have L4_1 : ∀ (nn : Nat) (i : Nat) (hi : i ≤ M) (hms : M - i < nn), KW p l e ({ frames := 2, cells := 0, slots := 0, locals := 44 }) s m ([.ref (a 0)] : List Value).toArray below meth c 0 0 (MQ below (va_Qi (fun (r : Int32) (u : Unit) => r = (bI (snB pv W H sx sy sc M))) (fun (u : Unit) t => PO G A (kMod y a th Sr dr pa um im ikp tx ty sn (nI M) at1 pl tk vl fa (aN pv) odr gv mk bo bq) t) A) ([.ref (a 0)] : List Value).toArray s 0 0 A) G A 5 (kMod y a th Sr dr pa um im ikp tx ty sn (nI M) at1 pl tk vl fa (aN pv) odr gv mk bo bq) [(2, .int (nI i)), (1, .int (bI (snB pv W H sx sy sc i))), (0, .ref (a 0))] 4 [] := by
    intro nn
    induction nn with
    | zero => intro i hi hms; exact absurd hms (Nat.not_lt_zero _)
    | succ nn ih_4 =>
      intro i hi hms
      refine kw_iload_n C 0 dX7_isSeen_4 rfl ?_
      refine kw_aload_n C 2 dX7_isSeen_5 rfl ?_
      refine kw_get (v := .int (nI M)) (T := TX7) C 0 10 rfl rfl (by decide) (fun w h => mT (fwX7 w h)) rfl (mT wd_625) rfl dX7_isSeen_6 ?_
      refine kw_icmp_ge_N (tgt := 84) C (by omega) (by omega) dX7_isSeen_9 (by decide) (fun c_9 => ?_) (fun c_9 => ?_)
      ·
        refine kw_iload_n C 1 dX7_isSeen_84 rfl ?_
        refine kR_z C () dX7_isSeen_85 (by first | decide | exact bI_z _ | rfl) ?_ rfl
        first | (rw [show i = M from by omega]; done) | (rw [c_13, snB_f c_13 hi])
      ·
        refine kw_iload_n C 1 dX7_isSeen_12 rfl ?_
        refine kw_if_eq_B (tgt := 84) C dX7_isSeen_13 (by decide) (fun c_13 => ?_) (fun c_13 => ?_)
        ·
          refine kw_iload_n C 1 dX7_isSeen_84 rfl ?_
          refine kR_z C () dX7_isSeen_85 (by first | decide | exact bI_z _ | rfl) ?_ rfl
          first | (rw [show i = M from by omega]; done) | (rw [c_13, snB_f c_13 hi])
        ·
          have hs1 := hse i (by omega)
          refine kw_aload_n C 2 dX7_isSeen_16 rfl ?_
          refine kw_get (v := .ref (a 7)) (T := TX7) C 0 9 rfl rfl (by decide) (fun w h => mT (fwX7 w h)) rfl (mT wd_624) rfl dX7_isSeen_17 ?_
          refine kw_iconst (v := nI 3) C dX7_isSeen_20 (by decide) ?_
          refine kw_iload_n C 0 dX7_isSeen_21 rfl ?_
          refine kw_imul C dX7_isSeen_22 (kw_top (pk_mul _ _) ?_)
          refine kw_iald (f := sn) C 7 rfl (by omega) (by decide) dX7_isSeen_23 ?_
          refine kw_top (show (sn (3 * i)) = (nI (sx i)) from by exact hs1.1) ?_
          refine kw_istore_n C [(3, .int (nI (sx i))), (2, .int (nI i)), (1, .int (bI (snB pv W H sx sy sc i))), (0, .ref (a 0))] dX7_isSeen_24 rfl (by decide) rfl ?_
          refine kw_aload_n C 3 dX7_isSeen_25 rfl ?_
          refine kw_get (v := .ref (a 7)) (T := TX7) C 0 9 rfl rfl (by decide) (fun w h => mT (fwX7 w h)) rfl (mT wd_624) rfl dX7_isSeen_26 ?_
          refine kw_iconst (v := nI 3) C dX7_isSeen_29 (by decide) ?_
          refine kw_iload_n C 1 dX7_isSeen_30 rfl ?_
          refine kw_imul C dX7_isSeen_31 (kw_top (pk_mul _ _) ?_)
          refine kw_iconst (v := nI 1) C dX7_isSeen_32 (by decide) ?_
          refine kw_iadd C dX7_isSeen_33 (kw_top (nI_add _ _) ?_)
          refine kw_iald (f := sn) C 7 rfl (by omega) (by decide) dX7_isSeen_34 ?_
          refine kw_top (show (sn ((3 * i) + 1)) = (nI (sy i)) from by exact hs1.2.1) ?_
          refine kw_istore C [(4, .int (nI (sy i))), (3, .int (nI (sx i))), (2, .int (nI i)), (1, .int (bI (snB pv W H sx sy sc i))), (0, .ref (a 0))] dX7_isSeen_35 (by decide) rfl ?_
          refine kw_aload_n C 4 dX7_isSeen_37 rfl ?_
          refine kw_iload_n C 1 dX7_isSeen_38 rfl ?_
          refine kw_iload C 0 dX7_isSeen_39 rfl ?_
          refine kV_i (As := [.int (nI (sx i)), .int (nI (sy i))]) (rest := []) (ws' := fun (u : Unit) => kMod y a th Sr dr pa um im ikp tx ty sn (nI M) at1 pl tk vl fa (aN pv) odr gv mk bo bq) C (c_X7_isCell l G y t a th Sr dr pa um im ikp tx ty sn (nI M) at1 pl tk vl fa (aN pv) odr gv mk bo bq (nI (sx i)) (nI (sy i)) W H N pcl ik o bk kk (by exact hR)) (cwV 2 C.2.2.2.2.1 (goodV cT wd_770 wd_767 wd_769 wd_27 wd_48) rfl rfl rfl (by decide +kernel) ⟨by decide, by decide⟩) [0, 1, 2, 3, 4, 5, 6, 7, 8, 9, 10, 11, 12, 13] [] [0, 1, 2, 3, 4, 5, 6, 7, 8, 9, 10, 11, 12, 13] rfl (by decide) rfl (by decide) (by decide) (fun _ => rfl) (by decide) 0 rfl rfl rfl (Nat.le_of_ble_eq_true rfl) ⟨by decide, by decide⟩ dX7_isSeen_41 (fun r u hr_2 => ?_)
          subst hr_2
          have J77_3 : ∀ (_ : Unit), KW p l e ({ frames := 2, cells := 0, slots := 0, locals := 44 }) s m ([.ref (a 0)] : List Value).toArray below meth c 0 0 (MQ below (va_Qi (fun (r : Int32) (u : Unit) => r = (bI (snB pv W H sx sy sc M))) (fun (u : Unit) t => PO G A (kMod y a th Sr dr pa um im ikp tx ty sn (nI M) at1 pl tk vl fa (aN pv) odr gv mk bo bq) t) A) ([.ref (a 0)] : List Value).toArray s 0 0 A) G A 5 (kMod y a th Sr dr pa um im ikp tx ty sn (nI M) at1 pl tk vl fa (aN pv) odr gv mk bo bq) [(4, .int (nI (sy i))), (3, .int (nI (sx i))), (2, .int (nI i)), (1, .int (bI (snB pv W H sx sy sc i))), (0, .ref (a 0))] 77 [.int (bI (decide (sx i < W ∧ sy i < H ∧ pv (6 * sy i + sx i) = sc i)))] := by
            intro _
            refine kw_istore_n C [(1, .int (bI (decide (sx i < W ∧ sy i < H ∧ pv (6 * sy i + sx i) = sc i)))), (4, .int (nI (sy i))), (3, .int (nI (sx i))), (2, .int (nI i)), (0, .ref (a 0))] dX7_isSeen_77 rfl (by decide) rfl ?_
            refine kw_iinc (v := nI (i + 1)) C [(2, .int (nI (i + 1))), (1, .int (bI (decide (sx i < W ∧ sy i < H ∧ pv (6 * sy i + sx i) = sc i)))), (4, .int (nI (sy i))), (3, .int (nI (sx i))), (0, .ref (a 0))] 3 dX7_isSeen_78 rfl (nI_1 _) (by decide) rfl ?_
            refine kw_goto (tgt := 4) C dX7_isSeen_81 (by decide) ?_
            refine KW.loc (lv' := [(2, .int (nI (i + 1))), (1, .int (bI (decide (sx i < W ∧ sy i < H ∧ pv (6 * sy i + sx i) = sc i)))), (0, .ref (a 0))]) [0, 1, 4] rfl ?_
            refine KW.asl (congrArg (fun zq => ([(2, .int (nI (i + 1))), (1, .int zq), (0, .ref (a 0))] : List (Nat × Value))) (show (bI (decide (sx i < W ∧ sy i < H ∧ pv (6 * sy i + sx i) = sc i))) = (bI (snB pv W H sx sy sc (i + 1))) from by simp only [snB]; rw [c_13]; rfl)) ?_
            exact ih_4 (i + 1) (by first | assumption | omega | (simp; done)) (by omega)
          refine kw_if_eq_D (tgt := 76) C dX7_isSeen_44 (by decide) (fun c_44 => ?_) (fun c_44 => ?_)
          ·
            refine kw_iconst (v := nI 0) C dX7_isSeen_76 (by decide) ?_
            refine KW.loc (lv' := [(4, .int (nI (sy i))), (3, .int (nI (sx i))), (2, .int (nI i)), (1, .int (bI (snB pv W H sx sy sc i))), (0, .ref (a 0))]) [0, 1, 2, 3, 4] rfl ?_
            refine KW.ass (congrArg (fun zq => ([.int zq] : List Value)) (show (nI 0) = (bI (decide (sx i < W ∧ sy i < H ∧ pv (6 * sy i + sx i) = sc i))) from by first | exact (bI_t (And.intro hx1 (And.intro hx2 c_69))).symm | exact (bI_f (fun h => c_69 h.2.2)).symm | exact (bI_f (fun h => c_44 (And.intro (inR_of h.1 (by omega)) (inR_of h.2.1 (by omega))))).symm)) ?_
            exact J77_3 ()
          ·
            have hx1 := (inR_iff (by omega)).mp c_44.1
            have hx2 := (inR_iff (by omega)).mp c_44.2
            refine kw_aload_n C 4 dX7_isSeen_47 rfl ?_
            refine kw_get (v := .ref (a 8)) (T := TX7) C 0 16 rfl rfl (by decide) (fun w h => mT (fwX7 w h)) rfl (mT wd_631) rfl dX7_isSeen_48 ?_
            refine kw_bipush (v := nI 6) C dX7_isSeen_51 (by decide) ?_
            refine kw_iload C 0 dX7_isSeen_53 rfl ?_
            refine kw_imul C dX7_isSeen_55 (kw_top (pk_mul _ _) ?_)
            refine kw_iload_n C 1 dX7_isSeen_56 rfl ?_
            refine kw_iadd C dX7_isSeen_57 (kw_top (nI_add _ _) ?_)
            refine kw_iald (f := aN pv) C 8 rfl (by omega) (by decide) dX7_isSeen_58 ?_
            refine kw_top (show ((aN pv) ((6 * (sy i)) + (sx i))) = (nI (pv ((6 * (sy i)) + (sx i)))) from by rfl) ?_
            refine kw_aload_n C 4 dX7_isSeen_59 rfl ?_
            refine kw_get (v := .ref (a 7)) (T := TX7) C 0 9 rfl rfl (by decide) (fun w h => mT (fwX7 w h)) rfl (mT wd_624) rfl dX7_isSeen_60 ?_
            refine kw_iconst (v := nI 3) C dX7_isSeen_63 (by decide) ?_
            refine kw_iload_n C 2 dX7_isSeen_64 rfl ?_
            refine kw_imul C dX7_isSeen_65 (kw_top (pk_mul _ _) ?_)
            refine kw_iconst (v := nI 2) C dX7_isSeen_66 (by decide) ?_
            refine kw_iadd C dX7_isSeen_67 (kw_top (nI_add _ _) ?_)
            refine kw_iald (f := sn) C 7 rfl (by omega) (by decide) dX7_isSeen_68 ?_
            refine kw_top (show (sn ((3 * i) + 2)) = (nI (sc i)) from by exact hs1.2.2.1) ?_
            refine kw_icmp_ne_N (tgt := 76) C (by first | omega | exact Nat.lt_trans (hpv _) (by decide)) (by first | omega | exact Nat.lt_trans (hpv _) (by decide)) dX7_isSeen_69 (by decide) (fun c_69 => ?_) (fun c_69 => ?_)
            ·
              refine kw_iconst (v := nI 0) C dX7_isSeen_76 (by decide) ?_
              refine KW.loc (lv' := [(4, .int (nI (sy i))), (3, .int (nI (sx i))), (2, .int (nI i)), (1, .int (bI (snB pv W H sx sy sc i))), (0, .ref (a 0))]) [0, 1, 2, 3, 4] rfl ?_
              refine KW.ass (congrArg (fun zq => ([.int zq] : List Value)) (show (nI 0) = (bI (decide (sx i < W ∧ sy i < H ∧ pv (6 * sy i + sx i) = sc i))) from by first | exact (bI_t (And.intro hx1 (And.intro hx2 c_69))).symm | exact (bI_f (fun h => c_69 h.2.2)).symm | exact (bI_f (fun h => c_44 (And.intro (inR_of h.1 (by omega)) (inR_of h.2.1 (by omega))))).symm)) ?_
              exact J77_3 ()
            ·
              refine kw_iconst (v := nI 1) C dX7_isSeen_72 (by decide) ?_
              refine kw_goto (tgt := 77) C dX7_isSeen_73 (by decide) ?_
              refine KW.loc (lv' := [(4, .int (nI (sy i))), (3, .int (nI (sx i))), (2, .int (nI i)), (1, .int (bI (snB pv W H sx sy sc i))), (0, .ref (a 0))]) [0, 1, 2, 3, 4] rfl ?_
              refine KW.ass (congrArg (fun zq => ([.int zq] : List Value)) (show (nI 1) = (bI (decide (sx i < W ∧ sy i < H ∧ pv (6 * sy i + sx i) = sc i))) from by first | exact (bI_t (And.intro hx1 (And.intro hx2 c_69))).symm | exact (bI_f (fun h => c_69 h.2.2)).symm | exact (bI_f (fun h => c_44 (And.intro (inR_of h.1 (by omega)) (inR_of h.2.1 (by omega))))).symm)) ?_
              exact J77_3 ()
  refine KW.loc (lv' := [(2, .int (nI 0)), (1, .int (nI 1)), (0, .ref (a 0))]) [0, 1, 2] rfl ?_
  refine KW.asl (congrArg (fun zq => ([(2, .int (nI 0)), (1, .int zq), (0, .ref (a 0))] : List (Nat × Value))) (show (nI 1) = (bI (snB pv W H sx sy sc 0)) from by rfl)) ?_
  exact L4_1 (M - 0 + 1) 0 (by first | assumption | omega | (simp; done)) (Nat.lt_succ_self _)

set_option maxHeartbeats 4000000 in
set_option maxRecDepth 100000 in
theorem c_X7_which_bad (l : Launch) (G : va_G) (y : Nat → ClassId) (t : Nat) (a : Nat → Nat) (th : Int32) (Sr : Nat → Int32) (dr : Nat → Int32) (pa : Nat → Int32) (um : Int32) (im : Nat → Int32) (ikp : Nat → Int32) (tx : Nat → Int32) (ty : Int32) (sn : Nat → Int32) (sm : Int32) (at1 : Int32) (pl : Int32) (tk : Int32) (vl : Int32) (fa : Int32) (pf : Nat → Int32) (odr : Nat → Int32) (gv : Nat → Int32) (mk : Nat → Int32) (bo : Nat → Int32) (bq : Nat → Int32) (wh : Int32) (hb : ¬ inR wh 2) (sz : Nat) : Met l yX7_which (Cond.code yX7_which cX7_which 5 (some .int) :: TG) ({ frames := 1, cells := 0, slots := 0, locals := 22 }) (va_Pc [.ref (a 0), .int wh] (PR G y t (kMod y a th Sr dr pa um im ikp tx ty sn sm at1 pl tk vl fa pf odr gv mk bo bq) sz)) (va_Qi (fun (r : Int32) (u : Unit) => r = (-1000000)) (fun (u : Unit) t => PO G (va_A (kMod y a th Sr dr pa um im ikp tx ty sn sm at1 pl tk vl fa pf odr gv mk bo bq) sz) (kMod y a (nI 0) Sr dr pa um im ikp tx ty sn sm at1 pl tk vl fa pf odr gv mk bo bq) t) (va_A (kMod y a th Sr dr pa um im ikp tx ty sn sm at1 pl tk vl fa pf odr gv mk bo bq) sz)) 0 0 (va_A (kMod y a th Sr dr pa um im ikp tx ty sn sm at1 pl tk vl fa pf odr gv mk bo bq) sz) := by
  refine kMet (cc := cX7_which) (maxL := 5) (ret := some .int) (Qc := fun A => va_Qi (fun (r : Int32) (u : Unit) => r = (-1000000)) (fun (u : Unit) t => PO G A (kMod y a (nI 0) Sr dr pa um im ikp tx ty sn sm at1 pl tk vl fa pf odr gv mk bo bq) t) A) (by decide) rfl (Nat.le_of_ble_eq_true rfl) (fun p e s m below meth c A hsz C hin => ?_)
  refine KW.loc (lv' := [(0, .ref (a 0)), (1, .int wh)]) [0, 1] rfl ?_
  refine kw_aload_n C 0 dX7_which_0 rfl ?_
  refine kw_iconst (v := nI 0) C dX7_which_1 (by decide) ?_
  refine kw_put (T := TX7) (ty := .int) C 0 0 (kMod y a (nI 0) Sr dr pa um im ikp tx ty sn sm at1 pl tk vl fa pf odr gv mk bo bq) rfl rfl (by decide) (fun w h => mT (fwX7 w h)) tyX7 tyX7_ok nmX7 rfl (mT wd_615) rfl (by decide +kernel) rfl rfl (Nat.le_of_ble_eq_true rfl) dX7_which_2 rfl ?_
  refine kw_iload_n C 1 dX7_which_5 rfl ?_
  refine kw_iconst (v := nI 0) C dX7_which_6 (by decide) ?_
  refine kw_iconst (v := nI 1) C dX7_which_7 (by decide) ?_
  refine kS_i (As := [.int wh, .int (nI 0), .int (nI 1)]) (rest := []) (ws' := fun (u : Unit) => kMod y a (nI 0) Sr dr pa um im ikp tx ty sn sm at1 pl tk vl fa pf odr gv mk bo bq) C (c_X7_in l G y t wh (nI 0) (nI 1)) (va_cwS 3 C.2.2.2.2.1 (goodS cT wd_688 wd_686 wd_687 wd_48) rfl rfl rfl (by decide +kernel) ⟨by decide, by decide⟩) [] [0, 1, 2, 3, 4, 5, 6, 7, 8, 9, 10, 11, 12, 13] [0, 1, 2, 3, 4, 5, 6, 7, 8, 9, 10, 11, 12, 13] rfl (by decide) rfl (by decide) (by decide) (fun _ => rfl) (by decide) rfl (Nat.le_of_ble_eq_true rfl) ⟨by decide, by decide⟩ dX7_which_8 (fun r u hr_1 => ?_)
  subst hr_1
  refine kw_if_ne_D (tgt := 17) C dX7_which_11 (by decide) (fun c_11 => ?_) (fun c_11 => ?_)
  ·
    exact absurd ((in_R1 (by decide)).mp c_11) hb
  ·
    refine kw_ldc (v := (-1000000)) C (mT wd_807) dX7_which_14 ?_
    refine kR_i C () dX7_which_16 ?_ rfl
    first | rfl | trivial | (simp; done) | omega

set_option maxHeartbeats 4000000 in
set_option maxRecDepth 100000 in
theorem c_X7_which_0 (l : Launch) (G : va_G) (y : Nat → ClassId) (t : Nat) (a : Nat → Nat) (th : Int32) (Sr : Nat → Int32) (dr : Nat → Int32) (pa : Nat → Int32) (um : Int32) (im : Nat → Int32) (ikp : Nat → Int32) (tx : Nat → Int32) (ty : Int32) (sn : Nat → Int32) (at1 : Int32) (pl : Int32) (tk : Int32) (vl : Int32) (fa : Int32) (pf : Nat → Int32) (odr : Nat → Int32) (gv : Nat → Int32) (mk : Nat → Int32) (bo : Nat → Int32) (bq : Nat → Int32) (M : Nat) (sx : Nat → Nat) (sy : Nat → Nat) (sc : Nat → Nat) (W : Nat) (H : Nat) (N : Nat) (pcl : Nat → Nat) (ik : Nat → Nat) (o : Nat → Nat) (bk : Nat → Nat) (kk : Nat → Nat) (hR : RowOk Sr W H N pcl ik o bk kk) (hM : M ≤ 6) (hse : ∀ i, i < M → sn (3 * i) = nI (sx i) ∧ sn (3 * i + 1) = nI (sy i) ∧ sn (3 * i + 2) = nI (sc i) ∧ sx i < 6 ∧ sy i < 6 ∧ sc i < 8) (sz : Nat) : Met l yX7_which (Cond.code yX7_which cX7_which 5 (some .int) :: TG) ({ frames := 4, cells := 0, slots := 0, locals := 98 }) (va_Pc [.ref (a 0), .int (nI 0)] (PR G y t (kMod y a th Sr dr pa um im ikp tx ty sn (nI M) at1 pl tk vl fa pf odr gv mk bo bq) sz)) (va_Qi (fun (r : Int32) (u : Nat → Int32) => r = (nI (cntG (exM W H N bk ik o kk M sx sy sc) (9 * N + 1)))) (fun (u : Nat → Int32) t => PO G (va_A (kMod y a th Sr dr pa um im ikp tx ty sn (nI M) at1 pl tk vl fa pf odr gv mk bo bq) sz) (kMod y a (nI 0) Sr dr pa um im ikp tx ty sn (nI M) at1 pl tk vl fa u odr gv mk bo bq) t) (va_A (kMod y a th Sr dr pa um im ikp tx ty sn (nI M) at1 pl tk vl fa pf odr gv mk bo bq) sz)) 0 0 (va_A (kMod y a th Sr dr pa um im ikp tx ty sn (nI M) at1 pl tk vl fa pf odr gv mk bo bq) sz) := by
  refine kMet (cc := cX7_which) (maxL := 5) (ret := some .int) (Qc := fun A => va_Qi (fun (r : Int32) (u : Nat → Int32) => r = (nI (cntG (exM W H N bk ik o kk M sx sy sc) (9 * N + 1)))) (fun (u : Nat → Int32) t => PO G A (kMod y a (nI 0) Sr dr pa um im ikp tx ty sn (nI M) at1 pl tk vl fa u odr gv mk bo bq) t) A) (by decide) rfl (Nat.le_of_ble_eq_true rfl) (fun p e s m below meth c A hsz C hin => ?_)
  obtain ⟨hS0, hS1, hS2, hW, hH, hN, hpic, hink, hord, hblk, hdx⟩ := id hR
  refine KW.loc (lv' := [(0, .ref (a 0)), (1, .int (nI 0))]) [0, 1] rfl ?_
  refine kw_aload_n C 0 dX7_which_0 rfl ?_
  refine kw_iconst (v := nI 0) C dX7_which_1 (by decide) ?_
  refine kw_put (T := TX7) (ty := .int) C 0 0 (kMod y a (nI 0) Sr dr pa um im ikp tx ty sn (nI M) at1 pl tk vl fa pf odr gv mk bo bq) rfl rfl (by decide) (fun w h => mT (fwX7 w h)) tyX7 tyX7_ok nmX7 rfl (mT wd_615) rfl (by decide +kernel) rfl rfl (Nat.le_of_ble_eq_true rfl) dX7_which_2 rfl ?_
  refine kw_iload_n C 1 dX7_which_5 rfl ?_
  refine kw_iconst (v := nI 0) C dX7_which_6 (by decide) ?_
  refine kw_iconst (v := nI 1) C dX7_which_7 (by decide) ?_
  refine kS_i (As := [.int (nI 0), .int (nI 0), .int (nI 1)]) (rest := []) (ws' := fun (u : Unit) => kMod y a (nI 0) Sr dr pa um im ikp tx ty sn (nI M) at1 pl tk vl fa pf odr gv mk bo bq) C (c_X7_in l G y t (nI 0) (nI 0) (nI 1)) (va_cwS 3 C.2.2.2.2.1 (goodS cT wd_688 wd_686 wd_687 wd_48) rfl rfl rfl (by decide +kernel) ⟨by decide, by decide⟩) [] [0, 1, 2, 3, 4, 5, 6, 7, 8, 9, 10, 11, 12, 13] [0, 1, 2, 3, 4, 5, 6, 7, 8, 9, 10, 11, 12, 13] rfl (by decide) rfl (by decide) (by decide) (fun _ => rfl) (by decide) rfl (Nat.le_of_ble_eq_true rfl) ⟨by decide, by decide⟩ dX7_which_8 (fun r u hr_1 => ?_)
  subst hr_1
  refine kw_if_ne_D (tgt := 17) C dX7_which_11 (by decide) (fun c_11 => ?_) (fun c_11 => ?_)
  ·
    refine kw_iconst (v := nI 0) C dX7_which_17 (by decide) ?_
    refine kw_istore_n C [(2, .int (nI 0)), (0, .ref (a 0)), (1, .int (nI 0))] dX7_which_18 rfl (by decide) rfl ?_
    refine kw_ldc (v := (-2000000)) C (mT wd_856) dX7_which_19 ?_
    refine kw_istore_n C [(3, .int (-2000000)), (2, .int (nI 0)), (0, .ref (a 0)), (1, .int (nI 0))] dX7_which_21 rfl (by decide) rfl ?_
    refine kw_iconst (v := (-1)) C dX7_which_22 (by decide) ?_
    refine kw_istore C [(4, .int (-1)), (3, .int (-2000000)), (2, .int (nI 0)), (0, .ref (a 0)), (1, .int (nI 0))] dX7_which_23 (by decide) rfl ?_
    have L25_2 : ∀ (nn : Nat) (g : Nat) (pf0 : Nat → Int32) (hgg : g ≤ 9 * N + 1) (hms : 9 * N + 1 - g < nn), KW p l e ({ frames := 4, cells := 0, slots := 0, locals := 98 }) s m ([.ref (a 0), .int (nI 0)] : List Value).toArray below meth c 0 0 (MQ below (va_Qi (fun (r : Int32) (u : Nat → Int32) => r = (nI (cntG (exM W H N bk ik o kk M sx sy sc) (9 * N + 1)))) (fun (u : Nat → Int32) t => PO G A (kMod y a (nI 0) Sr dr pa um im ikp tx ty sn (nI M) at1 pl tk vl fa u odr gv mk bo bq) t) A) ([.ref (a 0), .int (nI 0)] : List Value).toArray s 0 0 A) G A 5 (kMod y a (nI 0) Sr dr pa um im ikp tx ty sn (nI M) at1 pl tk vl fa pf0 odr gv mk bo bq) [(4, .int (gs g)), (3, .int (fsM (exM W H N bk ik o kk M sx sy sc) g)), (2, .int (nI (cntG (exM W H N bk ik o kk M sx sy sc) g))), (0, .ref (a 0)), (1, .int (nI 0))] 25 [] := by
      intro nn
      induction nn with
      | zero => intro g pf0 hgg hms; exact absurd hms (Nat.not_lt_zero _)
      | succ nn ih_25 =>
        intro g pf0 hgg hms
        refine kw_iload C 0 dX7_which_25 rfl ?_
        refine kw_bipush (v := nI 9) C dX7_which_27 (by decide) ?_
        refine kw_aload_n C 3 dX7_which_29 rfl ?_
        refine kw_get (v := .ref (a 1)) (T := TX7) C 0 1 rfl rfl (by decide) (fun w h => mT (fwX7 w h)) rfl (mT wd_616) rfl dX7_which_30 ?_
        refine kw_iconst (v := nI 2) C dX7_which_33 (by decide) ?_
        refine kw_iald (f := Sr) C 1 rfl (by omega) (by decide) dX7_which_34 ?_
        refine kw_top (show (Sr 2) = (nI N) from by exact hS2) ?_
        refine kw_imul C dX7_which_35 (kw_top (pk_mul _ _) ?_)
        refine kw_icmp_ge (tgt := 75) C dX7_which_36 (by decide) (fun c_36 => ?_) (fun c_36 => ?_)
        ·
          have hgE : g = 9 * N + 1 := by
            have := (gs_ge (g := g) (n := 9 * N) (by omega) (by omega)).mp c_36
            omega
          refine kw_iload_n C 4 dX7_which_75 rfl ?_
          refine kw_if_ne_N (tgt := 83) C (by omega) dX7_which_76 (by decide) (fun c_76 => ?_) (fun c_76 => ?_)
          ·
            omega
          ·
            refine kw_iload_n C 2 dX7_which_79 rfl ?_
            refine kw_goto (tgt := 84) C dX7_which_80 (by decide) ?_
            refine kR_i C (pf0) dX7_which_84 ?_ rfl
            rw [hgE]
        ·
          have hgN : g ≤ 9 * N := by
            rcases Nat.lt_or_ge (9 * N) g with h | h
            · exact absurd ((gs_ge (by omega) (by omega)).mpr h) c_36
            · exact h
          refine kw_aload_n C 3 dX7_which_39 rfl ?_
          refine kw_iload C 0 dX7_which_40 rfl ?_
          refine kV_i (As := [.int (gs g)]) (rest := []) (ws' := fun (u : Nat → Int32) => kMod y a (nI 0) Sr dr pa um im ikp tx ty sn (nI M) at1 pl tk vl fa u odr gv mk bo bq) C (c_X7_tries l G y t a (nI 0) Sr dr pa um im ikp tx ty sn (nI M) at1 pl tk vl fa pf0 odr gv mk bo bq g W H N pcl ik o bk kk (by exact hR) (by exact hgN)) (cwV 1 C.2.2.2.2.1 (goodV cT wd_860 wd_857 wd_859 wd_36 wd_48) rfl rfl rfl (by decide +kernel) ⟨by decide, by decide⟩) [0, 1, 2, 3, 4, 5, 6, 7, 8, 9, 10, 11, 12, 13] [] [0, 1, 2, 3, 4, 5, 6, 7, 8, 9, 10, 11, 12, 13] rfl (by decide) rfl (by decide) (by decide) (fun _ => rfl) (by decide) 0 rfl rfl rfl (Nat.le_of_ble_eq_true rfl) ⟨by decide, by decide⟩ dX7_which_42 (fun r u hr_3 => ?_)
          obtain ⟨pf_t, ehr_3⟩ : ∃ z, z = u := ⟨u, rfl⟩
          subst ehr_3
          obtain ⟨hq, hpt⟩ := hr_3
          subst hq
          refine kw_if_eq_B (tgt := 69) C dX7_which_45 (by decide) (fun c_45 => ?_) (fun c_45 => ?_)
          ·
            have hex : exM W H N bk ik o kk M sx sy sc g = false := by unfold exM; rw [c_45]; rfl
            refine kw_iinc (v := gs (g + 1)) C [(4, .int (gs (g + 1))), (3, .int (fsM (exM W H N bk ik o kk M sx sy sc) g)), (2, .int (nI (cntG (exM W H N bk ik o kk M sx sy sc) g))), (0, .ref (a 0)), (1, .int (nI 0))] 0 dX7_which_69 rfl (by exact gs_inc g) (by decide) rfl ?_
            refine kw_goto (tgt := 25) C dX7_which_72 (by decide) ?_
            refine KW.loc (lv' := [(4, .int (gs (g + 1))), (3, .int (fsM (exM W H N bk ik o kk M sx sy sc) g)), (2, .int (nI (cntG (exM W H N bk ik o kk M sx sy sc) g))), (0, .ref (a 0)), (1, .int (nI 0))]) [0, 1, 2, 3, 4] rfl ?_
            refine KW.asl (congrArg (fun zq => ([(4, .int (gs (g + 1))), (3, .int zq), (2, .int (nI (cntG (exM W H N bk ik o kk M sx sy sc) g))), (0, .ref (a 0)), (1, .int (nI 0))] : List (Nat × Value))) (show (fsM (exM W H N bk ik o kk M sx sy sc) g) = (fsM (exM W H N bk ik o kk M sx sy sc) (g + 1)) from by simp [fsM, hex])) ?_
            refine KW.asl (congrArg (fun zq => ([(4, .int (gs (g + 1))), (3, .int (fsM (exM W H N bk ik o kk M sx sy sc) (g + 1))), (2, .int zq), (0, .ref (a 0)), (1, .int (nI 0))] : List (Nat × Value))) (show (nI (cntG (exM W H N bk ik o kk M sx sy sc) g)) = (nI (cntG (exM W H N bk ik o kk M sx sy sc) (g + 1))) from by simp [cntG, hex])) ?_
            exact ih_25 (g + 1) pf_t (by first | assumption | omega | (simp; done)) (by omega)
          ·
            refine kw_aload_n C 3 dX7_which_48 rfl ?_
            refine kw_exti (aN (pvG W H N bk ik o kk g)) 8 (kMod y a (nI 0) Sr dr pa um im ikp tx ty sn (nI M) at1 pl tk vl fa (aN (pvG W H N bk ik o kk g)) odr gv mk bo bq) rfl (by intro j _; rw [hpt c_45]) rfl ?_
            refine kV_i (As := []) (rest := []) (ws' := fun (u : Unit) => kMod y a (nI 0) Sr dr pa um im ikp tx ty sn (nI M) at1 pl tk vl fa (aN (pvG W H N bk ik o kk g)) odr gv mk bo bq) C (c_X7_isSeen l G y t a (nI 0) Sr dr pa um im ikp tx ty sn at1 pl tk vl fa odr gv mk bo bq (pvG W H N bk ik o kk g) M sx sy sc W H N pcl ik o bk kk (by exact hR) (by first | assumption | omega | decide) (by first | assumption | omega | decide) (by exact fun j => pvF_lt hink hord N (Nat.le_refl N) j)) (cwV 0 C.2.2.2.2.1 (goodV cT wd_864 wd_861 wd_863 wd_37 wd_48) rfl rfl rfl (by decide +kernel) ⟨by decide, by decide⟩) [0, 1, 2, 3, 4, 5, 6, 7, 8, 9, 10, 11, 12, 13] [] [0, 1, 2, 3, 4, 5, 6, 7, 8, 9, 10, 11, 12, 13] rfl (by decide) rfl (by decide) (by decide) (fun _ => rfl) (by decide) 0 rfl rfl rfl (Nat.le_of_ble_eq_true rfl) ⟨by decide, by decide⟩ dX7_which_49 (fun r u hr_4 => ?_)
            subst hr_4
            refine kw_if_eq_B (tgt := 69) C dX7_which_52 (by decide) (fun c_52 => ?_) (fun c_52 => ?_)
            ·
              have hex : exM W H N bk ik o kk M sx sy sc g = false := by unfold exM; rw [c_45, c_52]; rfl
              refine kw_iinc (v := gs (g + 1)) C [(4, .int (gs (g + 1))), (3, .int (fsM (exM W H N bk ik o kk M sx sy sc) g)), (2, .int (nI (cntG (exM W H N bk ik o kk M sx sy sc) g))), (0, .ref (a 0)), (1, .int (nI 0))] 0 dX7_which_69 rfl (by exact gs_inc g) (by decide) rfl ?_
              refine kw_goto (tgt := 25) C dX7_which_72 (by decide) ?_
              refine KW.loc (lv' := [(4, .int (gs (g + 1))), (3, .int (fsM (exM W H N bk ik o kk M sx sy sc) g)), (2, .int (nI (cntG (exM W H N bk ik o kk M sx sy sc) g))), (0, .ref (a 0)), (1, .int (nI 0))]) [0, 1, 2, 3, 4] rfl ?_
              refine KW.asl (congrArg (fun zq => ([(4, .int (gs (g + 1))), (3, .int zq), (2, .int (nI (cntG (exM W H N bk ik o kk M sx sy sc) g))), (0, .ref (a 0)), (1, .int (nI 0))] : List (Nat × Value))) (show (fsM (exM W H N bk ik o kk M sx sy sc) g) = (fsM (exM W H N bk ik o kk M sx sy sc) (g + 1)) from by simp [fsM, hex])) ?_
              refine KW.asl (congrArg (fun zq => ([(4, .int (gs (g + 1))), (3, .int (fsM (exM W H N bk ik o kk M sx sy sc) (g + 1))), (2, .int zq), (0, .ref (a 0)), (1, .int (nI 0))] : List (Nat × Value))) (show (nI (cntG (exM W H N bk ik o kk M sx sy sc) g)) = (nI (cntG (exM W H N bk ik o kk M sx sy sc) (g + 1))) from by simp [cntG, hex])) ?_
              exact ih_25 (g + 1) (aN (pvG W H N bk ik o kk g)) (by first | assumption | omega | (simp; done)) (by omega)
            ·
              have hex : exM W H N bk ik o kk M sx sy sc g = true := by unfold exM; rw [c_45, c_52]; rfl
              refine kw_iload_n C 2 dX7_which_55 rfl ?_
              have J65_5 : ∀ (_ : Unit), KW p l e ({ frames := 4, cells := 0, slots := 0, locals := 98 }) s m ([.ref (a 0), .int (nI 0)] : List Value).toArray below meth c 0 0 (MQ below (va_Qi (fun (r : Int32) (u : Nat → Int32) => r = (nI (cntG (exM W H N bk ik o kk M sx sy sc) (9 * N + 1)))) (fun (u : Nat → Int32) t => PO G A (kMod y a (nI 0) Sr dr pa um im ikp tx ty sn (nI M) at1 pl tk vl fa u odr gv mk bo bq) t) A) ([.ref (a 0), .int (nI 0)] : List Value).toArray s 0 0 A) G A 5 (kMod y a (nI 0) Sr dr pa um im ikp tx ty sn (nI M) at1 pl tk vl fa (aN (pvG W H N bk ik o kk g)) odr gv mk bo bq) [(4, .int (gs g)), (3, .int (fsM (exM W H N bk ik o kk M sx sy sc) g)), (2, .int (nI (cntG (exM W H N bk ik o kk M sx sy sc) g))), (0, .ref (a 0)), (1, .int (nI 0))] 65 [.int (if cntG (exM W H N bk ik o kk M sx sy sc) g = 0 then gs g else fsM (exM W H N bk ik o kk M sx sy sc) g)] := by
                intro _
                refine kw_istore_n C [(3, .int (if cntG (exM W H N bk ik o kk M sx sy sc) g = 0 then gs g else fsM (exM W H N bk ik o kk M sx sy sc) g)), (4, .int (gs g)), (2, .int (nI (cntG (exM W H N bk ik o kk M sx sy sc) g))), (0, .ref (a 0)), (1, .int (nI 0))] dX7_which_65 rfl (by decide) rfl ?_
                refine kw_iinc (v := nI ((cntG (exM W H N bk ik o kk M sx sy sc) g) + 1)) C [(2, .int (nI ((cntG (exM W H N bk ik o kk M sx sy sc) g) + 1))), (3, .int (if cntG (exM W H N bk ik o kk M sx sy sc) g = 0 then gs g else fsM (exM W H N bk ik o kk M sx sy sc) g)), (4, .int (gs g)), (0, .ref (a 0)), (1, .int (nI 0))] 2 dX7_which_66 rfl (nI_1 _) (by decide) rfl ?_
                refine kw_iinc (v := gs (g + 1)) C [(4, .int (gs (g + 1))), (2, .int (nI ((cntG (exM W H N bk ik o kk M sx sy sc) g) + 1))), (3, .int (if cntG (exM W H N bk ik o kk M sx sy sc) g = 0 then gs g else fsM (exM W H N bk ik o kk M sx sy sc) g)), (0, .ref (a 0)), (1, .int (nI 0))] 2 dX7_which_69 rfl (by exact gs_inc g) (by decide) rfl ?_
                refine kw_goto (tgt := 25) C dX7_which_72 (by decide) ?_
                refine KW.loc (lv' := [(4, .int (gs (g + 1))), (3, .int (if cntG (exM W H N bk ik o kk M sx sy sc) g = 0 then gs g else fsM (exM W H N bk ik o kk M sx sy sc) g)), (2, .int (nI ((cntG (exM W H N bk ik o kk M sx sy sc) g) + 1))), (0, .ref (a 0)), (1, .int (nI 0))]) [0, 2, 1, 3, 4] rfl ?_
                refine KW.asl (congrArg (fun zq => ([(4, .int (gs (g + 1))), (3, .int zq), (2, .int (nI ((cntG (exM W H N bk ik o kk M sx sy sc) g) + 1))), (0, .ref (a 0)), (1, .int (nI 0))] : List (Nat × Value))) (show (if cntG (exM W H N bk ik o kk M sx sy sc) g = 0 then gs g else fsM (exM W H N bk ik o kk M sx sy sc) g) = (fsM (exM W H N bk ik o kk M sx sy sc) (g + 1)) from by simp [fsM, hex])) ?_
                refine KW.asl (congrArg (fun zq => ([(4, .int (gs (g + 1))), (3, .int (fsM (exM W H N bk ik o kk M sx sy sc) (g + 1))), (2, .int zq), (0, .ref (a 0)), (1, .int (nI 0))] : List (Nat × Value))) (show (nI ((cntG (exM W H N bk ik o kk M sx sy sc) g) + 1)) = (nI (cntG (exM W H N bk ik o kk M sx sy sc) (g + 1))) from by simp [cntG, hex])) ?_
                exact ih_25 (g + 1) (aN (pvG W H N bk ik o kk g)) (by first | assumption | omega | (simp; done)) (by omega)
              refine kw_if_ne_N (tgt := 64) C (by have := cntG_le (exM W H N bk ik o kk M sx sy sc) g; omega) dX7_which_56 (by decide) (fun c_56 => ?_) (fun c_56 => ?_)
              ·
                refine kw_iload_n C 1 dX7_which_64 rfl ?_
                refine KW.loc (lv' := [(4, .int (gs g)), (3, .int (fsM (exM W H N bk ik o kk M sx sy sc) g)), (2, .int (nI (cntG (exM W H N bk ik o kk M sx sy sc) g))), (0, .ref (a 0)), (1, .int (nI 0))]) [0, 1, 2, 3, 4] rfl ?_
                refine KW.ass (congrArg (fun zq => ([.int zq] : List Value)) (show (fsM (exM W H N bk ik o kk M sx sy sc) g) = (if cntG (exM W H N bk ik o kk M sx sy sc) g = 0 then gs g else fsM (exM W H N bk ik o kk M sx sy sc) g) from by first | (rw [if_neg c_56]; done) | (rw [if_pos c_56]; done))) ?_
                exact J65_5 ()
              ·
                refine kw_iload C 0 dX7_which_59 rfl ?_
                refine kw_goto (tgt := 65) C dX7_which_61 (by decide) ?_
                refine KW.loc (lv' := [(4, .int (gs g)), (3, .int (fsM (exM W H N bk ik o kk M sx sy sc) g)), (2, .int (nI (cntG (exM W H N bk ik o kk M sx sy sc) g))), (0, .ref (a 0)), (1, .int (nI 0))]) [0, 1, 2, 3, 4] rfl ?_
                refine KW.ass (congrArg (fun zq => ([.int zq] : List Value)) (show (gs g) = (if cntG (exM W H N bk ik o kk M sx sy sc) g = 0 then gs g else fsM (exM W H N bk ik o kk M sx sy sc) g) from by first | (rw [if_neg c_56]; done) | (rw [if_pos c_56]; done))) ?_
                exact J65_5 ()
    refine KW.loc (lv' := [(4, .int (-1)), (3, .int (-2000000)), (2, .int (nI 0)), (0, .ref (a 0)), (1, .int (nI 0))]) [0, 1, 2, 3, 4] rfl ?_
    refine KW.asl (congrArg (fun zq => ([(4, .int zq), (3, .int (-2000000)), (2, .int (nI 0)), (0, .ref (a 0)), (1, .int (nI 0))] : List (Nat × Value))) (show (-1) = (gs 0) from by rfl)) ?_
    refine KW.asl (congrArg (fun zq => ([(4, .int (gs 0)), (3, .int zq), (2, .int (nI 0)), (0, .ref (a 0)), (1, .int (nI 0))] : List (Nat × Value))) (show (-2000000) = (fsM (exM W H N bk ik o kk M sx sy sc) 0) from by rfl)) ?_
    refine KW.asl (congrArg (fun zq => ([(4, .int (gs 0)), (3, .int (fsM (exM W H N bk ik o kk M sx sy sc) 0)), (2, .int zq), (0, .ref (a 0)), (1, .int (nI 0))] : List (Nat × Value))) (show (nI 0) = (nI (cntG (exM W H N bk ik o kk M sx sy sc) 0)) from by rfl)) ?_
    exact L25_2 (9 * N + 1 - 0 + 1) 0 pf (by first | assumption | omega | (simp; done)) (Nat.lt_succ_self _)
  ·
    exact absurd (by decide) c_11

set_option maxHeartbeats 4000000 in
set_option maxRecDepth 100000 in
theorem c_X7_which_1 (l : Launch) (G : va_G) (y : Nat → ClassId) (t : Nat) (a : Nat → Nat) (th : Int32) (Sr : Nat → Int32) (dr : Nat → Int32) (pa : Nat → Int32) (um : Int32) (im : Nat → Int32) (ikp : Nat → Int32) (tx : Nat → Int32) (ty : Int32) (sn : Nat → Int32) (at1 : Int32) (pl : Int32) (tk : Int32) (vl : Int32) (fa : Int32) (pf : Nat → Int32) (odr : Nat → Int32) (gv : Nat → Int32) (mk : Nat → Int32) (bo : Nat → Int32) (bq : Nat → Int32) (M : Nat) (sx : Nat → Nat) (sy : Nat → Nat) (sc : Nat → Nat) (W : Nat) (H : Nat) (N : Nat) (pcl : Nat → Nat) (ik : Nat → Nat) (o : Nat → Nat) (bk : Nat → Nat) (kk : Nat → Nat) (hR : RowOk Sr W H N pcl ik o bk kk) (hM : M ≤ 6) (hse : ∀ i, i < M → sn (3 * i) = nI (sx i) ∧ sn (3 * i + 1) = nI (sy i) ∧ sn (3 * i + 2) = nI (sc i) ∧ sx i < 6 ∧ sy i < 6 ∧ sc i < 8) (sz : Nat) : Met l yX7_which (Cond.code yX7_which cX7_which 5 (some .int) :: TG) ({ frames := 4, cells := 0, slots := 0, locals := 98 }) (va_Pc [.ref (a 0), .int (nI 1)] (PR G y t (kMod y a th Sr dr pa um im ikp tx ty sn (nI M) at1 pl tk vl fa pf odr gv mk bo bq) sz)) (va_Qi (fun (r : Int32) (u : Nat → Int32) => r = (fsM (exM W H N bk ik o kk M sx sy sc) (9 * N + 1))) (fun (u : Nat → Int32) t => PO G (va_A (kMod y a th Sr dr pa um im ikp tx ty sn (nI M) at1 pl tk vl fa pf odr gv mk bo bq) sz) (kMod y a (nI 0) Sr dr pa um im ikp tx ty sn (nI M) at1 pl tk vl fa u odr gv mk bo bq) t) (va_A (kMod y a th Sr dr pa um im ikp tx ty sn (nI M) at1 pl tk vl fa pf odr gv mk bo bq) sz)) 0 0 (va_A (kMod y a th Sr dr pa um im ikp tx ty sn (nI M) at1 pl tk vl fa pf odr gv mk bo bq) sz) := by
  refine kMet (cc := cX7_which) (maxL := 5) (ret := some .int) (Qc := fun A => va_Qi (fun (r : Int32) (u : Nat → Int32) => r = (fsM (exM W H N bk ik o kk M sx sy sc) (9 * N + 1))) (fun (u : Nat → Int32) t => PO G A (kMod y a (nI 0) Sr dr pa um im ikp tx ty sn (nI M) at1 pl tk vl fa u odr gv mk bo bq) t) A) (by decide) rfl (Nat.le_of_ble_eq_true rfl) (fun p e s m below meth c A hsz C hin => ?_)
  obtain ⟨hS0, hS1, hS2, hW, hH, hN, hpic, hink, hord, hblk, hdx⟩ := id hR
  refine KW.loc (lv' := [(0, .ref (a 0)), (1, .int (nI 1))]) [0, 1] rfl ?_
  refine kw_aload_n C 0 dX7_which_0 rfl ?_
  refine kw_iconst (v := nI 0) C dX7_which_1 (by decide) ?_
  refine kw_put (T := TX7) (ty := .int) C 0 0 (kMod y a (nI 0) Sr dr pa um im ikp tx ty sn (nI M) at1 pl tk vl fa pf odr gv mk bo bq) rfl rfl (by decide) (fun w h => mT (fwX7 w h)) tyX7 tyX7_ok nmX7 rfl (mT wd_615) rfl (by decide +kernel) rfl rfl (Nat.le_of_ble_eq_true rfl) dX7_which_2 rfl ?_
  refine kw_iload_n C 1 dX7_which_5 rfl ?_
  refine kw_iconst (v := nI 0) C dX7_which_6 (by decide) ?_
  refine kw_iconst (v := nI 1) C dX7_which_7 (by decide) ?_
  refine kS_i (As := [.int (nI 1), .int (nI 0), .int (nI 1)]) (rest := []) (ws' := fun (u : Unit) => kMod y a (nI 0) Sr dr pa um im ikp tx ty sn (nI M) at1 pl tk vl fa pf odr gv mk bo bq) C (c_X7_in l G y t (nI 1) (nI 0) (nI 1)) (va_cwS 3 C.2.2.2.2.1 (goodS cT wd_688 wd_686 wd_687 wd_48) rfl rfl rfl (by decide +kernel) ⟨by decide, by decide⟩) [] [0, 1, 2, 3, 4, 5, 6, 7, 8, 9, 10, 11, 12, 13] [0, 1, 2, 3, 4, 5, 6, 7, 8, 9, 10, 11, 12, 13] rfl (by decide) rfl (by decide) (by decide) (fun _ => rfl) (by decide) rfl (Nat.le_of_ble_eq_true rfl) ⟨by decide, by decide⟩ dX7_which_8 (fun r u hr_1 => ?_)
  subst hr_1
  refine kw_if_ne_D (tgt := 17) C dX7_which_11 (by decide) (fun c_11 => ?_) (fun c_11 => ?_)
  ·
    refine kw_iconst (v := nI 0) C dX7_which_17 (by decide) ?_
    refine kw_istore_n C [(2, .int (nI 0)), (0, .ref (a 0)), (1, .int (nI 1))] dX7_which_18 rfl (by decide) rfl ?_
    refine kw_ldc (v := (-2000000)) C (mT wd_856) dX7_which_19 ?_
    refine kw_istore_n C [(3, .int (-2000000)), (2, .int (nI 0)), (0, .ref (a 0)), (1, .int (nI 1))] dX7_which_21 rfl (by decide) rfl ?_
    refine kw_iconst (v := (-1)) C dX7_which_22 (by decide) ?_
    refine kw_istore C [(4, .int (-1)), (3, .int (-2000000)), (2, .int (nI 0)), (0, .ref (a 0)), (1, .int (nI 1))] dX7_which_23 (by decide) rfl ?_
    have L25_2 : ∀ (nn : Nat) (g : Nat) (pf0 : Nat → Int32) (hgg : g ≤ 9 * N + 1) (hms : 9 * N + 1 - g < nn), KW p l e ({ frames := 4, cells := 0, slots := 0, locals := 98 }) s m ([.ref (a 0), .int (nI 1)] : List Value).toArray below meth c 0 0 (MQ below (va_Qi (fun (r : Int32) (u : Nat → Int32) => r = (fsM (exM W H N bk ik o kk M sx sy sc) (9 * N + 1))) (fun (u : Nat → Int32) t => PO G A (kMod y a (nI 0) Sr dr pa um im ikp tx ty sn (nI M) at1 pl tk vl fa u odr gv mk bo bq) t) A) ([.ref (a 0), .int (nI 1)] : List Value).toArray s 0 0 A) G A 5 (kMod y a (nI 0) Sr dr pa um im ikp tx ty sn (nI M) at1 pl tk vl fa pf0 odr gv mk bo bq) [(4, .int (gs g)), (3, .int (fsM (exM W H N bk ik o kk M sx sy sc) g)), (2, .int (nI (cntG (exM W H N bk ik o kk M sx sy sc) g))), (0, .ref (a 0)), (1, .int (nI 1))] 25 [] := by
      intro nn
      induction nn with
      | zero => intro g pf0 hgg hms; exact absurd hms (Nat.not_lt_zero _)
      | succ nn ih_25 =>
        intro g pf0 hgg hms
        refine kw_iload C 0 dX7_which_25 rfl ?_
        refine kw_bipush (v := nI 9) C dX7_which_27 (by decide) ?_
        refine kw_aload_n C 3 dX7_which_29 rfl ?_
        refine kw_get (v := .ref (a 1)) (T := TX7) C 0 1 rfl rfl (by decide) (fun w h => mT (fwX7 w h)) rfl (mT wd_616) rfl dX7_which_30 ?_
        refine kw_iconst (v := nI 2) C dX7_which_33 (by decide) ?_
        refine kw_iald (f := Sr) C 1 rfl (by omega) (by decide) dX7_which_34 ?_
        refine kw_top (show (Sr 2) = (nI N) from by exact hS2) ?_
        refine kw_imul C dX7_which_35 (kw_top (pk_mul _ _) ?_)
        refine kw_icmp_ge (tgt := 75) C dX7_which_36 (by decide) (fun c_36 => ?_) (fun c_36 => ?_)
        ·
          have hgE : g = 9 * N + 1 := by
            have := (gs_ge (g := g) (n := 9 * N) (by omega) (by omega)).mp c_36
            omega
          refine kw_iload_n C 4 dX7_which_75 rfl ?_
          refine kw_if_ne_N (tgt := 83) C (by omega) dX7_which_76 (by decide) (fun c_76 => ?_) (fun c_76 => ?_)
          ·
            refine kw_iload_n C 1 dX7_which_83 rfl ?_
            refine kR_i C (pf0) dX7_which_84 ?_ rfl
            rw [hgE]
          ·
            omega
        ·
          have hgN : g ≤ 9 * N := by
            rcases Nat.lt_or_ge (9 * N) g with h | h
            · exact absurd ((gs_ge (by omega) (by omega)).mpr h) c_36
            · exact h
          refine kw_aload_n C 3 dX7_which_39 rfl ?_
          refine kw_iload C 0 dX7_which_40 rfl ?_
          refine kV_i (As := [.int (gs g)]) (rest := []) (ws' := fun (u : Nat → Int32) => kMod y a (nI 0) Sr dr pa um im ikp tx ty sn (nI M) at1 pl tk vl fa u odr gv mk bo bq) C (c_X7_tries l G y t a (nI 0) Sr dr pa um im ikp tx ty sn (nI M) at1 pl tk vl fa pf0 odr gv mk bo bq g W H N pcl ik o bk kk (by exact hR) (by exact hgN)) (cwV 1 C.2.2.2.2.1 (goodV cT wd_860 wd_857 wd_859 wd_36 wd_48) rfl rfl rfl (by decide +kernel) ⟨by decide, by decide⟩) [0, 1, 2, 3, 4, 5, 6, 7, 8, 9, 10, 11, 12, 13] [] [0, 1, 2, 3, 4, 5, 6, 7, 8, 9, 10, 11, 12, 13] rfl (by decide) rfl (by decide) (by decide) (fun _ => rfl) (by decide) 0 rfl rfl rfl (Nat.le_of_ble_eq_true rfl) ⟨by decide, by decide⟩ dX7_which_42 (fun r u hr_3 => ?_)
          obtain ⟨pf_t, ehr_3⟩ : ∃ z, z = u := ⟨u, rfl⟩
          subst ehr_3
          obtain ⟨hq, hpt⟩ := hr_3
          subst hq
          refine kw_if_eq_B (tgt := 69) C dX7_which_45 (by decide) (fun c_45 => ?_) (fun c_45 => ?_)
          ·
            have hex : exM W H N bk ik o kk M sx sy sc g = false := by unfold exM; rw [c_45]; rfl
            refine kw_iinc (v := gs (g + 1)) C [(4, .int (gs (g + 1))), (3, .int (fsM (exM W H N bk ik o kk M sx sy sc) g)), (2, .int (nI (cntG (exM W H N bk ik o kk M sx sy sc) g))), (0, .ref (a 0)), (1, .int (nI 1))] 0 dX7_which_69 rfl (by exact gs_inc g) (by decide) rfl ?_
            refine kw_goto (tgt := 25) C dX7_which_72 (by decide) ?_
            refine KW.loc (lv' := [(4, .int (gs (g + 1))), (3, .int (fsM (exM W H N bk ik o kk M sx sy sc) g)), (2, .int (nI (cntG (exM W H N bk ik o kk M sx sy sc) g))), (0, .ref (a 0)), (1, .int (nI 1))]) [0, 1, 2, 3, 4] rfl ?_
            refine KW.asl (congrArg (fun zq => ([(4, .int (gs (g + 1))), (3, .int zq), (2, .int (nI (cntG (exM W H N bk ik o kk M sx sy sc) g))), (0, .ref (a 0)), (1, .int (nI 1))] : List (Nat × Value))) (show (fsM (exM W H N bk ik o kk M sx sy sc) g) = (fsM (exM W H N bk ik o kk M sx sy sc) (g + 1)) from by simp [fsM, hex])) ?_
            refine KW.asl (congrArg (fun zq => ([(4, .int (gs (g + 1))), (3, .int (fsM (exM W H N bk ik o kk M sx sy sc) (g + 1))), (2, .int zq), (0, .ref (a 0)), (1, .int (nI 1))] : List (Nat × Value))) (show (nI (cntG (exM W H N bk ik o kk M sx sy sc) g)) = (nI (cntG (exM W H N bk ik o kk M sx sy sc) (g + 1))) from by simp [cntG, hex])) ?_
            exact ih_25 (g + 1) pf_t (by first | assumption | omega | (simp; done)) (by omega)
          ·
            refine kw_aload_n C 3 dX7_which_48 rfl ?_
            refine kw_exti (aN (pvG W H N bk ik o kk g)) 8 (kMod y a (nI 0) Sr dr pa um im ikp tx ty sn (nI M) at1 pl tk vl fa (aN (pvG W H N bk ik o kk g)) odr gv mk bo bq) rfl (by intro j _; rw [hpt c_45]) rfl ?_
            refine kV_i (As := []) (rest := []) (ws' := fun (u : Unit) => kMod y a (nI 0) Sr dr pa um im ikp tx ty sn (nI M) at1 pl tk vl fa (aN (pvG W H N bk ik o kk g)) odr gv mk bo bq) C (c_X7_isSeen l G y t a (nI 0) Sr dr pa um im ikp tx ty sn at1 pl tk vl fa odr gv mk bo bq (pvG W H N bk ik o kk g) M sx sy sc W H N pcl ik o bk kk (by exact hR) (by first | assumption | omega | decide) (by first | assumption | omega | decide) (by exact fun j => pvF_lt hink hord N (Nat.le_refl N) j)) (cwV 0 C.2.2.2.2.1 (goodV cT wd_864 wd_861 wd_863 wd_37 wd_48) rfl rfl rfl (by decide +kernel) ⟨by decide, by decide⟩) [0, 1, 2, 3, 4, 5, 6, 7, 8, 9, 10, 11, 12, 13] [] [0, 1, 2, 3, 4, 5, 6, 7, 8, 9, 10, 11, 12, 13] rfl (by decide) rfl (by decide) (by decide) (fun _ => rfl) (by decide) 0 rfl rfl rfl (Nat.le_of_ble_eq_true rfl) ⟨by decide, by decide⟩ dX7_which_49 (fun r u hr_4 => ?_)
            subst hr_4
            refine kw_if_eq_B (tgt := 69) C dX7_which_52 (by decide) (fun c_52 => ?_) (fun c_52 => ?_)
            ·
              have hex : exM W H N bk ik o kk M sx sy sc g = false := by unfold exM; rw [c_45, c_52]; rfl
              refine kw_iinc (v := gs (g + 1)) C [(4, .int (gs (g + 1))), (3, .int (fsM (exM W H N bk ik o kk M sx sy sc) g)), (2, .int (nI (cntG (exM W H N bk ik o kk M sx sy sc) g))), (0, .ref (a 0)), (1, .int (nI 1))] 0 dX7_which_69 rfl (by exact gs_inc g) (by decide) rfl ?_
              refine kw_goto (tgt := 25) C dX7_which_72 (by decide) ?_
              refine KW.loc (lv' := [(4, .int (gs (g + 1))), (3, .int (fsM (exM W H N bk ik o kk M sx sy sc) g)), (2, .int (nI (cntG (exM W H N bk ik o kk M sx sy sc) g))), (0, .ref (a 0)), (1, .int (nI 1))]) [0, 1, 2, 3, 4] rfl ?_
              refine KW.asl (congrArg (fun zq => ([(4, .int (gs (g + 1))), (3, .int zq), (2, .int (nI (cntG (exM W H N bk ik o kk M sx sy sc) g))), (0, .ref (a 0)), (1, .int (nI 1))] : List (Nat × Value))) (show (fsM (exM W H N bk ik o kk M sx sy sc) g) = (fsM (exM W H N bk ik o kk M sx sy sc) (g + 1)) from by simp [fsM, hex])) ?_
              refine KW.asl (congrArg (fun zq => ([(4, .int (gs (g + 1))), (3, .int (fsM (exM W H N bk ik o kk M sx sy sc) (g + 1))), (2, .int zq), (0, .ref (a 0)), (1, .int (nI 1))] : List (Nat × Value))) (show (nI (cntG (exM W H N bk ik o kk M sx sy sc) g)) = (nI (cntG (exM W H N bk ik o kk M sx sy sc) (g + 1))) from by simp [cntG, hex])) ?_
              exact ih_25 (g + 1) (aN (pvG W H N bk ik o kk g)) (by first | assumption | omega | (simp; done)) (by omega)
            ·
              have hex : exM W H N bk ik o kk M sx sy sc g = true := by unfold exM; rw [c_45, c_52]; rfl
              refine kw_iload_n C 2 dX7_which_55 rfl ?_
              have J65_5 : ∀ (_ : Unit), KW p l e ({ frames := 4, cells := 0, slots := 0, locals := 98 }) s m ([.ref (a 0), .int (nI 1)] : List Value).toArray below meth c 0 0 (MQ below (va_Qi (fun (r : Int32) (u : Nat → Int32) => r = (fsM (exM W H N bk ik o kk M sx sy sc) (9 * N + 1))) (fun (u : Nat → Int32) t => PO G A (kMod y a (nI 0) Sr dr pa um im ikp tx ty sn (nI M) at1 pl tk vl fa u odr gv mk bo bq) t) A) ([.ref (a 0), .int (nI 1)] : List Value).toArray s 0 0 A) G A 5 (kMod y a (nI 0) Sr dr pa um im ikp tx ty sn (nI M) at1 pl tk vl fa (aN (pvG W H N bk ik o kk g)) odr gv mk bo bq) [(4, .int (gs g)), (3, .int (fsM (exM W H N bk ik o kk M sx sy sc) g)), (2, .int (nI (cntG (exM W H N bk ik o kk M sx sy sc) g))), (0, .ref (a 0)), (1, .int (nI 1))] 65 [.int (if cntG (exM W H N bk ik o kk M sx sy sc) g = 0 then gs g else fsM (exM W H N bk ik o kk M sx sy sc) g)] := by
                intro _
                refine kw_istore_n C [(3, .int (if cntG (exM W H N bk ik o kk M sx sy sc) g = 0 then gs g else fsM (exM W H N bk ik o kk M sx sy sc) g)), (4, .int (gs g)), (2, .int (nI (cntG (exM W H N bk ik o kk M sx sy sc) g))), (0, .ref (a 0)), (1, .int (nI 1))] dX7_which_65 rfl (by decide) rfl ?_
                refine kw_iinc (v := nI ((cntG (exM W H N bk ik o kk M sx sy sc) g) + 1)) C [(2, .int (nI ((cntG (exM W H N bk ik o kk M sx sy sc) g) + 1))), (3, .int (if cntG (exM W H N bk ik o kk M sx sy sc) g = 0 then gs g else fsM (exM W H N bk ik o kk M sx sy sc) g)), (4, .int (gs g)), (0, .ref (a 0)), (1, .int (nI 1))] 2 dX7_which_66 rfl (nI_1 _) (by decide) rfl ?_
                refine kw_iinc (v := gs (g + 1)) C [(4, .int (gs (g + 1))), (2, .int (nI ((cntG (exM W H N bk ik o kk M sx sy sc) g) + 1))), (3, .int (if cntG (exM W H N bk ik o kk M sx sy sc) g = 0 then gs g else fsM (exM W H N bk ik o kk M sx sy sc) g)), (0, .ref (a 0)), (1, .int (nI 1))] 2 dX7_which_69 rfl (by exact gs_inc g) (by decide) rfl ?_
                refine kw_goto (tgt := 25) C dX7_which_72 (by decide) ?_
                refine KW.loc (lv' := [(4, .int (gs (g + 1))), (3, .int (if cntG (exM W H N bk ik o kk M sx sy sc) g = 0 then gs g else fsM (exM W H N bk ik o kk M sx sy sc) g)), (2, .int (nI ((cntG (exM W H N bk ik o kk M sx sy sc) g) + 1))), (0, .ref (a 0)), (1, .int (nI 1))]) [0, 2, 1, 3, 4] rfl ?_
                refine KW.asl (congrArg (fun zq => ([(4, .int (gs (g + 1))), (3, .int zq), (2, .int (nI ((cntG (exM W H N bk ik o kk M sx sy sc) g) + 1))), (0, .ref (a 0)), (1, .int (nI 1))] : List (Nat × Value))) (show (if cntG (exM W H N bk ik o kk M sx sy sc) g = 0 then gs g else fsM (exM W H N bk ik o kk M sx sy sc) g) = (fsM (exM W H N bk ik o kk M sx sy sc) (g + 1)) from by simp [fsM, hex])) ?_
                refine KW.asl (congrArg (fun zq => ([(4, .int (gs (g + 1))), (3, .int (fsM (exM W H N bk ik o kk M sx sy sc) (g + 1))), (2, .int zq), (0, .ref (a 0)), (1, .int (nI 1))] : List (Nat × Value))) (show (nI ((cntG (exM W H N bk ik o kk M sx sy sc) g) + 1)) = (nI (cntG (exM W H N bk ik o kk M sx sy sc) (g + 1))) from by simp [cntG, hex])) ?_
                exact ih_25 (g + 1) (aN (pvG W H N bk ik o kk g)) (by first | assumption | omega | (simp; done)) (by omega)
              refine kw_if_ne_N (tgt := 64) C (by have := cntG_le (exM W H N bk ik o kk M sx sy sc) g; omega) dX7_which_56 (by decide) (fun c_56 => ?_) (fun c_56 => ?_)
              ·
                refine kw_iload_n C 1 dX7_which_64 rfl ?_
                refine KW.loc (lv' := [(4, .int (gs g)), (3, .int (fsM (exM W H N bk ik o kk M sx sy sc) g)), (2, .int (nI (cntG (exM W H N bk ik o kk M sx sy sc) g))), (0, .ref (a 0)), (1, .int (nI 1))]) [0, 1, 2, 3, 4] rfl ?_
                refine KW.ass (congrArg (fun zq => ([.int zq] : List Value)) (show (fsM (exM W H N bk ik o kk M sx sy sc) g) = (if cntG (exM W H N bk ik o kk M sx sy sc) g = 0 then gs g else fsM (exM W H N bk ik o kk M sx sy sc) g) from by first | (rw [if_neg c_56]; done) | (rw [if_pos c_56]; done))) ?_
                exact J65_5 ()
              ·
                refine kw_iload C 0 dX7_which_59 rfl ?_
                refine kw_goto (tgt := 65) C dX7_which_61 (by decide) ?_
                refine KW.loc (lv' := [(4, .int (gs g)), (3, .int (fsM (exM W H N bk ik o kk M sx sy sc) g)), (2, .int (nI (cntG (exM W H N bk ik o kk M sx sy sc) g))), (0, .ref (a 0)), (1, .int (nI 1))]) [0, 1, 2, 3, 4] rfl ?_
                refine KW.ass (congrArg (fun zq => ([.int zq] : List Value)) (show (gs g) = (if cntG (exM W H N bk ik o kk M sx sy sc) g = 0 then gs g else fsM (exM W H N bk ik o kk M sx sy sc) g) from by first | (rw [if_neg c_56]; done) | (rw [if_pos c_56]; done))) ?_
                exact J65_5 ()
    refine KW.loc (lv' := [(4, .int (-1)), (3, .int (-2000000)), (2, .int (nI 0)), (0, .ref (a 0)), (1, .int (nI 1))]) [0, 1, 2, 3, 4] rfl ?_
    refine KW.asl (congrArg (fun zq => ([(4, .int zq), (3, .int (-2000000)), (2, .int (nI 0)), (0, .ref (a 0)), (1, .int (nI 1))] : List (Nat × Value))) (show (-1) = (gs 0) from by rfl)) ?_
    refine KW.asl (congrArg (fun zq => ([(4, .int (gs 0)), (3, .int zq), (2, .int (nI 0)), (0, .ref (a 0)), (1, .int (nI 1))] : List (Nat × Value))) (show (-2000000) = (fsM (exM W H N bk ik o kk M sx sy sc) 0) from by rfl)) ?_
    refine KW.asl (congrArg (fun zq => ([(4, .int (gs 0)), (3, .int (fsM (exM W H N bk ik o kk M sx sy sc) 0)), (2, .int zq), (0, .ref (a 0)), (1, .int (nI 1))] : List (Nat × Value))) (show (nI 0) = (nI (cntG (exM W H N bk ik o kk M sx sy sc) 0)) from by rfl)) ?_
    exact L25_2 (9 * N + 1 - 0 + 1) 0 pf (by first | assumption | omega | (simp; done)) (Nat.lt_succ_self _)
  ·
    exact absurd (by decide) c_11

set_option maxHeartbeats 4000000 in
set_option maxRecDepth 100000 in
theorem c_X7_ask_ok (l : Launch) (G : va_G) (y : Nat → ClassId) (t : Nat) (a : Nat → Nat) (th : Int32) (Sr : Nat → Int32) (dr : Nat → Int32) (pa : Nat → Int32) (um : Int32) (im : Nat → Int32) (ikp : Nat → Int32) (tx : Nat → Int32) (ty : Int32) (sn : Nat → Int32) (at1 : Int32) (pl : Int32) (tk : Int32) (vl : Int32) (fa : Int32) (pf : Nat → Int32) (odr : Nat → Int32) (gv : Nat → Int32) (mk : Nat → Int32) (bo : Nat → Int32) (bq : Nat → Int32) (M : Nat) (sx : Nat → Nat) (sy : Nat → Nat) (sc : Nat → Nat) (W : Nat) (H : Nat) (N : Nat) (pcl : Nat → Nat) (ik : Nat → Nat) (o : Nat → Nat) (bk : Nat → Nat) (kk : Nat → Nat) (hR : RowOk Sr W H N pcl ik o bk kk) (hM : M ≤ 6) (hse : ∀ i, i < M → sn (3 * i) = nI (sx i) ∧ sn (3 * i + 1) = nI (sy i) ∧ sn (3 * i + 2) = nI (sc i) ∧ sx i < 6 ∧ sy i < 6 ∧ sc i < 8) (sz : Nat) : Met l yX7_ask (Cond.code yX7_ask cX7_ask 7 (some .int) :: TG) ({ frames := 4, cells := 0, slots := 0, locals := 98 }) (va_Pc [.ref (a 0)] (PR G y t (kMod y a th Sr dr pa um im ikp tx ty sn (nI M) at1 pl tk vl fa pf odr gv mk bo bq) sz)) (va_Qi (fun (r : Int32) (u : (Nat → Int32) × (Nat → Int32)) => r = (if 1 < cntG (exM W H N bk ik o kk M sx sy sc) (9 * N + 1) then (akM (byG (exM W H N bk ik o kk M sx sy sc) (pvG W H N bk ik o kk) (9 * N + 1)) W H 36).1 else (-9))) (fun (u : (Nat → Int32) × (Nat → Int32)) t => PO G (va_A (kMod y a th Sr dr pa um im ikp tx ty sn (nI M) at1 pl tk vl fa pf odr gv mk bo bq) sz) (kMod y a (nI 0) Sr dr pa um im ikp tx ty sn (nI M) at1 pl tk vl fa u.1 odr gv mk bo u.2) t) (va_A (kMod y a th Sr dr pa um im ikp tx ty sn (nI M) at1 pl tk vl fa pf odr gv mk bo bq) sz)) 0 0 (va_A (kMod y a th Sr dr pa um im ikp tx ty sn (nI M) at1 pl tk vl fa pf odr gv mk bo bq) sz) := by
  refine kMet (cc := cX7_ask) (maxL := 7) (ret := some .int) (Qc := fun A => va_Qi (fun (r : Int32) (u : (Nat → Int32) × (Nat → Int32)) => r = (if 1 < cntG (exM W H N bk ik o kk M sx sy sc) (9 * N + 1) then (akM (byG (exM W H N bk ik o kk M sx sy sc) (pvG W H N bk ik o kk) (9 * N + 1)) W H 36).1 else (-9))) (fun (u : (Nat → Int32) × (Nat → Int32)) t => PO G A (kMod y a (nI 0) Sr dr pa um im ikp tx ty sn (nI M) at1 pl tk vl fa u.1 odr gv mk bo u.2) t) A) (by decide) rfl (Nat.le_of_ble_eq_true rfl) (fun p e s m below meth c A hsz C hin => ?_)
  obtain ⟨hS0, hS1, hS2, hW, hH, hN, hpic, hink, hord, hblk, hdx⟩ := id hR
  refine KW.loc (lv' := [(0, .ref (a 0))]) [0] rfl ?_
  refine kw_aload_n C 0 dX7_ask_0 rfl ?_
  refine kw_iconst (v := nI 0) C dX7_ask_1 (by decide) ?_
  refine kw_put (T := TX7) (ty := .int) C 0 0 (kMod y a (nI 0) Sr dr pa um im ikp tx ty sn (nI M) at1 pl tk vl fa pf odr gv mk bo bq) rfl rfl (by decide) (fun w h => mT (fwX7 w h)) tyX7 tyX7_ok nmX7 rfl (mT wd_615) rfl (by decide +kernel) rfl rfl (Nat.le_of_ble_eq_true rfl) dX7_ask_2 rfl ?_
  refine kw_iconst (v := nI 0) C dX7_ask_5 (by decide) ?_
  refine kw_istore_n C [(1, .int (nI 0)), (0, .ref (a 0))] dX7_ask_6 rfl (by decide) rfl ?_
  have L7_1 : ∀ (nn : Nat) (i : Nat) (f0 : Nat → Int32) (hi : i ≤ 288) (hf0 : ∀ j, j < i → f0 j = nI 0) (hms : 288 - i < nn), KW p l e ({ frames := 4, cells := 0, slots := 0, locals := 98 }) s m ([.ref (a 0)] : List Value).toArray below meth c 0 0 (MQ below (va_Qi (fun (r : Int32) (u : (Nat → Int32) × (Nat → Int32)) => r = (if 1 < cntG (exM W H N bk ik o kk M sx sy sc) (9 * N + 1) then (akM (byG (exM W H N bk ik o kk M sx sy sc) (pvG W H N bk ik o kk) (9 * N + 1)) W H 36).1 else (-9))) (fun (u : (Nat → Int32) × (Nat → Int32)) t => PO G A (kMod y a (nI 0) Sr dr pa um im ikp tx ty sn (nI M) at1 pl tk vl fa u.1 odr gv mk bo u.2) t) A) ([.ref (a 0)] : List Value).toArray s 0 0 A) G A 7 (kMod y a (nI 0) Sr dr pa um im ikp tx ty sn (nI M) at1 pl tk vl fa pf odr gv mk bo f0) [(1, .int (nI i)), (0, .ref (a 0))] 7 [] := by
    intro nn
    induction nn with
    | zero => intro i f0 hi hf0 hms; exact absurd hms (Nat.not_lt_zero _)
    | succ nn ih_7 =>
      intro i f0 hi hf0 hms
      refine kw_iload_n C 0 dX7_ask_7 rfl ?_
      refine kw_sipush (v := nI 288) C dX7_ask_8 (by decide) ?_
      refine kw_icmp_ge_N (tgt := 27) C (by omega) (by omega) dX7_ask_11 (by decide) (fun c_11 => ?_) (fun c_11 => ?_)
      ·
        refine kw_iconst (v := nI 0) C dX7_ask_27 (by decide) ?_
        refine kw_exti (fun _ => nI 0) 13 (kMod y a (nI 0) Sr dr pa um im ikp tx ty sn (nI M) at1 pl tk vl fa pf odr gv mk bo (fun _ => nI 0)) rfl (by intro j hj; exact hf0 j (by omega)) rfl ?_
        refine kw_istore_n C [(1, .int (nI 0)), (0, .ref (a 0))] dX7_ask_28 rfl (by decide) rfl ?_
        refine kw_iconst (v := (-1)) C dX7_ask_29 (by decide) ?_
        refine kw_istore_n C [(2, .int (-1)), (1, .int (nI 0)), (0, .ref (a 0))] dX7_ask_30 rfl (by decide) rfl ?_
        have L31_2 : ∀ (nn : Nat) (g : Nat) (pf0 : Nat → Int32) (hgg : g ≤ 9 * N + 1) (hms : 9 * N + 1 - g < nn), KW p l e ({ frames := 4, cells := 0, slots := 0, locals := 98 }) s m ([.ref (a 0)] : List Value).toArray below meth c 0 0 (MQ below (va_Qi (fun (r : Int32) (u : (Nat → Int32) × (Nat → Int32)) => r = (if 1 < cntG (exM W H N bk ik o kk M sx sy sc) (9 * N + 1) then (akM (byG (exM W H N bk ik o kk M sx sy sc) (pvG W H N bk ik o kk) (9 * N + 1)) W H 36).1 else (-9))) (fun (u : (Nat → Int32) × (Nat → Int32)) t => PO G A (kMod y a (nI 0) Sr dr pa um im ikp tx ty sn (nI M) at1 pl tk vl fa u.1 odr gv mk bo u.2) t) A) ([.ref (a 0)] : List Value).toArray s 0 0 A) G A 7 (kMod y a (nI 0) Sr dr pa um im ikp tx ty sn (nI M) at1 pl tk vl fa pf0 odr gv mk bo (byG (exM W H N bk ik o kk M sx sy sc) (pvG W H N bk ik o kk) g)) [(2, .int (gs g)), (1, .int (nI (cntG (exM W H N bk ik o kk M sx sy sc) g))), (0, .ref (a 0))] 31 [] := by
          intro nn
          induction nn with
          | zero => intro g pf0 hgg hms; exact absurd hms (Nat.not_lt_zero _)
          | succ nn ih_31 =>
            intro g pf0 hgg hms
            refine kw_iload_n C 0 dX7_ask_31 rfl ?_
            refine kw_bipush (v := nI 9) C dX7_ask_32 (by decide) ?_
            refine kw_aload_n C 2 dX7_ask_34 rfl ?_
            refine kw_get (v := .ref (a 1)) (T := TX7) C 0 1 rfl rfl (by decide) (fun w h => mT (fwX7 w h)) rfl (mT wd_616) rfl dX7_ask_35 ?_
            refine kw_iconst (v := nI 2) C dX7_ask_38 (by decide) ?_
            refine kw_iald (f := Sr) C 1 rfl (by omega) (by decide) dX7_ask_39 ?_
            refine kw_top (show (Sr 2) = (nI N) from by exact hS2) ?_
            refine kw_imul C dX7_ask_40 (kw_top (pk_mul _ _) ?_)
            refine kw_icmp_ge (tgt := 102) C dX7_ask_41 (by decide) (fun c_41 => ?_) (fun c_41 => ?_)
            ·
              have hgE : g = 9 * N + 1 := by
                have := (gs_ge (g := g) (n := 9 * N) (by omega) (by omega)).mp c_41
                omega
              refine kw_bipush (v := (-9)) C dX7_ask_102 (by decide) ?_
              refine kw_istore_n C [(2, .int (-9)), (1, .int (nI (cntG (exM W H N bk ik o kk M sx sy sc) g))), (0, .ref (a 0))] dX7_ask_104 rfl (by decide) rfl ?_
              refine kw_bipush (v := nI 100) C dX7_ask_105 (by decide) ?_
              refine kw_istore_n C [(3, .int (nI 100)), (2, .int (-9)), (1, .int (nI (cntG (exM W H N bk ik o kk M sx sy sc) g))), (0, .ref (a 0))] dX7_ask_107 rfl (by decide) rfl ?_
              refine kw_iconst (v := nI 0) C dX7_ask_108 (by decide) ?_
              refine kw_istore C [(4, .int (nI 0)), (3, .int (nI 100)), (2, .int (-9)), (1, .int (nI (cntG (exM W H N bk ik o kk M sx sy sc) g))), (0, .ref (a 0))] dX7_ask_109 (by decide) rfl ?_
              have L111_3 : ∀ (nn : Nat) (k : Nat) (hk : k ≤ 36) (hkn : 1 < cntG (exM W H N bk ik o kk M sx sy sc) g ∨ k = 0) (hms : 36 - k < nn), KW p l e ({ frames := 4, cells := 0, slots := 0, locals := 98 }) s m ([.ref (a 0)] : List Value).toArray below meth c 0 0 (MQ below (va_Qi (fun (r : Int32) (u : (Nat → Int32) × (Nat → Int32)) => r = (if 1 < cntG (exM W H N bk ik o kk M sx sy sc) (9 * N + 1) then (akM (byG (exM W H N bk ik o kk M sx sy sc) (pvG W H N bk ik o kk) (9 * N + 1)) W H 36).1 else (-9))) (fun (u : (Nat → Int32) × (Nat → Int32)) t => PO G A (kMod y a (nI 0) Sr dr pa um im ikp tx ty sn (nI M) at1 pl tk vl fa u.1 odr gv mk bo u.2) t) A) ([.ref (a 0)] : List Value).toArray s 0 0 A) G A 7 (kMod y a (nI 0) Sr dr pa um im ikp tx ty sn (nI M) at1 pl tk vl fa pf0 odr gv mk bo (byG (exM W H N bk ik o kk M sx sy sc) (pvG W H N bk ik o kk) g)) [(4, .int (nI k)), (3, .int ((akM (byG (exM W H N bk ik o kk M sx sy sc) (pvG W H N bk ik o kk) g) W H k).2)), (2, .int ((akM (byG (exM W H N bk ik o kk M sx sy sc) (pvG W H N bk ik o kk) g) W H k).1)), (1, .int (nI (cntG (exM W H N bk ik o kk M sx sy sc) g))), (0, .ref (a 0))] 111 [] := by
                intro nn
                induction nn with
                | zero => intro k hk hkn hms; exact absurd hms (Nat.not_lt_zero _)
                | succ nn ih_111 =>
                  intro k hk hkn hms
                  refine kw_iload C 0 dX7_ask_111 rfl ?_
                  refine kw_bipush (v := nI 36) C dX7_ask_113 (by decide) ?_
                  refine kw_icmp_ge_N (tgt := 229) C (by omega) (by omega) dX7_ask_115 (by decide) (fun c_115 => ?_) (fun c_115 => ?_)
                  ·
                    refine kw_iload_n C 2 dX7_ask_229 rfl ?_
                    refine kR_i C (pf0, byG (exM W H N bk ik o kk M sx sy sc) (pvG W H N bk ik o kk) g) dX7_ask_230 ?_ rfl
                    rcases Nat.lt_or_ge 1 (cntG (exM W H N bk ik o kk M sx sy sc) g) with hn | hn
                    · have e : k = 36 := by omega
                      rw [hgE] at hn
                      rw [if_pos hn, e, hgE]
                    · have e : k = 0 := by omega
                      rw [hgE] at hn
                      rw [if_neg (by omega), e]
                      rfl
                  ·
                    refine kw_iload_n C 3 dX7_ask_118 rfl ?_
                    refine kw_iconst (v := nI 1) C dX7_ask_119 (by decide) ?_
                    refine kw_icmp_le_N (tgt := 229) C (by have := cntG_le (exM W H N bk ik o kk M sx sy sc) g; omega) (by have := cntG_le (exM W H N bk ik o kk M sx sy sc) g; omega) dX7_ask_120 (by decide) (fun c_120 => ?_) (fun c_120 => ?_)
                    ·
                      refine kw_iload_n C 2 dX7_ask_229 rfl ?_
                      refine kR_i C (pf0, byG (exM W H N bk ik o kk M sx sy sc) (pvG W H N bk ik o kk) g) dX7_ask_230 ?_ rfl
                      rcases Nat.lt_or_ge 1 (cntG (exM W H N bk ik o kk M sx sy sc) g) with hn | hn
                      · have e : k = 36 := by omega
                        rw [hgE] at hn
                        rw [if_pos hn, e, hgE]
                      · have e : k = 0 := by omega
                        rw [hgE] at hn
                        rw [if_neg (by omega), e]
                        rfl
                    ·
                      refine kw_aload_n C 4 dX7_ask_123 rfl ?_
                      refine kw_iload C 0 dX7_ask_124 rfl ?_
                      refine kw_bipush (v := nI 6) C dX7_ask_126 (by decide) ?_
                      refine kw_irem C dX7_ask_128 (by decide) (kw_top (pk_rem (by omega) (by decide) (by decide)) ?_)
                      refine kw_iload C 0 dX7_ask_129 rfl ?_
                      refine kw_bipush (v := nI 6) C dX7_ask_131 (by decide) ?_
                      refine kw_idiv C dX7_ask_133 (by decide) (kw_top (pk_div (by omega) (by decide) (by decide)) ?_)
                      refine kV_i (As := [.int (nI (k % 6)), .int (nI (k / 6))]) (rest := []) (ws' := fun (u : Unit) => kMod y a (nI 0) Sr dr pa um im ikp tx ty sn (nI M) at1 pl tk vl fa pf0 odr gv mk bo (byG (exM W H N bk ik o kk M sx sy sc) (pvG W H N bk ik o kk) g)) C (c_X7_isCell l G y t a (nI 0) Sr dr pa um im ikp tx ty sn (nI M) at1 pl tk vl fa pf0 odr gv mk bo (byG (exM W H N bk ik o kk M sx sy sc) (pvG W H N bk ik o kk) g) (nI (k % 6)) (nI (k / 6)) W H N pcl ik o bk kk (by exact hR)) (cwV 2 C.2.2.2.2.1 (goodV cT wd_770 wd_767 wd_769 wd_27 wd_48) rfl rfl rfl (by decide +kernel) ⟨by decide, by decide⟩) [0, 1, 2, 3, 4, 5, 6, 7, 8, 9, 10, 11, 12, 13] [] [0, 1, 2, 3, 4, 5, 6, 7, 8, 9, 10, 11, 12, 13] rfl (by decide) rfl (by decide) (by decide) (fun _ => rfl) (by decide) 0 rfl rfl rfl (Nat.le_of_ble_eq_true rfl) ⟨by decide, by decide⟩ dX7_ask_134 (fun r u hr_4 => ?_)
                      subst hr_4
                      refine kw_if_eq_D (tgt := 223) C dX7_ask_137 (by decide) (fun c_137 => ?_) (fun c_137 => ?_)
                      ·
                        refine kw_iinc (v := nI (k + 1)) C [(4, .int (nI (k + 1))), (3, .int ((akM (byG (exM W H N bk ik o kk M sx sy sc) (pvG W H N bk ik o kk) g) W H k).2)), (2, .int ((akM (byG (exM W H N bk ik o kk M sx sy sc) (pvG W H N bk ik o kk) g) W H k).1)), (1, .int (nI (cntG (exM W H N bk ik o kk M sx sy sc) g))), (0, .ref (a 0))] 0 dX7_ask_223 rfl (nI_1 _) (by decide) rfl ?_
                        refine kw_goto (tgt := 111) C dX7_ask_226 (by decide) ?_
                        refine KW.loc (lv' := [(4, .int (nI (k + 1))), (3, .int ((akM (byG (exM W H N bk ik o kk M sx sy sc) (pvG W H N bk ik o kk) g) W H k).2)), (2, .int ((akM (byG (exM W H N bk ik o kk M sx sy sc) (pvG W H N bk ik o kk) g) W H k).1)), (1, .int (nI (cntG (exM W H N bk ik o kk M sx sy sc) g))), (0, .ref (a 0))]) [0, 1, 2, 3, 4] rfl ?_
                        refine KW.asl (congrArg (fun zq => ([(4, .int (nI (k + 1))), (3, .int zq), (2, .int ((akM (byG (exM W H N bk ik o kk M sx sy sc) (pvG W H N bk ik o kk) g) W H k).1)), (1, .int (nI (cntG (exM W H N bk ik o kk M sx sy sc) g))), (0, .ref (a 0))] : List (Nat × Value))) (show ((akM (byG (exM W H N bk ik o kk M sx sy sc) (pvG W H N bk ik o kk) g) W H k).2) = ((akM (byG (exM W H N bk ik o kk M sx sy sc) (pvG W H N bk ik o kk) g) W H (k + 1)).2) from by first | exact ak_2 hcell | exact ak_02 (fun h => c_137 (And.intro (inR_of h.1 (by omega)) (inR_of h.2 (by omega)))))) ?_
                        refine KW.asl (congrArg (fun zq => ([(4, .int (nI (k + 1))), (3, .int ((akM (byG (exM W H N bk ik o kk M sx sy sc) (pvG W H N bk ik o kk) g) W H (k + 1)).2)), (2, .int zq), (1, .int (nI (cntG (exM W H N bk ik o kk M sx sy sc) g))), (0, .ref (a 0))] : List (Nat × Value))) (show ((akM (byG (exM W H N bk ik o kk M sx sy sc) (pvG W H N bk ik o kk) g) W H k).1) = ((akM (byG (exM W H N bk ik o kk M sx sy sc) (pvG W H N bk ik o kk) g) W H (k + 1)).1) from by first | exact ak_1 hcell | exact ak_0 (fun h => c_137 (And.intro (inR_of h.1 (by omega)) (inR_of h.2 (by omega)))))) ?_
                        exact ih_111 (k + 1) (by first | assumption | omega | (simp; done)) (by exact Or.inl c_120) (by omega)
                      ·
                        have hcell : k % 6 < W ∧ k / 6 < H := And.intro ((inR_iff (by omega)).mp c_137.1) ((inR_iff (by omega)).mp c_137.2)
                        refine kw_iconst (v := nI 0) C dX7_ask_140 (by decide) ?_
                        refine kw_istore C [(5, .int (nI 0)), (4, .int (nI k)), (3, .int ((akM (byG (exM W H N bk ik o kk M sx sy sc) (pvG W H N bk ik o kk) g) W H k).2)), (2, .int ((akM (byG (exM W H N bk ik o kk M sx sy sc) (pvG W H N bk ik o kk) g) W H k).1)), (1, .int (nI (cntG (exM W H N bk ik o kk M sx sy sc) g))), (0, .ref (a 0))] dX7_ask_141 (by decide) rfl ?_
                        refine kw_iconst (v := nI 0) C dX7_ask_143 (by decide) ?_
                        refine kw_istore C [(6, .int (nI 0)), (5, .int (nI 0)), (4, .int (nI k)), (3, .int ((akM (byG (exM W H N bk ik o kk M sx sy sc) (pvG W H N bk ik o kk) g) W H k).2)), (2, .int ((akM (byG (exM W H N bk ik o kk M sx sy sc) (pvG W H N bk ik o kk) g) W H k).1)), (1, .int (nI (cntG (exM W H N bk ik o kk M sx sy sc) g))), (0, .ref (a 0))] dX7_ask_144 (by decide) rfl ?_
                        have L146_5 : ∀ (nn : Nat) (c1 : Nat) (hc1 : c1 ≤ 8) (hms : 8 - c1 < nn), KW p l e ({ frames := 4, cells := 0, slots := 0, locals := 98 }) s m ([.ref (a 0)] : List Value).toArray below meth c 0 0 (MQ below (va_Qi (fun (r : Int32) (u : (Nat → Int32) × (Nat → Int32)) => r = (if 1 < cntG (exM W H N bk ik o kk M sx sy sc) (9 * N + 1) then (akM (byG (exM W H N bk ik o kk M sx sy sc) (pvG W H N bk ik o kk) (9 * N + 1)) W H 36).1 else (-9))) (fun (u : (Nat → Int32) × (Nat → Int32)) t => PO G A (kMod y a (nI 0) Sr dr pa um im ikp tx ty sn (nI M) at1 pl tk vl fa u.1 odr gv mk bo u.2) t) A) ([.ref (a 0)] : List Value).toArray s 0 0 A) G A 7 (kMod y a (nI 0) Sr dr pa um im ikp tx ty sn (nI M) at1 pl tk vl fa pf0 odr gv mk bo (byG (exM W H N bk ik o kk M sx sy sc) (pvG W H N bk ik o kk) g)) [(6, .int (nI c1)), (5, .int (mxM (byG (exM W H N bk ik o kk M sx sy sc) (pvG W H N bk ik o kk) g) k c1)), (4, .int (nI k)), (3, .int ((akM (byG (exM W H N bk ik o kk M sx sy sc) (pvG W H N bk ik o kk) g) W H k).2)), (2, .int ((akM (byG (exM W H N bk ik o kk M sx sy sc) (pvG W H N bk ik o kk) g) W H k).1)), (1, .int (nI (cntG (exM W H N bk ik o kk M sx sy sc) g))), (0, .ref (a 0))] 146 [] := by
                          intro nn
                          induction nn with
                          | zero => intro c1 hc1 hms; exact absurd hms (Nat.not_lt_zero _)
                          | succ nn ih_146 =>
                            intro c1 hc1 hms
                            refine kw_iload C 0 dX7_ask_146 rfl ?_
                            refine kw_bipush (v := nI 8) C dX7_ask_148 (by decide) ?_
                            refine kw_icmp_ge_N (tgt := 197) C (by omega) (by omega) dX7_ask_150 (by decide) (fun c_150 => ?_) (fun c_150 => ?_)
                            ·
                              refine kw_iload C 1 dX7_ask_197 rfl ?_
                              refine kw_top (show (mxM (byG (exM W H N bk ik o kk M sx sy sc) (pvG W H N bk ik o kk) g) k c1) = (mxM (byG (exM W H N bk ik o kk M sx sy sc) (pvG W H N bk ik o kk) g) k 8) from by rw [show c1 = 8 from by omega]) ?_
                              refine kw_iload_n C 3 dX7_ask_199 rfl ?_
                              have J209_6 : ∀ (_ : Unit), KW p l e ({ frames := 4, cells := 0, slots := 0, locals := 98 }) s m ([.ref (a 0)] : List Value).toArray below meth c 0 0 (MQ below (va_Qi (fun (r : Int32) (u : (Nat → Int32) × (Nat → Int32)) => r = (if 1 < cntG (exM W H N bk ik o kk M sx sy sc) (9 * N + 1) then (akM (byG (exM W H N bk ik o kk M sx sy sc) (pvG W H N bk ik o kk) (9 * N + 1)) W H 36).1 else (-9))) (fun (u : (Nat → Int32) × (Nat → Int32)) t => PO G A (kMod y a (nI 0) Sr dr pa um im ikp tx ty sn (nI M) at1 pl tk vl fa u.1 odr gv mk bo u.2) t) A) ([.ref (a 0)] : List Value).toArray s 0 0 A) G A 7 (kMod y a (nI 0) Sr dr pa um im ikp tx ty sn (nI M) at1 pl tk vl fa pf0 odr gv mk bo (byG (exM W H N bk ik o kk M sx sy sc) (pvG W H N bk ik o kk) g)) [(6, .int (nI c1)), (5, .int (mxM (byG (exM W H N bk ik o kk M sx sy sc) (pvG W H N bk ik o kk) g) k c1)), (4, .int (nI k)), (3, .int ((akM (byG (exM W H N bk ik o kk M sx sy sc) (pvG W H N bk ik o kk) g) W H k).2)), (2, .int ((akM (byG (exM W H N bk ik o kk M sx sy sc) (pvG W H N bk ik o kk) g) W H k).1)), (1, .int (nI (cntG (exM W H N bk ik o kk M sx sy sc) g))), (0, .ref (a 0))] 209 [.int (if mxM (byG (exM W H N bk ik o kk M sx sy sc) (pvG W H N bk ik o kk) g) k 8 < (akM (byG (exM W H N bk ik o kk M sx sy sc) (pvG W H N bk ik o kk) g) W H k).2 then nI k else (akM (byG (exM W H N bk ik o kk M sx sy sc) (pvG W H N bk ik o kk) g) W H k).1)] := by
                                intro _
                                refine kw_istore_n C [(2, .int (if mxM (byG (exM W H N bk ik o kk M sx sy sc) (pvG W H N bk ik o kk) g) k 8 < (akM (byG (exM W H N bk ik o kk M sx sy sc) (pvG W H N bk ik o kk) g) W H k).2 then nI k else (akM (byG (exM W H N bk ik o kk M sx sy sc) (pvG W H N bk ik o kk) g) W H k).1)), (6, .int (nI c1)), (5, .int (mxM (byG (exM W H N bk ik o kk M sx sy sc) (pvG W H N bk ik o kk) g) k c1)), (4, .int (nI k)), (3, .int ((akM (byG (exM W H N bk ik o kk M sx sy sc) (pvG W H N bk ik o kk) g) W H k).2)), (1, .int (nI (cntG (exM W H N bk ik o kk M sx sy sc) g))), (0, .ref (a 0))] dX7_ask_209 rfl (by decide) rfl ?_
                                refine kw_iload C 2 dX7_ask_210 rfl ?_
                                refine kw_top (show (mxM (byG (exM W H N bk ik o kk M sx sy sc) (pvG W H N bk ik o kk) g) k c1) = (mxM (byG (exM W H N bk ik o kk M sx sy sc) (pvG W H N bk ik o kk) g) k 8) from by rw [show c1 = 8 from by omega]) ?_
                                refine kw_iload_n C 4 dX7_ask_212 rfl ?_
                                have J222_7 : ∀ (_ : Unit), KW p l e ({ frames := 4, cells := 0, slots := 0, locals := 98 }) s m ([.ref (a 0)] : List Value).toArray below meth c 0 0 (MQ below (va_Qi (fun (r : Int32) (u : (Nat → Int32) × (Nat → Int32)) => r = (if 1 < cntG (exM W H N bk ik o kk M sx sy sc) (9 * N + 1) then (akM (byG (exM W H N bk ik o kk M sx sy sc) (pvG W H N bk ik o kk) (9 * N + 1)) W H 36).1 else (-9))) (fun (u : (Nat → Int32) × (Nat → Int32)) t => PO G A (kMod y a (nI 0) Sr dr pa um im ikp tx ty sn (nI M) at1 pl tk vl fa u.1 odr gv mk bo u.2) t) A) ([.ref (a 0)] : List Value).toArray s 0 0 A) G A 7 (kMod y a (nI 0) Sr dr pa um im ikp tx ty sn (nI M) at1 pl tk vl fa pf0 odr gv mk bo (byG (exM W H N bk ik o kk M sx sy sc) (pvG W H N bk ik o kk) g)) [(2, .int (if mxM (byG (exM W H N bk ik o kk M sx sy sc) (pvG W H N bk ik o kk) g) k 8 < (akM (byG (exM W H N bk ik o kk M sx sy sc) (pvG W H N bk ik o kk) g) W H k).2 then nI k else (akM (byG (exM W H N bk ik o kk M sx sy sc) (pvG W H N bk ik o kk) g) W H k).1)), (6, .int (nI c1)), (5, .int (mxM (byG (exM W H N bk ik o kk M sx sy sc) (pvG W H N bk ik o kk) g) k c1)), (4, .int (nI k)), (3, .int ((akM (byG (exM W H N bk ik o kk M sx sy sc) (pvG W H N bk ik o kk) g) W H k).2)), (1, .int (nI (cntG (exM W H N bk ik o kk M sx sy sc) g))), (0, .ref (a 0))] 222 [.int (if mxM (byG (exM W H N bk ik o kk M sx sy sc) (pvG W H N bk ik o kk) g) k 8 < (akM (byG (exM W H N bk ik o kk M sx sy sc) (pvG W H N bk ik o kk) g) W H k).2 then mxM (byG (exM W H N bk ik o kk M sx sy sc) (pvG W H N bk ik o kk) g) k 8 else (akM (byG (exM W H N bk ik o kk M sx sy sc) (pvG W H N bk ik o kk) g) W H k).2)] := by
                                  intro _
                                  refine kw_istore_n C [(3, .int (if mxM (byG (exM W H N bk ik o kk M sx sy sc) (pvG W H N bk ik o kk) g) k 8 < (akM (byG (exM W H N bk ik o kk M sx sy sc) (pvG W H N bk ik o kk) g) W H k).2 then mxM (byG (exM W H N bk ik o kk M sx sy sc) (pvG W H N bk ik o kk) g) k 8 else (akM (byG (exM W H N bk ik o kk M sx sy sc) (pvG W H N bk ik o kk) g) W H k).2)), (2, .int (if mxM (byG (exM W H N bk ik o kk M sx sy sc) (pvG W H N bk ik o kk) g) k 8 < (akM (byG (exM W H N bk ik o kk M sx sy sc) (pvG W H N bk ik o kk) g) W H k).2 then nI k else (akM (byG (exM W H N bk ik o kk M sx sy sc) (pvG W H N bk ik o kk) g) W H k).1)), (6, .int (nI c1)), (5, .int (mxM (byG (exM W H N bk ik o kk M sx sy sc) (pvG W H N bk ik o kk) g) k c1)), (4, .int (nI k)), (1, .int (nI (cntG (exM W H N bk ik o kk M sx sy sc) g))), (0, .ref (a 0))] dX7_ask_222 rfl (by decide) rfl ?_
                                  refine kw_iinc (v := nI (k + 1)) C [(4, .int (nI (k + 1))), (3, .int (if mxM (byG (exM W H N bk ik o kk M sx sy sc) (pvG W H N bk ik o kk) g) k 8 < (akM (byG (exM W H N bk ik o kk M sx sy sc) (pvG W H N bk ik o kk) g) W H k).2 then mxM (byG (exM W H N bk ik o kk M sx sy sc) (pvG W H N bk ik o kk) g) k 8 else (akM (byG (exM W H N bk ik o kk M sx sy sc) (pvG W H N bk ik o kk) g) W H k).2)), (2, .int (if mxM (byG (exM W H N bk ik o kk M sx sy sc) (pvG W H N bk ik o kk) g) k 8 < (akM (byG (exM W H N bk ik o kk M sx sy sc) (pvG W H N bk ik o kk) g) W H k).2 then nI k else (akM (byG (exM W H N bk ik o kk M sx sy sc) (pvG W H N bk ik o kk) g) W H k).1)), (6, .int (nI c1)), (5, .int (mxM (byG (exM W H N bk ik o kk M sx sy sc) (pvG W H N bk ik o kk) g) k c1)), (1, .int (nI (cntG (exM W H N bk ik o kk M sx sy sc) g))), (0, .ref (a 0))] 4 dX7_ask_223 rfl (nI_1 _) (by decide) rfl ?_
                                  refine kw_goto (tgt := 111) C dX7_ask_226 (by decide) ?_
                                  refine KW.loc (lv' := [(4, .int (nI (k + 1))), (3, .int (if mxM (byG (exM W H N bk ik o kk M sx sy sc) (pvG W H N bk ik o kk) g) k 8 < (akM (byG (exM W H N bk ik o kk M sx sy sc) (pvG W H N bk ik o kk) g) W H k).2 then mxM (byG (exM W H N bk ik o kk M sx sy sc) (pvG W H N bk ik o kk) g) k 8 else (akM (byG (exM W H N bk ik o kk M sx sy sc) (pvG W H N bk ik o kk) g) W H k).2)), (2, .int (if mxM (byG (exM W H N bk ik o kk M sx sy sc) (pvG W H N bk ik o kk) g) k 8 < (akM (byG (exM W H N bk ik o kk M sx sy sc) (pvG W H N bk ik o kk) g) W H k).2 then nI k else (akM (byG (exM W H N bk ik o kk M sx sy sc) (pvG W H N bk ik o kk) g) W H k).1)), (1, .int (nI (cntG (exM W H N bk ik o kk M sx sy sc) g))), (0, .ref (a 0))]) [0, 1, 2, 5, 6] rfl ?_
                                  refine KW.asl (congrArg (fun zq => ([(4, .int (nI (k + 1))), (3, .int zq), (2, .int (if mxM (byG (exM W H N bk ik o kk M sx sy sc) (pvG W H N bk ik o kk) g) k 8 < (akM (byG (exM W H N bk ik o kk M sx sy sc) (pvG W H N bk ik o kk) g) W H k).2 then nI k else (akM (byG (exM W H N bk ik o kk M sx sy sc) (pvG W H N bk ik o kk) g) W H k).1)), (1, .int (nI (cntG (exM W H N bk ik o kk M sx sy sc) g))), (0, .ref (a 0))] : List (Nat × Value))) (show (if mxM (byG (exM W H N bk ik o kk M sx sy sc) (pvG W H N bk ik o kk) g) k 8 < (akM (byG (exM W H N bk ik o kk M sx sy sc) (pvG W H N bk ik o kk) g) W H k).2 then mxM (byG (exM W H N bk ik o kk M sx sy sc) (pvG W H N bk ik o kk) g) k 8 else (akM (byG (exM W H N bk ik o kk M sx sy sc) (pvG W H N bk ik o kk) g) W H k).2) = ((akM (byG (exM W H N bk ik o kk M sx sy sc) (pvG W H N bk ik o kk) g) W H (k + 1)).2) from by first | exact ak_2 hcell | exact ak_02 (fun h => c_137 (And.intro (inR_of h.1 (by omega)) (inR_of h.2 (by omega)))))) ?_
                                  refine KW.asl (congrArg (fun zq => ([(4, .int (nI (k + 1))), (3, .int ((akM (byG (exM W H N bk ik o kk M sx sy sc) (pvG W H N bk ik o kk) g) W H (k + 1)).2)), (2, .int zq), (1, .int (nI (cntG (exM W H N bk ik o kk M sx sy sc) g))), (0, .ref (a 0))] : List (Nat × Value))) (show (if mxM (byG (exM W H N bk ik o kk M sx sy sc) (pvG W H N bk ik o kk) g) k 8 < (akM (byG (exM W H N bk ik o kk M sx sy sc) (pvG W H N bk ik o kk) g) W H k).2 then nI k else (akM (byG (exM W H N bk ik o kk M sx sy sc) (pvG W H N bk ik o kk) g) W H k).1) = ((akM (byG (exM W H N bk ik o kk M sx sy sc) (pvG W H N bk ik o kk) g) W H (k + 1)).1) from by first | exact ak_1 hcell | exact ak_0 (fun h => c_137 (And.intro (inR_of h.1 (by omega)) (inR_of h.2 (by omega)))))) ?_
                                  exact ih_111 (k + 1) (by first | assumption | omega | (simp; done)) (by exact Or.inl c_120) (by omega)
                                refine kw_icmp_ge (tgt := 221) C dX7_ask_213 (by decide) (fun c_213 => ?_) (fun c_213 => ?_)
                                ·
                                  refine kw_iload_n C 4 dX7_ask_221 rfl ?_
                                  refine KW.loc (lv' := [(2, .int (if mxM (byG (exM W H N bk ik o kk M sx sy sc) (pvG W H N bk ik o kk) g) k 8 < (akM (byG (exM W H N bk ik o kk M sx sy sc) (pvG W H N bk ik o kk) g) W H k).2 then nI k else (akM (byG (exM W H N bk ik o kk M sx sy sc) (pvG W H N bk ik o kk) g) W H k).1)), (6, .int (nI c1)), (5, .int (mxM (byG (exM W H N bk ik o kk M sx sy sc) (pvG W H N bk ik o kk) g) k c1)), (4, .int (nI k)), (3, .int ((akM (byG (exM W H N bk ik o kk M sx sy sc) (pvG W H N bk ik o kk) g) W H k).2)), (1, .int (nI (cntG (exM W H N bk ik o kk M sx sy sc) g))), (0, .ref (a 0))]) [0, 1, 2, 3, 4, 5, 6] rfl ?_
                                  refine KW.ass (congrArg (fun zq => ([.int zq] : List Value)) (show ((akM (byG (exM W H N bk ik o kk M sx sy sc) (pvG W H N bk ik o kk) g) W H k).2) = (if mxM (byG (exM W H N bk ik o kk M sx sy sc) (pvG W H N bk ik o kk) g) k 8 < (akM (byG (exM W H N bk ik o kk M sx sy sc) (pvG W H N bk ik o kk) g) W H k).2 then mxM (byG (exM W H N bk ik o kk M sx sy sc) (pvG W H N bk ik o kk) g) k 8 else (akM (byG (exM W H N bk ik o kk M sx sy sc) (pvG W H N bk ik o kk) g) W H k).2) from by first | (rw [if_neg (Int32.not_lt.mpr c_213)]; done) | (rw [if_pos (not_le32 c_213)]; done))) ?_
                                  exact J222_7 ()
                                ·
                                  refine kw_iload C 2 dX7_ask_216 rfl ?_
                                  refine kw_top (show (mxM (byG (exM W H N bk ik o kk M sx sy sc) (pvG W H N bk ik o kk) g) k c1) = (mxM (byG (exM W H N bk ik o kk M sx sy sc) (pvG W H N bk ik o kk) g) k 8) from by rw [show c1 = 8 from by omega]) ?_
                                  refine kw_goto (tgt := 222) C dX7_ask_218 (by decide) ?_
                                  refine KW.loc (lv' := [(2, .int (if mxM (byG (exM W H N bk ik o kk M sx sy sc) (pvG W H N bk ik o kk) g) k 8 < (akM (byG (exM W H N bk ik o kk M sx sy sc) (pvG W H N bk ik o kk) g) W H k).2 then nI k else (akM (byG (exM W H N bk ik o kk M sx sy sc) (pvG W H N bk ik o kk) g) W H k).1)), (6, .int (nI c1)), (5, .int (mxM (byG (exM W H N bk ik o kk M sx sy sc) (pvG W H N bk ik o kk) g) k c1)), (4, .int (nI k)), (3, .int ((akM (byG (exM W H N bk ik o kk M sx sy sc) (pvG W H N bk ik o kk) g) W H k).2)), (1, .int (nI (cntG (exM W H N bk ik o kk M sx sy sc) g))), (0, .ref (a 0))]) [0, 1, 2, 3, 4, 5, 6] rfl ?_
                                  refine KW.ass (congrArg (fun zq => ([.int zq] : List Value)) (show (mxM (byG (exM W H N bk ik o kk M sx sy sc) (pvG W H N bk ik o kk) g) k 8) = (if mxM (byG (exM W H N bk ik o kk M sx sy sc) (pvG W H N bk ik o kk) g) k 8 < (akM (byG (exM W H N bk ik o kk M sx sy sc) (pvG W H N bk ik o kk) g) W H k).2 then mxM (byG (exM W H N bk ik o kk M sx sy sc) (pvG W H N bk ik o kk) g) k 8 else (akM (byG (exM W H N bk ik o kk M sx sy sc) (pvG W H N bk ik o kk) g) W H k).2) from by first | (rw [if_neg (Int32.not_lt.mpr c_213)]; done) | (rw [if_pos (not_le32 c_213)]; done))) ?_
                                  exact J222_7 ()
                              refine kw_icmp_ge (tgt := 208) C dX7_ask_200 (by decide) (fun c_200 => ?_) (fun c_200 => ?_)
                              ·
                                refine kw_iload_n C 4 dX7_ask_208 rfl ?_
                                refine KW.loc (lv' := [(6, .int (nI c1)), (5, .int (mxM (byG (exM W H N bk ik o kk M sx sy sc) (pvG W H N bk ik o kk) g) k c1)), (4, .int (nI k)), (3, .int ((akM (byG (exM W H N bk ik o kk M sx sy sc) (pvG W H N bk ik o kk) g) W H k).2)), (2, .int ((akM (byG (exM W H N bk ik o kk M sx sy sc) (pvG W H N bk ik o kk) g) W H k).1)), (1, .int (nI (cntG (exM W H N bk ik o kk M sx sy sc) g))), (0, .ref (a 0))]) [0, 1, 2, 3, 4, 5, 6] rfl ?_
                                refine KW.ass (congrArg (fun zq => ([.int zq] : List Value)) (show ((akM (byG (exM W H N bk ik o kk M sx sy sc) (pvG W H N bk ik o kk) g) W H k).1) = (if mxM (byG (exM W H N bk ik o kk M sx sy sc) (pvG W H N bk ik o kk) g) k 8 < (akM (byG (exM W H N bk ik o kk M sx sy sc) (pvG W H N bk ik o kk) g) W H k).2 then nI k else (akM (byG (exM W H N bk ik o kk M sx sy sc) (pvG W H N bk ik o kk) g) W H k).1) from by first | (rw [if_neg (Int32.not_lt.mpr c_200)]; done) | (rw [if_pos (not_le32 c_200)]; done))) ?_
                                exact J209_6 ()
                              ·
                                refine kw_iload C 2 dX7_ask_203 rfl ?_
                                refine kw_goto (tgt := 209) C dX7_ask_205 (by decide) ?_
                                refine KW.loc (lv' := [(6, .int (nI c1)), (5, .int (mxM (byG (exM W H N bk ik o kk M sx sy sc) (pvG W H N bk ik o kk) g) k c1)), (4, .int (nI k)), (3, .int ((akM (byG (exM W H N bk ik o kk M sx sy sc) (pvG W H N bk ik o kk) g) W H k).2)), (2, .int ((akM (byG (exM W H N bk ik o kk M sx sy sc) (pvG W H N bk ik o kk) g) W H k).1)), (1, .int (nI (cntG (exM W H N bk ik o kk M sx sy sc) g))), (0, .ref (a 0))]) [0, 1, 2, 3, 4, 5, 6] rfl ?_
                                refine KW.ass (congrArg (fun zq => ([.int zq] : List Value)) (show (nI k) = (if mxM (byG (exM W H N bk ik o kk M sx sy sc) (pvG W H N bk ik o kk) g) k 8 < (akM (byG (exM W H N bk ik o kk M sx sy sc) (pvG W H N bk ik o kk) g) W H k).2 then nI k else (akM (byG (exM W H N bk ik o kk M sx sy sc) (pvG W H N bk ik o kk) g) W H k).1) from by first | (rw [if_neg (Int32.not_lt.mpr c_200)]; done) | (rw [if_pos (not_le32 c_200)]; done))) ?_
                                exact J209_6 ()
                            ·
                              refine kw_aload_n C 6 dX7_ask_153 rfl ?_
                              refine kw_get (v := .ref (a 13)) (T := TX7) C 0 21 rfl rfl (by decide) (fun w h => mT (fwX7 w h)) rfl (mT wd_636) rfl dX7_ask_154 ?_
                              refine kw_bipush (v := nI 8) C dX7_ask_157 (by decide) ?_
                              refine kw_iload C 2 dX7_ask_159 rfl ?_
                              refine kw_imul C dX7_ask_161 (kw_top (pk_mul _ _) ?_)
                              refine kw_iload C 0 dX7_ask_162 rfl ?_
                              refine kw_iadd C dX7_ask_164 (kw_top (nI_add _ _) ?_)
                              refine kw_iald (f := byG (exM W H N bk ik o kk M sx sy sc) (pvG W H N bk ik o kk) g) C 13 rfl (by omega) (by decide) dX7_ask_165 ?_
                              refine kw_iload C 1 dX7_ask_166 rfl ?_
                              have J189_8 : ∀ (_ : Unit), KW p l e ({ frames := 4, cells := 0, slots := 0, locals := 98 }) s m ([.ref (a 0)] : List Value).toArray below meth c 0 0 (MQ below (va_Qi (fun (r : Int32) (u : (Nat → Int32) × (Nat → Int32)) => r = (if 1 < cntG (exM W H N bk ik o kk M sx sy sc) (9 * N + 1) then (akM (byG (exM W H N bk ik o kk M sx sy sc) (pvG W H N bk ik o kk) (9 * N + 1)) W H 36).1 else (-9))) (fun (u : (Nat → Int32) × (Nat → Int32)) t => PO G A (kMod y a (nI 0) Sr dr pa um im ikp tx ty sn (nI M) at1 pl tk vl fa u.1 odr gv mk bo u.2) t) A) ([.ref (a 0)] : List Value).toArray s 0 0 A) G A 7 (kMod y a (nI 0) Sr dr pa um im ikp tx ty sn (nI M) at1 pl tk vl fa pf0 odr gv mk bo (byG (exM W H N bk ik o kk M sx sy sc) (pvG W H N bk ik o kk) g)) [(6, .int (nI c1)), (5, .int (mxM (byG (exM W H N bk ik o kk M sx sy sc) (pvG W H N bk ik o kk) g) k c1)), (4, .int (nI k)), (3, .int ((akM (byG (exM W H N bk ik o kk M sx sy sc) (pvG W H N bk ik o kk) g) W H k).2)), (2, .int ((akM (byG (exM W H N bk ik o kk M sx sy sc) (pvG W H N bk ik o kk) g) W H k).1)), (1, .int (nI (cntG (exM W H N bk ik o kk M sx sy sc) g))), (0, .ref (a 0))] 189 [.int (if mxM (byG (exM W H N bk ik o kk M sx sy sc) (pvG W H N bk ik o kk) g) k c1 < byG (exM W H N bk ik o kk M sx sy sc) (pvG W H N bk ik o kk) g (8 * k + c1) then byG (exM W H N bk ik o kk M sx sy sc) (pvG W H N bk ik o kk) g (8 * k + c1) else mxM (byG (exM W H N bk ik o kk M sx sy sc) (pvG W H N bk ik o kk) g) k c1)] := by
                                intro _
                                refine kw_istore C [(5, .int (if mxM (byG (exM W H N bk ik o kk M sx sy sc) (pvG W H N bk ik o kk) g) k c1 < byG (exM W H N bk ik o kk M sx sy sc) (pvG W H N bk ik o kk) g (8 * k + c1) then byG (exM W H N bk ik o kk M sx sy sc) (pvG W H N bk ik o kk) g (8 * k + c1) else mxM (byG (exM W H N bk ik o kk M sx sy sc) (pvG W H N bk ik o kk) g) k c1)), (6, .int (nI c1)), (4, .int (nI k)), (3, .int ((akM (byG (exM W H N bk ik o kk M sx sy sc) (pvG W H N bk ik o kk) g) W H k).2)), (2, .int ((akM (byG (exM W H N bk ik o kk M sx sy sc) (pvG W H N bk ik o kk) g) W H k).1)), (1, .int (nI (cntG (exM W H N bk ik o kk M sx sy sc) g))), (0, .ref (a 0))] dX7_ask_189 (by decide) rfl ?_
                                refine kw_iinc (v := nI (c1 + 1)) C [(6, .int (nI (c1 + 1))), (5, .int (if mxM (byG (exM W H N bk ik o kk M sx sy sc) (pvG W H N bk ik o kk) g) k c1 < byG (exM W H N bk ik o kk M sx sy sc) (pvG W H N bk ik o kk) g (8 * k + c1) then byG (exM W H N bk ik o kk M sx sy sc) (pvG W H N bk ik o kk) g (8 * k + c1) else mxM (byG (exM W H N bk ik o kk M sx sy sc) (pvG W H N bk ik o kk) g) k c1)), (4, .int (nI k)), (3, .int ((akM (byG (exM W H N bk ik o kk M sx sy sc) (pvG W H N bk ik o kk) g) W H k).2)), (2, .int ((akM (byG (exM W H N bk ik o kk M sx sy sc) (pvG W H N bk ik o kk) g) W H k).1)), (1, .int (nI (cntG (exM W H N bk ik o kk M sx sy sc) g))), (0, .ref (a 0))] 1 dX7_ask_191 rfl (nI_1 _) (by decide) rfl ?_
                                refine kw_goto (tgt := 146) C dX7_ask_194 (by decide) ?_
                                refine KW.loc (lv' := [(6, .int (nI (c1 + 1))), (5, .int (if mxM (byG (exM W H N bk ik o kk M sx sy sc) (pvG W H N bk ik o kk) g) k c1 < byG (exM W H N bk ik o kk M sx sy sc) (pvG W H N bk ik o kk) g (8 * k + c1) then byG (exM W H N bk ik o kk M sx sy sc) (pvG W H N bk ik o kk) g (8 * k + c1) else mxM (byG (exM W H N bk ik o kk M sx sy sc) (pvG W H N bk ik o kk) g) k c1)), (4, .int (nI k)), (3, .int ((akM (byG (exM W H N bk ik o kk M sx sy sc) (pvG W H N bk ik o kk) g) W H k).2)), (2, .int ((akM (byG (exM W H N bk ik o kk M sx sy sc) (pvG W H N bk ik o kk) g) W H k).1)), (1, .int (nI (cntG (exM W H N bk ik o kk M sx sy sc) g))), (0, .ref (a 0))]) [0, 1, 2, 3, 4, 5, 6] rfl ?_
                                refine KW.asl (congrArg (fun zq => ([(6, .int (nI (c1 + 1))), (5, .int zq), (4, .int (nI k)), (3, .int ((akM (byG (exM W H N bk ik o kk M sx sy sc) (pvG W H N bk ik o kk) g) W H k).2)), (2, .int ((akM (byG (exM W H N bk ik o kk M sx sy sc) (pvG W H N bk ik o kk) g) W H k).1)), (1, .int (nI (cntG (exM W H N bk ik o kk M sx sy sc) g))), (0, .ref (a 0))] : List (Nat × Value))) (show (if mxM (byG (exM W H N bk ik o kk M sx sy sc) (pvG W H N bk ik o kk) g) k c1 < byG (exM W H N bk ik o kk M sx sy sc) (pvG W H N bk ik o kk) g (8 * k + c1) then byG (exM W H N bk ik o kk M sx sy sc) (pvG W H N bk ik o kk) g (8 * k + c1) else mxM (byG (exM W H N bk ik o kk M sx sy sc) (pvG W H N bk ik o kk) g) k c1) = (mxM (byG (exM W H N bk ik o kk M sx sy sc) (pvG W H N bk ik o kk) g) k (c1 + 1)) from by rfl)) ?_
                                exact ih_146 (c1 + 1) (by first | assumption | omega | (simp; done)) (by omega)
                              refine kw_icmp_le (tgt := 187) C dX7_ask_168 (by decide) (fun c_168 => ?_) (fun c_168 => ?_)
                              ·
                                refine kw_iload C 1 dX7_ask_187 rfl ?_
                                refine KW.loc (lv' := [(6, .int (nI c1)), (5, .int (mxM (byG (exM W H N bk ik o kk M sx sy sc) (pvG W H N bk ik o kk) g) k c1)), (4, .int (nI k)), (3, .int ((akM (byG (exM W H N bk ik o kk M sx sy sc) (pvG W H N bk ik o kk) g) W H k).2)), (2, .int ((akM (byG (exM W H N bk ik o kk M sx sy sc) (pvG W H N bk ik o kk) g) W H k).1)), (1, .int (nI (cntG (exM W H N bk ik o kk M sx sy sc) g))), (0, .ref (a 0))]) [0, 1, 2, 3, 4, 5, 6] rfl ?_
                                refine KW.ass (congrArg (fun zq => ([.int zq] : List Value)) (show (mxM (byG (exM W H N bk ik o kk M sx sy sc) (pvG W H N bk ik o kk) g) k c1) = (if mxM (byG (exM W H N bk ik o kk M sx sy sc) (pvG W H N bk ik o kk) g) k c1 < byG (exM W H N bk ik o kk M sx sy sc) (pvG W H N bk ik o kk) g (8 * k + c1) then byG (exM W H N bk ik o kk M sx sy sc) (pvG W H N bk ik o kk) g (8 * k + c1) else mxM (byG (exM W H N bk ik o kk M sx sy sc) (pvG W H N bk ik o kk) g) k c1) from by first | (rw [if_neg (Int32.not_lt.mpr c_168)]; done) | (rw [if_pos (not_le32 c_168)]; done))) ?_
                                exact J189_8 ()
                              ·
                                refine kw_aload_n C 6 dX7_ask_171 rfl ?_
                                refine kw_get (v := .ref (a 13)) (T := TX7) C 0 21 rfl rfl (by decide) (fun w h => mT (fwX7 w h)) rfl (mT wd_636) rfl dX7_ask_172 ?_
                                refine kw_bipush (v := nI 8) C dX7_ask_175 (by decide) ?_
                                refine kw_iload C 2 dX7_ask_177 rfl ?_
                                refine kw_imul C dX7_ask_179 (kw_top (pk_mul _ _) ?_)
                                refine kw_iload C 0 dX7_ask_180 rfl ?_
                                refine kw_iadd C dX7_ask_182 (kw_top (nI_add _ _) ?_)
                                refine kw_iald (f := byG (exM W H N bk ik o kk M sx sy sc) (pvG W H N bk ik o kk) g) C 13 rfl (by omega) (by decide) dX7_ask_183 ?_
                                refine kw_goto (tgt := 189) C dX7_ask_184 (by decide) ?_
                                refine KW.loc (lv' := [(6, .int (nI c1)), (5, .int (mxM (byG (exM W H N bk ik o kk M sx sy sc) (pvG W H N bk ik o kk) g) k c1)), (4, .int (nI k)), (3, .int ((akM (byG (exM W H N bk ik o kk M sx sy sc) (pvG W H N bk ik o kk) g) W H k).2)), (2, .int ((akM (byG (exM W H N bk ik o kk M sx sy sc) (pvG W H N bk ik o kk) g) W H k).1)), (1, .int (nI (cntG (exM W H N bk ik o kk M sx sy sc) g))), (0, .ref (a 0))]) [0, 1, 2, 3, 4, 5, 6] rfl ?_
                                refine KW.ass (congrArg (fun zq => ([.int zq] : List Value)) (show ((byG (exM W H N bk ik o kk M sx sy sc) (pvG W H N bk ik o kk) g) ((8 * k) + c1)) = (if mxM (byG (exM W H N bk ik o kk M sx sy sc) (pvG W H N bk ik o kk) g) k c1 < byG (exM W H N bk ik o kk M sx sy sc) (pvG W H N bk ik o kk) g (8 * k + c1) then byG (exM W H N bk ik o kk M sx sy sc) (pvG W H N bk ik o kk) g (8 * k + c1) else mxM (byG (exM W H N bk ik o kk M sx sy sc) (pvG W H N bk ik o kk) g) k c1) from by first | (rw [if_neg (Int32.not_lt.mpr c_168)]; done) | (rw [if_pos (not_le32 c_168)]; done))) ?_
                                exact J189_8 ()
                        refine KW.loc (lv' := [(6, .int (nI 0)), (5, .int (nI 0)), (4, .int (nI k)), (3, .int ((akM (byG (exM W H N bk ik o kk M sx sy sc) (pvG W H N bk ik o kk) g) W H k).2)), (2, .int ((akM (byG (exM W H N bk ik o kk M sx sy sc) (pvG W H N bk ik o kk) g) W H k).1)), (1, .int (nI (cntG (exM W H N bk ik o kk M sx sy sc) g))), (0, .ref (a 0))]) [0, 1, 2, 3, 4, 5, 6] rfl ?_
                        refine KW.asl (congrArg (fun zq => ([(6, .int (nI 0)), (5, .int zq), (4, .int (nI k)), (3, .int ((akM (byG (exM W H N bk ik o kk M sx sy sc) (pvG W H N bk ik o kk) g) W H k).2)), (2, .int ((akM (byG (exM W H N bk ik o kk M sx sy sc) (pvG W H N bk ik o kk) g) W H k).1)), (1, .int (nI (cntG (exM W H N bk ik o kk M sx sy sc) g))), (0, .ref (a 0))] : List (Nat × Value))) (show (nI 0) = (mxM (byG (exM W H N bk ik o kk M sx sy sc) (pvG W H N bk ik o kk) g) k 0) from by rfl)) ?_
                        exact L146_5 (8 - 0 + 1) 0 (by first | assumption | omega | (simp; done)) (Nat.lt_succ_self _)
              refine KW.loc (lv' := [(4, .int (nI 0)), (3, .int (nI 100)), (2, .int (-9)), (1, .int (nI (cntG (exM W H N bk ik o kk M sx sy sc) g))), (0, .ref (a 0))]) [0, 1, 2, 3, 4] rfl ?_
              refine KW.asl (congrArg (fun zq => ([(4, .int (nI 0)), (3, .int zq), (2, .int (-9)), (1, .int (nI (cntG (exM W H N bk ik o kk M sx sy sc) g))), (0, .ref (a 0))] : List (Nat × Value))) (show (nI 100) = ((akM (byG (exM W H N bk ik o kk M sx sy sc) (pvG W H N bk ik o kk) g) W H 0).2) from by rfl)) ?_
              refine KW.asl (congrArg (fun zq => ([(4, .int (nI 0)), (3, .int ((akM (byG (exM W H N bk ik o kk M sx sy sc) (pvG W H N bk ik o kk) g) W H 0).2)), (2, .int zq), (1, .int (nI (cntG (exM W H N bk ik o kk M sx sy sc) g))), (0, .ref (a 0))] : List (Nat × Value))) (show (-9) = ((akM (byG (exM W H N bk ik o kk M sx sy sc) (pvG W H N bk ik o kk) g) W H 0).1) from by rfl)) ?_
              exact L111_3 (36 - 0 + 1) 0 (by first | assumption | omega | (simp; done)) (by exact Or.inr rfl) (Nat.lt_succ_self _)
            ·
              have hgN : g ≤ 9 * N := by
                rcases Nat.lt_or_ge (9 * N) g with h | h
                · exact absurd ((gs_ge (by omega) (by omega)).mpr h) c_41
                · exact h
              refine kw_aload_n C 2 dX7_ask_44 rfl ?_
              refine kw_iload_n C 0 dX7_ask_45 rfl ?_
              refine kV_i (As := [.int (gs g)]) (rest := []) (ws' := fun (u : Nat → Int32) => kMod y a (nI 0) Sr dr pa um im ikp tx ty sn (nI M) at1 pl tk vl fa u odr gv mk bo (byG (exM W H N bk ik o kk M sx sy sc) (pvG W H N bk ik o kk) g)) C (c_X7_tries l G y t a (nI 0) Sr dr pa um im ikp tx ty sn (nI M) at1 pl tk vl fa pf0 odr gv mk bo (byG (exM W H N bk ik o kk M sx sy sc) (pvG W H N bk ik o kk) g) g W H N pcl ik o bk kk (by exact hR) (by exact hgN)) (cwV 1 C.2.2.2.2.1 (goodV cT wd_860 wd_857 wd_859 wd_36 wd_48) rfl rfl rfl (by decide +kernel) ⟨by decide, by decide⟩) [0, 1, 2, 3, 4, 5, 6, 7, 8, 9, 10, 11, 12, 13] [] [0, 1, 2, 3, 4, 5, 6, 7, 8, 9, 10, 11, 12, 13] rfl (by decide) rfl (by decide) (by decide) (fun _ => rfl) (by decide) 0 rfl rfl rfl (Nat.le_of_ble_eq_true rfl) ⟨by decide, by decide⟩ dX7_ask_46 (fun r u hr_9 => ?_)
              obtain ⟨pf_t, ehr_9⟩ : ∃ z, z = u := ⟨u, rfl⟩
              subst ehr_9
              obtain ⟨hq, hpt⟩ := hr_9
              subst hq
              refine kw_if_eq_B (tgt := 96) C dX7_ask_49 (by decide) (fun c_49 => ?_) (fun c_49 => ?_)
              ·
                have hex : exM W H N bk ik o kk M sx sy sc g = false := by unfold exM; rw [c_49]; rfl
                refine kw_iinc (v := gs (g + 1)) C [(2, .int (gs (g + 1))), (1, .int (nI (cntG (exM W H N bk ik o kk M sx sy sc) g))), (0, .ref (a 0))] 0 dX7_ask_96 rfl (by exact gs_inc g) (by decide) rfl ?_
                refine kw_goto (tgt := 31) C dX7_ask_99 (by decide) ?_
                refine KW.loc (lv' := [(2, .int (gs (g + 1))), (1, .int (nI (cntG (exM W H N bk ik o kk M sx sy sc) g))), (0, .ref (a 0))]) [0, 1, 2] rfl ?_
                refine KW.asl (congrArg (fun zq => ([(2, .int (gs (g + 1))), (1, .int zq), (0, .ref (a 0))] : List (Nat × Value))) (show (nI (cntG (exM W H N bk ik o kk M sx sy sc) g)) = (nI (cntG (exM W H N bk ik o kk M sx sy sc) (g + 1))) from by simp [cntG, hex])) ?_
                refine KW.asw (congrArg (fun zq => (kMod y a (nI 0) Sr dr pa um im ikp tx ty sn (nI M) at1 pl tk vl fa pf_t odr gv mk bo zq : va_W)) (show (byG (exM W H N bk ik o kk M sx sy sc) (pvG W H N bk ik o kk) g) = (byG (exM W H N bk ik o kk M sx sy sc) (pvG W H N bk ik o kk) (g + 1)) from by first | (simp only [byG]; rw [if_neg (by rw [hex]; decide)]; done) | (simp only [byG]; rw [if_pos hex, show k = 36 from by omega]))) ?_
                exact ih_31 (g + 1) pf_t (by first | assumption | omega | (simp; done)) (by omega)
              ·
                refine kw_aload_n C 2 dX7_ask_52 rfl ?_
                refine kw_exti (aN (pvG W H N bk ik o kk g)) 8 (kMod y a (nI 0) Sr dr pa um im ikp tx ty sn (nI M) at1 pl tk vl fa (aN (pvG W H N bk ik o kk g)) odr gv mk bo (byG (exM W H N bk ik o kk M sx sy sc) (pvG W H N bk ik o kk) g)) rfl (by intro j _; rw [hpt c_49]) rfl ?_
                refine kV_i (As := []) (rest := []) (ws' := fun (u : Unit) => kMod y a (nI 0) Sr dr pa um im ikp tx ty sn (nI M) at1 pl tk vl fa (aN (pvG W H N bk ik o kk g)) odr gv mk bo (byG (exM W H N bk ik o kk M sx sy sc) (pvG W H N bk ik o kk) g)) C (c_X7_isSeen l G y t a (nI 0) Sr dr pa um im ikp tx ty sn at1 pl tk vl fa odr gv mk bo (byG (exM W H N bk ik o kk M sx sy sc) (pvG W H N bk ik o kk) g) (pvG W H N bk ik o kk g) M sx sy sc W H N pcl ik o bk kk (by exact hR) (by first | assumption | omega | decide) (by first | assumption | omega | decide) (by exact fun j => pvF_lt hink hord N (Nat.le_refl N) j)) (cwV 0 C.2.2.2.2.1 (goodV cT wd_864 wd_861 wd_863 wd_37 wd_48) rfl rfl rfl (by decide +kernel) ⟨by decide, by decide⟩) [0, 1, 2, 3, 4, 5, 6, 7, 8, 9, 10, 11, 12, 13] [] [0, 1, 2, 3, 4, 5, 6, 7, 8, 9, 10, 11, 12, 13] rfl (by decide) rfl (by decide) (by decide) (fun _ => rfl) (by decide) 0 rfl rfl rfl (Nat.le_of_ble_eq_true rfl) ⟨by decide, by decide⟩ dX7_ask_53 (fun r u hr_10 => ?_)
                subst hr_10
                refine kw_if_eq_B (tgt := 96) C dX7_ask_56 (by decide) (fun c_56 => ?_) (fun c_56 => ?_)
                ·
                  have hex : exM W H N bk ik o kk M sx sy sc g = false := by unfold exM; rw [c_49, c_56]; rfl
                  refine kw_iinc (v := gs (g + 1)) C [(2, .int (gs (g + 1))), (1, .int (nI (cntG (exM W H N bk ik o kk M sx sy sc) g))), (0, .ref (a 0))] 0 dX7_ask_96 rfl (by exact gs_inc g) (by decide) rfl ?_
                  refine kw_goto (tgt := 31) C dX7_ask_99 (by decide) ?_
                  refine KW.loc (lv' := [(2, .int (gs (g + 1))), (1, .int (nI (cntG (exM W H N bk ik o kk M sx sy sc) g))), (0, .ref (a 0))]) [0, 1, 2] rfl ?_
                  refine KW.asl (congrArg (fun zq => ([(2, .int (gs (g + 1))), (1, .int zq), (0, .ref (a 0))] : List (Nat × Value))) (show (nI (cntG (exM W H N bk ik o kk M sx sy sc) g)) = (nI (cntG (exM W H N bk ik o kk M sx sy sc) (g + 1))) from by simp [cntG, hex])) ?_
                  refine KW.asw (congrArg (fun zq => (kMod y a (nI 0) Sr dr pa um im ikp tx ty sn (nI M) at1 pl tk vl fa (aN (pvG W H N bk ik o kk g)) odr gv mk bo zq : va_W)) (show (byG (exM W H N bk ik o kk M sx sy sc) (pvG W H N bk ik o kk) g) = (byG (exM W H N bk ik o kk M sx sy sc) (pvG W H N bk ik o kk) (g + 1)) from by first | (simp only [byG]; rw [if_neg (by rw [hex]; decide)]; done) | (simp only [byG]; rw [if_pos hex, show k = 36 from by omega]))) ?_
                  exact ih_31 (g + 1) (aN (pvG W H N bk ik o kk g)) (by first | assumption | omega | (simp; done)) (by omega)
                ·
                  have hex : exM W H N bk ik o kk M sx sy sc g = true := by unfold exM; rw [c_49, c_56]; rfl
                  refine kw_iinc (v := nI ((cntG (exM W H N bk ik o kk M sx sy sc) g) + 1)) C [(1, .int (nI ((cntG (exM W H N bk ik o kk M sx sy sc) g) + 1))), (2, .int (gs g)), (0, .ref (a 0))] 1 dX7_ask_59 rfl (nI_1 _) (by decide) rfl ?_
                  refine kw_iconst (v := nI 0) C dX7_ask_62 (by decide) ?_
                  refine kw_istore_n C [(3, .int (nI 0)), (1, .int (nI ((cntG (exM W H N bk ik o kk M sx sy sc) g) + 1))), (2, .int (gs g)), (0, .ref (a 0))] dX7_ask_63 rfl (by decide) rfl ?_
                  have L64_11 : ∀ (nn : Nat) (k : Nat) (hk : k ≤ 36) (hms : 36 - k < nn), KW p l e ({ frames := 4, cells := 0, slots := 0, locals := 98 }) s m ([.ref (a 0)] : List Value).toArray below meth c 0 0 (MQ below (va_Qi (fun (r : Int32) (u : (Nat → Int32) × (Nat → Int32)) => r = (if 1 < cntG (exM W H N bk ik o kk M sx sy sc) (9 * N + 1) then (akM (byG (exM W H N bk ik o kk M sx sy sc) (pvG W H N bk ik o kk) (9 * N + 1)) W H 36).1 else (-9))) (fun (u : (Nat → Int32) × (Nat → Int32)) t => PO G A (kMod y a (nI 0) Sr dr pa um im ikp tx ty sn (nI M) at1 pl tk vl fa u.1 odr gv mk bo u.2) t) A) ([.ref (a 0)] : List Value).toArray s 0 0 A) G A 7 (kMod y a (nI 0) Sr dr pa um im ikp tx ty sn (nI M) at1 pl tk vl fa (aN (pvG W H N bk ik o kk g)) odr gv mk bo (byK (pvG W H N bk ik o kk g) k (byG (exM W H N bk ik o kk M sx sy sc) (pvG W H N bk ik o kk) g))) [(3, .int (nI k)), (1, .int (nI ((cntG (exM W H N bk ik o kk M sx sy sc) g) + 1))), (2, .int (gs g)), (0, .ref (a 0))] 64 [] := by
                    intro nn
                    induction nn with
                    | zero => intro k hk hms; exact absurd hms (Nat.not_lt_zero _)
                    | succ nn ih_64 =>
                      intro k hk hms
                      refine kw_iload_n C 0 dX7_ask_64 rfl ?_
                      refine kw_bipush (v := nI 36) C dX7_ask_65 (by decide) ?_
                      refine kw_icmp_ge_N (tgt := 96) C (by omega) (by omega) dX7_ask_67 (by decide) (fun c_67 => ?_) (fun c_67 => ?_)
                      ·
                        refine kw_iinc (v := gs (g + 1)) C [(2, .int (gs (g + 1))), (3, .int (nI k)), (1, .int (nI ((cntG (exM W H N bk ik o kk M sx sy sc) g) + 1))), (0, .ref (a 0))] 2 dX7_ask_96 rfl (by exact gs_inc g) (by decide) rfl ?_
                        refine kw_goto (tgt := 31) C dX7_ask_99 (by decide) ?_
                        refine KW.loc (lv' := [(2, .int (gs (g + 1))), (1, .int (nI ((cntG (exM W H N bk ik o kk M sx sy sc) g) + 1))), (0, .ref (a 0))]) [0, 2, 3] rfl ?_
                        refine KW.asl (congrArg (fun zq => ([(2, .int (gs (g + 1))), (1, .int zq), (0, .ref (a 0))] : List (Nat × Value))) (show (nI ((cntG (exM W H N bk ik o kk M sx sy sc) g) + 1)) = (nI (cntG (exM W H N bk ik o kk M sx sy sc) (g + 1))) from by simp [cntG, hex])) ?_
                        refine KW.asw (congrArg (fun zq => (kMod y a (nI 0) Sr dr pa um im ikp tx ty sn (nI M) at1 pl tk vl fa (aN (pvG W H N bk ik o kk g)) odr gv mk bo zq : va_W)) (show (byK (pvG W H N bk ik o kk g) k (byG (exM W H N bk ik o kk M sx sy sc) (pvG W H N bk ik o kk) g)) = (byG (exM W H N bk ik o kk M sx sy sc) (pvG W H N bk ik o kk) (g + 1)) from by first | (simp only [byG]; rw [if_neg (by rw [hex]; decide)]; done) | (simp only [byG]; rw [if_pos hex, show k = 36 from by omega]))) ?_
                        exact ih_31 (g + 1) (aN (pvG W H N bk ik o kk g)) (by first | assumption | omega | (simp; done)) (by omega)
                      ·
                        refine kw_aload_n C 3 dX7_ask_70 rfl ?_
                        refine kw_get (v := .ref (a 13)) (T := TX7) C 0 21 rfl rfl (by decide) (fun w h => mT (fwX7 w h)) rfl (mT wd_636) rfl dX7_ask_71 ?_
                        refine kw_bipush (v := nI 8) C dX7_ask_74 (by decide) ?_
                        refine kw_iload_n C 0 dX7_ask_76 rfl ?_
                        refine kw_imul C dX7_ask_77 (kw_top (pk_mul _ _) ?_)
                        refine kw_aload_n C 3 dX7_ask_78 rfl ?_
                        refine kw_get (v := .ref (a 8)) (T := TX7) C 0 16 rfl rfl (by decide) (fun w h => mT (fwX7 w h)) rfl (mT wd_631) rfl dX7_ask_79 ?_
                        refine kw_iload_n C 0 dX7_ask_82 rfl ?_
                        refine kw_iald (f := aN (pvG W H N bk ik o kk g)) C 8 rfl (by omega) (by decide) dX7_ask_83 ?_
                        refine kw_top (show ((aN (pvG W H N bk ik o kk g)) k) = (nI ((pvG W H N bk ik o kk g) k)) from by rfl) ?_
                        have hp8 := pvF_lt (bk := bk) (kk := kk) (W := W) (H := H) (ox := oxM g) (sk := skG g) hink hord N (Nat.le_refl N) k
                        have hp9 : pvG W H N bk ik o kk g k < 8 := hp8
                        refine kw_iadd C dX7_ask_84 (kw_top (nI_add _ _) ?_)
                        refine kw_dup2_11 C dX7_ask_85 rfl rfl ?_
                        refine kw_iald (f := byK (pvG W H N bk ik o kk g) k (byG (exM W H N bk ik o kk M sx sy sc) (pvG W H N bk ik o kk) g)) C 13 rfl (by omega) (by decide) dX7_ask_86 ?_
                        refine kw_iconst (v := nI 1) C dX7_ask_87 (by decide) ?_
                        refine kw_iadd C dX7_ask_88 ?_
                        refine kw_iast C 13 (kMod y a (nI 0) Sr dr pa um im ikp tx ty sn (nI M) at1 pl tk vl fa (aN (pvG W H N bk ik o kk g)) odr gv mk bo (upd (byK (pvG W H N bk ik o kk g) k (byG (exM W H N bk ik o kk M sx sy sc) (pvG W H N bk ik o kk) g)) ((8 * k) + ((pvG W H N bk ik o kk g) k)) (((byK (pvG W H N bk ik o kk g) k (byG (exM W H N bk ik o kk M sx sy sc) (pvG W H N bk ik o kk) g)) ((8 * k) + ((pvG W H N bk ik o kk g) k))) + (nI 1)))) rfl (by omega) (by decide) dX7_ask_89 rfl ?_
                        refine kw_iinc (v := nI (k + 1)) C [(3, .int (nI (k + 1))), (1, .int (nI ((cntG (exM W H N bk ik o kk M sx sy sc) g) + 1))), (2, .int (gs g)), (0, .ref (a 0))] 0 dX7_ask_90 rfl (nI_1 _) (by decide) rfl ?_
                        refine kw_goto (tgt := 64) C dX7_ask_93 (by decide) ?_
                        refine KW.loc (lv' := [(3, .int (nI (k + 1))), (1, .int (nI ((cntG (exM W H N bk ik o kk M sx sy sc) g) + 1))), (2, .int (gs g)), (0, .ref (a 0))]) [0, 1, 2, 3] rfl ?_
                        refine KW.asw (congrArg (fun zq => (kMod y a (nI 0) Sr dr pa um im ikp tx ty sn (nI M) at1 pl tk vl fa (aN (pvG W H N bk ik o kk g)) odr gv mk bo zq : va_W)) (show (upd (byK (pvG W H N bk ik o kk g) k (byG (exM W H N bk ik o kk M sx sy sc) (pvG W H N bk ik o kk) g)) ((8 * k) + ((pvG W H N bk ik o kk g) k)) (((byK (pvG W H N bk ik o kk g) k (byG (exM W H N bk ik o kk M sx sy sc) (pvG W H N bk ik o kk) g)) ((8 * k) + ((pvG W H N bk ik o kk g) k))) + (nI 1))) = (byK (pvG W H N bk ik o kk g) (k + 1) (byG (exM W H N bk ik o kk M sx sy sc) (pvG W H N bk ik o kk) g)) from by rfl)) ?_
                        exact ih_64 (k + 1) (by first | assumption | omega | (simp; done)) (by omega)
                  refine KW.loc (lv' := [(3, .int (nI 0)), (1, .int (nI ((cntG (exM W H N bk ik o kk M sx sy sc) g) + 1))), (2, .int (gs g)), (0, .ref (a 0))]) [0, 1, 2, 3] rfl ?_
                  refine KW.asw (congrArg (fun zq => (kMod y a (nI 0) Sr dr pa um im ikp tx ty sn (nI M) at1 pl tk vl fa (aN (pvG W H N bk ik o kk g)) odr gv mk bo zq : va_W)) (show (byG (exM W H N bk ik o kk M sx sy sc) (pvG W H N bk ik o kk) g) = (byK (pvG W H N bk ik o kk g) 0 (byG (exM W H N bk ik o kk M sx sy sc) (pvG W H N bk ik o kk) g)) from by rfl)) ?_
                  exact L64_11 (36 - 0 + 1) 0 (by first | assumption | omega | (simp; done)) (Nat.lt_succ_self _)
        refine KW.loc (lv' := [(2, .int (-1)), (1, .int (nI 0)), (0, .ref (a 0))]) [0, 1, 2] rfl ?_
        refine KW.asl (congrArg (fun zq => ([(2, .int zq), (1, .int (nI 0)), (0, .ref (a 0))] : List (Nat × Value))) (show (-1) = (gs 0) from by rfl)) ?_
        refine KW.asl (congrArg (fun zq => ([(2, .int (gs 0)), (1, .int zq), (0, .ref (a 0))] : List (Nat × Value))) (show (nI 0) = (nI (cntG (exM W H N bk ik o kk M sx sy sc) 0)) from by rfl)) ?_
        refine KW.asw (congrArg (fun zq => (kMod y a (nI 0) Sr dr pa um im ikp tx ty sn (nI M) at1 pl tk vl fa pf odr gv mk bo zq : va_W)) (show (fun _ => nI 0) = (byG (exM W H N bk ik o kk M sx sy sc) (pvG W H N bk ik o kk) 0) from by rfl)) ?_
        exact L31_2 (9 * N + 1 - 0 + 1) 0 pf (by first | assumption | omega | (simp; done)) (Nat.lt_succ_self _)
      ·
        refine kw_aload_n C 1 dX7_ask_14 rfl ?_
        refine kw_get (v := .ref (a 13)) (T := TX7) C 0 21 rfl rfl (by decide) (fun w h => mT (fwX7 w h)) rfl (mT wd_636) rfl dX7_ask_15 ?_
        refine kw_iload_n C 0 dX7_ask_18 rfl ?_
        refine kw_iconst (v := nI 0) C dX7_ask_19 (by decide) ?_
        refine kw_iast C 13 (kMod y a (nI 0) Sr dr pa um im ikp tx ty sn (nI M) at1 pl tk vl fa pf odr gv mk bo (upd f0 i (nI 0))) rfl (by omega) (by decide) dX7_ask_20 rfl ?_
        refine kw_iinc (v := nI (i + 1)) C [(1, .int (nI (i + 1))), (0, .ref (a 0))] 0 dX7_ask_21 rfl (nI_1 _) (by decide) rfl ?_
        refine kw_goto (tgt := 7) C dX7_ask_24 (by decide) ?_
        refine KW.loc (lv' := [(1, .int (nI (i + 1))), (0, .ref (a 0))]) [0, 1] rfl ?_
        exact ih_7 (i + 1) (upd f0 i (nI 0)) (by first | assumption | omega | (simp; done)) (by intro j hj; rcases Nat.lt_or_ge j i with h | h; rw [pk_un (by omega)]; exact hf0 j h; rw [show j = i from by omega]; exact pk_us) (by omega)
  refine KW.loc (lv' := [(1, .int (nI 0)), (0, .ref (a 0))]) [0, 1] rfl ?_
  exact L7_1 (288 - 0 + 1) 0 bq (by first | assumption | omega | (simp; done)) (by intro j hj; exact absurd hj (Nat.not_lt_zero _)) (Nat.lt_succ_self _)
