set_option maxHeartbeats 4000000 in
set_option maxRecDepth 100000 in
theorem c_X7_takes (l : Launch) (G : va_G) (y : Nat → ClassId) (t : Nat) (a : Nat → Nat) (th : Int32) (Sr : Nat → Int32) (dr : Nat → Int32) (pa : Nat → Int32) (um : Int32) (im : Nat → Int32) (ikp : Nat → Int32) (tx : Nat → Int32) (sn : Nat → Int32) (sm : Int32) (fa : Int32) (pf : Nat → Int32) (odr : Nat → Int32) (gv : Nat → Int32) (mk : Nat → Int32) (bo : Nat → Int32) (bq : Nat → Int32) (n : Nat) (lt : Nat → Nat) (j : Nat) (b : Bool) (hn : n ≤ 100) (htx : ∀ i, i < n → tx i = nI (lt i) ∧ lt i < 256) (hjb : fa = -9 → b = true → j < n) (sz : Nat) : Met l yX7_takes (Cond.code yX7_takes cX7_takes 3 (some .int) :: TG) ({ frames := 2, cells := 0, slots := 0, locals := 42 }) (va_Pc [.ref (a 0), .int (bI b)] (PR G y t (kMod y a th Sr dr pa um im ikp tx (nI n) sn sm (nI (atT n j)) (nI j) (nI (tokN lt n j)) (valI lt n j) fa pf odr gv mk bo bq) sz)) (va_Qi (fun (r : Int32) (u : Unit) => r = (valI lt n j)) (fun (u : Unit) t => PO G (va_A (kMod y a th Sr dr pa um im ikp tx (nI n) sn sm (nI (atT n j)) (nI j) (nI (tokN lt n j)) (valI lt n j) fa pf odr gv mk bo bq) sz) (kMod y a th Sr dr pa um im ikp tx (nI n) sn sm (nI (atT n (tkJ lt n fa b j))) (nI (tkJ lt n fa b j)) (nI (tokN lt n (tkJ lt n fa b j))) (valI lt n (tkJ lt n fa b j)) (tkA fa b j) pf odr gv mk bo bq) t) (va_A (kMod y a th Sr dr pa um im ikp tx (nI n) sn sm (nI (atT n j)) (nI j) (nI (tokN lt n j)) (valI lt n j) fa pf odr gv mk bo bq) sz)) 0 0 (va_A (kMod y a th Sr dr pa um im ikp tx (nI n) sn sm (nI (atT n j)) (nI j) (nI (tokN lt n j)) (valI lt n j) fa pf odr gv mk bo bq) sz) := by
  refine kMet (cc := cX7_takes) (maxL := 3) (ret := some .int) (Qc := fun A => va_Qi (fun (r : Int32) (u : Unit) => r = (valI lt n j)) (fun (u : Unit) t => PO G A (kMod y a th Sr dr pa um im ikp tx (nI n) sn sm (nI (atT n (tkJ lt n fa b j))) (nI (tkJ lt n fa b j)) (nI (tokN lt n (tkJ lt n fa b j))) (valI lt n (tkJ lt n fa b j)) (tkA fa b j) pf odr gv mk bo bq) t) A) (by decide) rfl (Nat.le_of_ble_eq_true rfl) (fun p e s m below meth c A hsz C hin => ?_)
  refine KW.loc (lv' := [(0, .ref (a 0)), (1, .int (bI b))]) [0, 1] rfl ?_
  refine kw_aload_n C 0 dX7_takes_0 rfl ?_
  refine kw_get (v := .int (valI lt n j)) (T := TX7) C 0 14 rfl rfl (by decide) (fun w h => mT (fwX7 w h)) rfl (mT wd_629) rfl dX7_takes_1 ?_
  refine kw_istore_n C [(2, .int (valI lt n j)), (0, .ref (a 0)), (1, .int (bI b))] dX7_takes_4 rfl (by decide) rfl ?_
  refine kw_aload_n C 1 dX7_takes_5 rfl ?_
  refine kV_i (As := []) (rest := []) (ws' := fun (u : Unit) => kMod y a th Sr dr pa um im ikp tx (nI n) sn sm (nI (atT n j)) (nI j) (nI (tokN lt n j)) (valI lt n j) fa pf odr gv mk bo bq) C (c_X7_isWell l G y t a th Sr dr pa um im ikp tx (nI n) sn sm (nI (atT n j)) (nI j) (nI (tokN lt n j)) (valI lt n j) fa pf odr gv mk bo bq) (cwV 0 C.2.2.2.2.1 (goodV cT wd_712 wd_709 wd_711 wd_16 wd_48) rfl rfl rfl (by decide +kernel) ⟨by decide, by decide⟩) [0, 1, 2, 3, 4, 5, 6, 7, 8, 9, 10, 11, 12, 13] [] [0, 1, 2, 3, 4, 5, 6, 7, 8, 9, 10, 11, 12, 13] rfl (by decide) rfl (by decide) (by decide) (fun _ => rfl) (by decide) 0 rfl rfl rfl (Nat.le_of_ble_eq_true rfl) ⟨by decide, by decide⟩ dX7_takes_6 (fun r u hr_1 => ?_)
  subst hr_1
  refine kw_if_eq_D (tgt := 31) C dX7_takes_9 (by decide) (fun c_9 => ?_) (fun c_9 => ?_)
  ·
    refine kw_iload_n C 0 dX7_takes_31 rfl ?_
    rw [show (tkJ lt n fa b j) = j from by unfold tkJ; rw [if_neg (fun h => c_9 h.1)]]
    rw [show (tkA fa b j) = fa from by unfold tkA; rw [if_neg c_9]]
    refine kR_i C () dX7_takes_32 ?_ rfl
    first | rfl | trivial | (simp; done) | omega
  ·
    refine kw_iload_n C 2 dX7_takes_12 rfl ?_
    refine kw_if_eq_B (tgt := 23) C dX7_takes_13 (by decide) (fun c_13 => ?_) (fun c_13 => ?_)
    ·
      refine kw_aload_n C 1 dX7_takes_23 rfl ?_
      refine kw_aload_n C 1 dX7_takes_24 rfl ?_
      refine kw_get (v := .int (nI j)) (T := TX7) C 0 12 rfl rfl (by decide) (fun w h => mT (fwX7 w h)) rfl (mT wd_627) rfl dX7_takes_25 ?_
      refine kw_put (T := TX7) (ty := .int) C 0 15 (kMod y a th Sr dr pa um im ikp tx (nI n) sn sm (nI (atT n j)) (nI j) (nI (tokN lt n j)) (valI lt n j) (nI j) pf odr gv mk bo bq) rfl rfl (by decide) (fun w h => mT (fwX7 w h)) tyX7 tyX7_ok nmX7 rfl (mT wd_630) rfl (by decide +kernel) rfl rfl (Nat.le_of_ble_eq_true rfl) dX7_takes_28 rfl ?_
      refine kw_iload_n C 0 dX7_takes_31 rfl ?_
      rw [show (tkJ lt n fa b j) = j from by unfold tkJ; rw [if_neg (fun h => by rw [c_13] at h; exact absurd h.2 (by decide))]]
      rw [show (tkA fa b j) = (nI j) from by unfold tkA; rw [if_pos c_9, if_neg (by rw [c_13]; decide)]]
      refine kR_i C () dX7_takes_32 ?_ rfl
      first | rfl | trivial | (simp; done) | omega
    ·
      refine kw_aload_n C 1 dX7_takes_16 rfl ?_
      refine kV_v (As := []) (rest := []) (ws' := fun (u : Unit) => kMod y a th Sr dr pa um im ikp tx (nI n) sn sm (nI (atT n (nx lt n (atT n j)))) (nI (nx lt n (atT n j))) (nI (tokN lt n (nx lt n (atT n j)))) (valI lt n (nx lt n (atT n j))) fa pf odr gv mk bo bq) C (c_X7_advances l G y t a th Sr dr pa um im ikp tx sn sm (nI j) (nI (tokN lt n j)) (valI lt n j) fa pf odr gv mk bo bq n lt (atT n j) (by first | assumption | omega | decide) (by first | assumption | omega | decide) (by have := hjb c_9 c_13; unfold atT; rw [if_pos this]; omega)) (cwV 0 C.2.2.2.2.1 (goodV cT wd_704 wd_701 wd_703 wd_14 wd_48) rfl rfl rfl (by decide +kernel) ⟨by decide, by decide⟩) [0, 1, 2, 3, 4, 5, 6, 7, 8, 9, 10, 11, 12, 13] [] [0, 1, 2, 3, 4, 5, 6, 7, 8, 9, 10, 11, 12, 13] rfl (by decide) rfl (by decide) (by decide) (fun _ => rfl) (by decide) 0 rfl rfl rfl (Nat.le_of_ble_eq_true rfl) ⟨by decide, by decide⟩ dX7_takes_17 (fun u hr_2 => ?_)
      refine kw_goto (tgt := 31) C dX7_takes_20 (by decide) ?_
      refine kw_iload_n C 0 dX7_takes_31 rfl ?_
      rw [show (tkJ lt n fa b j) = (nx lt n (atT n j)) from by unfold tkJ atT; rw [if_pos (And.intro c_9 c_13), if_pos (hjb c_9 c_13)]]
      rw [show (tkA fa b j) = fa from by unfold tkA; rw [if_pos c_9, if_pos c_13, c_9]]
      refine kR_i C () dX7_takes_32 ?_ rfl
      first | rfl | trivial | (simp; done) | omega

set_option maxHeartbeats 4000000 in
set_option maxRecDepth 100000 in
theorem c_X7_readsInk (l : Launch) (G : va_G) (y : Nat → ClassId) (t : Nat) (a : Nat → Nat) (th : Int32) (Sr : Nat → Int32) (pa : Nat → Int32) (um : Int32) (im : Nat → Int32) (ikp : Nat → Int32) (tx : Nat → Int32) (sn : Nat → Int32) (sm : Int32) (pf : Nat → Int32) (odr : Nat → Int32) (gv : Nat → Int32) (mk : Nat → Int32) (bo : Nat → Int32) (bq : Nat → Int32) (n : Nat) (lt : Nat → Nat) (j : Nat) (b : Bool) (W : Nat) (H : Nat) (N : Nat) (ikf : Nat → Nat) (pcf : Nat → Nat) (hn : n ≤ 100) (htx : ∀ i, i < n → tx i = nI (lt i) ∧ lt i < 256) (hj : j < n) (hN : N ≤ 6) (sz : Nat) : Met l yX7_readsInk (Cond.code yX7_readsInk cX7_readsInk 3 (none) :: TG) ({ frames := 3, cells := 0, slots := 0, locals := 64 }) (va_Pc [.ref (a 0), .int (bI b)] (PR G y t (kMod y a th Sr (drF W H N ikf pcf) pa um im ikp tx (nI n) sn sm (nI (atT n j)) (nI j) (nI (tokN lt n j)) (valI lt n j) (-9) pf odr gv mk bo bq) sz)) (va_Qv (fun (u : Unit) => True) (fun (u : Unit) t => PO G (va_A (kMod y a th Sr (drF W H N ikf pcf) pa um im ikp tx (nI n) sn sm (nI (atT n j)) (nI j) (nI (tokN lt n j)) (valI lt n j) (-9) pf odr gv mk bo bq) sz) (kMod y a th Sr (inkD (tkA (tkA (-9) (decide (N < 6)) j) (figG 1 lt n (tkJ lt n (-9) (decide (N < 6)) j)) (tkJ lt n (-9) (decide (N < 6)) j)) W H N (dnV b (lt (tkJ lt n (-9) (decide (N < 6)) j) - 48)) ikf pcf) pa um im ikp tx (nI n) sn sm (nI (atT n (tkJ lt n (tkA (-9) (decide (N < 6)) j) (figG 1 lt n (tkJ lt n (-9) (decide (N < 6)) j)) (tkJ lt n (-9) (decide (N < 6)) j)))) (nI (tkJ lt n (tkA (-9) (decide (N < 6)) j) (figG 1 lt n (tkJ lt n (-9) (decide (N < 6)) j)) (tkJ lt n (-9) (decide (N < 6)) j))) (nI (tokN lt n (tkJ lt n (tkA (-9) (decide (N < 6)) j) (figG 1 lt n (tkJ lt n (-9) (decide (N < 6)) j)) (tkJ lt n (-9) (decide (N < 6)) j)))) (valI lt n (tkJ lt n (tkA (-9) (decide (N < 6)) j) (figG 1 lt n (tkJ lt n (-9) (decide (N < 6)) j)) (tkJ lt n (-9) (decide (N < 6)) j))) (tkA (tkA (-9) (decide (N < 6)) j) (figG 1 lt n (tkJ lt n (-9) (decide (N < 6)) j)) (tkJ lt n (-9) (decide (N < 6)) j)) pf odr gv mk bo bq) t) (va_A (kMod y a th Sr (drF W H N ikf pcf) pa um im ikp tx (nI n) sn sm (nI (atT n j)) (nI j) (nI (tokN lt n j)) (valI lt n j) (-9) pf odr gv mk bo bq) sz)) 0 0 (va_A (kMod y a th Sr (drF W H N ikf pcf) pa um im ikp tx (nI n) sn sm (nI (atT n j)) (nI j) (nI (tokN lt n j)) (valI lt n j) (-9) pf odr gv mk bo bq) sz) := by
  refine kMet (cc := cX7_readsInk) (maxL := 3) (ret := none) (Qc := fun A => va_Qv (fun (u : Unit) => True) (fun (u : Unit) t => PO G A (kMod y a th Sr (inkD (tkA (tkA (-9) (decide (N < 6)) j) (figG 1 lt n (tkJ lt n (-9) (decide (N < 6)) j)) (tkJ lt n (-9) (decide (N < 6)) j)) W H N (dnV b (lt (tkJ lt n (-9) (decide (N < 6)) j) - 48)) ikf pcf) pa um im ikp tx (nI n) sn sm (nI (atT n (tkJ lt n (tkA (-9) (decide (N < 6)) j) (figG 1 lt n (tkJ lt n (-9) (decide (N < 6)) j)) (tkJ lt n (-9) (decide (N < 6)) j)))) (nI (tkJ lt n (tkA (-9) (decide (N < 6)) j) (figG 1 lt n (tkJ lt n (-9) (decide (N < 6)) j)) (tkJ lt n (-9) (decide (N < 6)) j))) (nI (tokN lt n (tkJ lt n (tkA (-9) (decide (N < 6)) j) (figG 1 lt n (tkJ lt n (-9) (decide (N < 6)) j)) (tkJ lt n (-9) (decide (N < 6)) j)))) (valI lt n (tkJ lt n (tkA (-9) (decide (N < 6)) j) (figG 1 lt n (tkJ lt n (-9) (decide (N < 6)) j)) (tkJ lt n (-9) (decide (N < 6)) j))) (tkA (tkA (-9) (decide (N < 6)) j) (figG 1 lt n (tkJ lt n (-9) (decide (N < 6)) j)) (tkJ lt n (-9) (decide (N < 6)) j)) pf odr gv mk bo bq) t) A) (by decide) rfl (Nat.le_of_ble_eq_true rfl) (fun p e s m below meth c A hsz C hin => ?_)
  have hlt : ∀ i, i < n → lt i < 256 := fun i h => (htx i h).2
  have hj2 : tkJ lt n (-9) (decide (N < 6)) j ≤ n := tkJ_le (by omega) (fun _ _ => hj)
  refine KW.loc (lv' := [(0, .ref (a 0)), (1, .int (bI b))]) [0, 1] rfl ?_
  refine kw_aload_n C 0 dX7_readsInk_0 rfl ?_
  refine kw_aload_n C 0 dX7_readsInk_1 rfl ?_
  refine kw_get (v := .ref (a 2)) (T := TX7) C 0 2 rfl rfl (by decide) (fun w h => mT (fwX7 w h)) rfl (mT wd_617) rfl dX7_readsInk_2 ?_
  refine kw_iconst (v := nI 2) C dX7_readsInk_5 (by decide) ?_
  refine kw_iald (f := drF W H N ikf pcf) C 2 rfl (by omega) (by decide) dX7_readsInk_6 ?_
  refine kw_top (show ((drF W H N ikf pcf) 2) = (nI N) from by rfl) ?_
  refine kw_bipush (v := nI 6) C dX7_readsInk_7 (by decide) ?_
  have J17_1 : ∀ (_ : Unit), KW p l e ({ frames := 3, cells := 0, slots := 0, locals := 64 }) s m ([.ref (a 0), .int (bI b)] : List Value).toArray below meth c 0 0 (MQ below (va_Qv (fun (u : Unit) => True) (fun (u : Unit) t => PO G A (kMod y a th Sr (inkD (tkA (tkA (-9) (decide (N < 6)) j) (figG 1 lt n (tkJ lt n (-9) (decide (N < 6)) j)) (tkJ lt n (-9) (decide (N < 6)) j)) W H N (dnV b (lt (tkJ lt n (-9) (decide (N < 6)) j) - 48)) ikf pcf) pa um im ikp tx (nI n) sn sm (nI (atT n (tkJ lt n (tkA (-9) (decide (N < 6)) j) (figG 1 lt n (tkJ lt n (-9) (decide (N < 6)) j)) (tkJ lt n (-9) (decide (N < 6)) j)))) (nI (tkJ lt n (tkA (-9) (decide (N < 6)) j) (figG 1 lt n (tkJ lt n (-9) (decide (N < 6)) j)) (tkJ lt n (-9) (decide (N < 6)) j))) (nI (tokN lt n (tkJ lt n (tkA (-9) (decide (N < 6)) j) (figG 1 lt n (tkJ lt n (-9) (decide (N < 6)) j)) (tkJ lt n (-9) (decide (N < 6)) j)))) (valI lt n (tkJ lt n (tkA (-9) (decide (N < 6)) j) (figG 1 lt n (tkJ lt n (-9) (decide (N < 6)) j)) (tkJ lt n (-9) (decide (N < 6)) j))) (tkA (tkA (-9) (decide (N < 6)) j) (figG 1 lt n (tkJ lt n (-9) (decide (N < 6)) j)) (tkJ lt n (-9) (decide (N < 6)) j)) pf odr gv mk bo bq) t) A) ([.ref (a 0), .int (bI b)] : List Value).toArray s 0 0 A) G A 3 (kMod y a th Sr (drF W H N ikf pcf) pa um im ikp tx (nI n) sn sm (nI (atT n j)) (nI j) (nI (tokN lt n j)) (valI lt n j) (-9) pf odr gv mk bo bq) [(0, .ref (a 0)), (1, .int (bI b))] 17 [.int (bI (decide (N < 6))), .ref (a 0)] := by
    intro _
    refine kV_i (As := [.int (bI (decide (N < 6)))]) (rest := []) (ws' := fun (u : Unit) => kMod y a th Sr (drF W H N ikf pcf) pa um im ikp tx (nI n) sn sm (nI (atT n (tkJ lt n (-9) (decide (N < 6)) j))) (nI (tkJ lt n (-9) (decide (N < 6)) j)) (nI (tokN lt n (tkJ lt n (-9) (decide (N < 6)) j))) (valI lt n (tkJ lt n (-9) (decide (N < 6)) j)) (tkA (-9) (decide (N < 6)) j) pf odr gv mk bo bq) C (c_X7_takes l G y t a th Sr (drF W H N ikf pcf) pa um im ikp tx sn sm (-9) pf odr gv mk bo bq n lt j (decide (N < 6)) (by first | assumption | omega | decide) (by first | assumption | omega | decide) (by intro _ _; exact hj)) (cwV 1 C.2.2.2.2.1 (goodV cT wd_720 wd_717 wd_719 wd_18 wd_48) rfl rfl rfl (by decide +kernel) ⟨by decide, by decide⟩) [0, 1, 2, 3, 4, 5, 6, 7, 8, 9, 10, 11, 12, 13] [] [0, 1, 2, 3, 4, 5, 6, 7, 8, 9, 10, 11, 12, 13] rfl (by decide) rfl (by decide) (by decide) (fun _ => rfl) (by decide) 0 rfl rfl rfl (Nat.le_of_ble_eq_true rfl) ⟨by decide, by decide⟩ dX7_readsInk_17 (fun r u hr_2 => ?_)
    subst hr_2
    refine kw_pop C dX7_readsInk_20 rfl ?_
    refine kw_aload_n C 0 dX7_readsInk_21 rfl ?_
    refine kw_aload_n C 0 dX7_readsInk_22 rfl ?_
    refine kw_get (v := .int (nI (tokN lt n (tkJ lt n (-9) (decide (N < 6)) j)))) (T := TX7) C 0 13 rfl rfl (by decide) (fun w h => mT (fwX7 w h)) rfl (mT wd_628) rfl dX7_readsInk_23 ?_
    refine kw_iconst (v := nI 2) C dX7_readsInk_26 (by decide) ?_
    have J48_3 : ∀ (_ : Unit), KW p l e ({ frames := 3, cells := 0, slots := 0, locals := 64 }) s m ([.ref (a 0), .int (bI b)] : List Value).toArray below meth c 0 0 (MQ below (va_Qv (fun (u : Unit) => True) (fun (u : Unit) t => PO G A (kMod y a th Sr (inkD (tkA (tkA (-9) (decide (N < 6)) j) (figG 1 lt n (tkJ lt n (-9) (decide (N < 6)) j)) (tkJ lt n (-9) (decide (N < 6)) j)) W H N (dnV b (lt (tkJ lt n (-9) (decide (N < 6)) j) - 48)) ikf pcf) pa um im ikp tx (nI n) sn sm (nI (atT n (tkJ lt n (tkA (-9) (decide (N < 6)) j) (figG 1 lt n (tkJ lt n (-9) (decide (N < 6)) j)) (tkJ lt n (-9) (decide (N < 6)) j)))) (nI (tkJ lt n (tkA (-9) (decide (N < 6)) j) (figG 1 lt n (tkJ lt n (-9) (decide (N < 6)) j)) (tkJ lt n (-9) (decide (N < 6)) j))) (nI (tokN lt n (tkJ lt n (tkA (-9) (decide (N < 6)) j) (figG 1 lt n (tkJ lt n (-9) (decide (N < 6)) j)) (tkJ lt n (-9) (decide (N < 6)) j)))) (valI lt n (tkJ lt n (tkA (-9) (decide (N < 6)) j) (figG 1 lt n (tkJ lt n (-9) (decide (N < 6)) j)) (tkJ lt n (-9) (decide (N < 6)) j))) (tkA (tkA (-9) (decide (N < 6)) j) (figG 1 lt n (tkJ lt n (-9) (decide (N < 6)) j)) (tkJ lt n (-9) (decide (N < 6)) j)) pf odr gv mk bo bq) t) A) ([.ref (a 0), .int (bI b)] : List Value).toArray s 0 0 A) G A 3 (kMod y a th Sr (drF W H N ikf pcf) pa um im ikp tx (nI n) sn sm (nI (atT n (tkJ lt n (-9) (decide (N < 6)) j))) (nI (tkJ lt n (-9) (decide (N < 6)) j)) (nI (tokN lt n (tkJ lt n (-9) (decide (N < 6)) j))) (valI lt n (tkJ lt n (-9) (decide (N < 6)) j)) (tkA (-9) (decide (N < 6)) j) pf odr gv mk bo bq) [(0, .ref (a 0)), (1, .int (bI b))] 48 [.int (bI (figG 1 lt n (tkJ lt n (-9) (decide (N < 6)) j))), .ref (a 0)] := by
      intro _
      refine kV_i (As := [.int (bI (figG 1 lt n (tkJ lt n (-9) (decide (N < 6)) j)))]) (rest := []) (ws' := fun (u : Unit) => kMod y a th Sr (drF W H N ikf pcf) pa um im ikp tx (nI n) sn sm (nI (atT n (tkJ lt n (tkA (-9) (decide (N < 6)) j) (figG 1 lt n (tkJ lt n (-9) (decide (N < 6)) j)) (tkJ lt n (-9) (decide (N < 6)) j)))) (nI (tkJ lt n (tkA (-9) (decide (N < 6)) j) (figG 1 lt n (tkJ lt n (-9) (decide (N < 6)) j)) (tkJ lt n (-9) (decide (N < 6)) j))) (nI (tokN lt n (tkJ lt n (tkA (-9) (decide (N < 6)) j) (figG 1 lt n (tkJ lt n (-9) (decide (N < 6)) j)) (tkJ lt n (-9) (decide (N < 6)) j)))) (valI lt n (tkJ lt n (tkA (-9) (decide (N < 6)) j) (figG 1 lt n (tkJ lt n (-9) (decide (N < 6)) j)) (tkJ lt n (-9) (decide (N < 6)) j))) (tkA (tkA (-9) (decide (N < 6)) j) (figG 1 lt n (tkJ lt n (-9) (decide (N < 6)) j)) (tkJ lt n (-9) (decide (N < 6)) j)) pf odr gv mk bo bq) C (c_X7_takes l G y t a th Sr (drF W H N ikf pcf) pa um im ikp tx sn sm (tkA (-9) (decide (N < 6)) j) pf odr gv mk bo bq n lt (tkJ lt n (-9) (decide (N < 6)) j) (figG 1 lt n (tkJ lt n (-9) (decide (N < 6)) j)) (by first | assumption | omega | decide) (by first | assumption | omega | decide) (by intro _ h; exact (figG_t h).1)) (cwV 1 C.2.2.2.2.1 (goodV cT wd_720 wd_717 wd_719 wd_18 wd_48) rfl rfl rfl (by decide +kernel) ⟨by decide, by decide⟩) [0, 1, 2, 3, 4, 5, 6, 7, 8, 9, 10, 11, 12, 13] [] [0, 1, 2, 3, 4, 5, 6, 7, 8, 9, 10, 11, 12, 13] rfl (by decide) rfl (by decide) (by decide) (fun _ => rfl) (by decide) 0 rfl rfl rfl (Nat.le_of_ble_eq_true rfl) ⟨by decide, by decide⟩ dX7_readsInk_48 (fun r u hr_4 => ?_)
      subst hr_4
      refine kw_istore_n C [(2, .int (valI lt n (tkJ lt n (-9) (decide (N < 6)) j))), (0, .ref (a 0)), (1, .int (bI b))] dX7_readsInk_51 rfl (by decide) rfl ?_
      refine kw_aload_n C 1 dX7_readsInk_52 rfl ?_
      refine kV_i (As := []) (rest := []) (ws' := fun (u : Unit) => kMod y a th Sr (drF W H N ikf pcf) pa um im ikp tx (nI n) sn sm (nI (atT n (tkJ lt n (tkA (-9) (decide (N < 6)) j) (figG 1 lt n (tkJ lt n (-9) (decide (N < 6)) j)) (tkJ lt n (-9) (decide (N < 6)) j)))) (nI (tkJ lt n (tkA (-9) (decide (N < 6)) j) (figG 1 lt n (tkJ lt n (-9) (decide (N < 6)) j)) (tkJ lt n (-9) (decide (N < 6)) j))) (nI (tokN lt n (tkJ lt n (tkA (-9) (decide (N < 6)) j) (figG 1 lt n (tkJ lt n (-9) (decide (N < 6)) j)) (tkJ lt n (-9) (decide (N < 6)) j)))) (valI lt n (tkJ lt n (tkA (-9) (decide (N < 6)) j) (figG 1 lt n (tkJ lt n (-9) (decide (N < 6)) j)) (tkJ lt n (-9) (decide (N < 6)) j))) (tkA (tkA (-9) (decide (N < 6)) j) (figG 1 lt n (tkJ lt n (-9) (decide (N < 6)) j)) (tkJ lt n (-9) (decide (N < 6)) j)) pf odr gv mk bo bq) C (c_X7_isWell l G y t a th Sr (drF W H N ikf pcf) pa um im ikp tx (nI n) sn sm (nI (atT n (tkJ lt n (tkA (-9) (decide (N < 6)) j) (figG 1 lt n (tkJ lt n (-9) (decide (N < 6)) j)) (tkJ lt n (-9) (decide (N < 6)) j)))) (nI (tkJ lt n (tkA (-9) (decide (N < 6)) j) (figG 1 lt n (tkJ lt n (-9) (decide (N < 6)) j)) (tkJ lt n (-9) (decide (N < 6)) j))) (nI (tokN lt n (tkJ lt n (tkA (-9) (decide (N < 6)) j) (figG 1 lt n (tkJ lt n (-9) (decide (N < 6)) j)) (tkJ lt n (-9) (decide (N < 6)) j)))) (valI lt n (tkJ lt n (tkA (-9) (decide (N < 6)) j) (figG 1 lt n (tkJ lt n (-9) (decide (N < 6)) j)) (tkJ lt n (-9) (decide (N < 6)) j))) (tkA (tkA (-9) (decide (N < 6)) j) (figG 1 lt n (tkJ lt n (-9) (decide (N < 6)) j)) (tkJ lt n (-9) (decide (N < 6)) j)) pf odr gv mk bo bq) (cwV 0 C.2.2.2.2.1 (goodV cT wd_712 wd_709 wd_711 wd_16 wd_48) rfl rfl rfl (by decide +kernel) ⟨by decide, by decide⟩) [0, 1, 2, 3, 4, 5, 6, 7, 8, 9, 10, 11, 12, 13] [] [0, 1, 2, 3, 4, 5, 6, 7, 8, 9, 10, 11, 12, 13] rfl (by decide) rfl (by decide) (by decide) (fun _ => rfl) (by decide) 0 rfl rfl rfl (Nat.le_of_ble_eq_true rfl) ⟨by decide, by decide⟩ dX7_readsInk_53 (fun r u hr_5 => ?_)
      subst hr_5
      refine kw_if_eq_D (tgt := 95) C dX7_readsInk_56 (by decide) (fun c_56 => ?_) (fun c_56 => ?_)
      ·
        rw [show (inkD (tkA (tkA (-9) (decide (N < 6)) j) (figG 1 lt n (tkJ lt n (-9) (decide (N < 6)) j)) (tkJ lt n (-9) (decide (N < 6)) j)) W H N (dnV b (lt (tkJ lt n (-9) (decide (N < 6)) j) - 48)) ikf pcf) = (drF W H N ikf pcf) from by unfold inkD; first | rw [if_pos c_56] | rw [if_neg c_56]]
        refine kR_v C () dX7_readsInk_95 ?_ rfl
        first | rfl | trivial | (simp; done) | omega
      ·
        have h3 := tkA_w (Nat.le_trans hj2 hn) c_56
        have hN6 : N < 6 := of_decide_eq_true (tkA_w (by omega) h3.1).2
        have hv2 := fig_v h3.2
        refine kw_aload_n C 1 dX7_readsInk_59 rfl ?_
        refine kw_get (v := .ref (a 2)) (T := TX7) C 0 2 rfl rfl (by decide) (fun w h => mT (fwX7 w h)) rfl (mT wd_617) rfl dX7_readsInk_60 ?_
        refine kw_bipush (v := nI 39) C dX7_readsInk_63 (by decide) ?_
        refine kw_aload_n C 1 dX7_readsInk_65 rfl ?_
        refine kw_get (v := .ref (a 2)) (T := TX7) C 0 2 rfl rfl (by decide) (fun w h => mT (fwX7 w h)) rfl (mT wd_617) rfl dX7_readsInk_66 ?_
        refine kw_iconst (v := nI 2) C dX7_readsInk_69 (by decide) ?_
        refine kw_iald (f := drF W H N ikf pcf) C 2 rfl (by omega) (by decide) dX7_readsInk_70 ?_
        refine kw_top (show ((drF W H N ikf pcf) 2) = (nI N) from by rfl) ?_
        refine kw_iadd C dX7_readsInk_71 (kw_top (nI_add _ _) ?_)
        refine kw_iload_n C 2 dX7_readsInk_72 rfl ?_
        have J84_6 : ∀ (_ : Unit), KW p l e ({ frames := 3, cells := 0, slots := 0, locals := 64 }) s m ([.ref (a 0), .int (bI b)] : List Value).toArray below meth c 0 0 (MQ below (va_Qv (fun (u : Unit) => True) (fun (u : Unit) t => PO G A (kMod y a th Sr (inkD (tkA (tkA (-9) (decide (N < 6)) j) (figG 1 lt n (tkJ lt n (-9) (decide (N < 6)) j)) (tkJ lt n (-9) (decide (N < 6)) j)) W H N (dnV b (lt (tkJ lt n (-9) (decide (N < 6)) j) - 48)) ikf pcf) pa um im ikp tx (nI n) sn sm (nI (atT n (tkJ lt n (tkA (-9) (decide (N < 6)) j) (figG 1 lt n (tkJ lt n (-9) (decide (N < 6)) j)) (tkJ lt n (-9) (decide (N < 6)) j)))) (nI (tkJ lt n (tkA (-9) (decide (N < 6)) j) (figG 1 lt n (tkJ lt n (-9) (decide (N < 6)) j)) (tkJ lt n (-9) (decide (N < 6)) j))) (nI (tokN lt n (tkJ lt n (tkA (-9) (decide (N < 6)) j) (figG 1 lt n (tkJ lt n (-9) (decide (N < 6)) j)) (tkJ lt n (-9) (decide (N < 6)) j)))) (valI lt n (tkJ lt n (tkA (-9) (decide (N < 6)) j) (figG 1 lt n (tkJ lt n (-9) (decide (N < 6)) j)) (tkJ lt n (-9) (decide (N < 6)) j))) (tkA (tkA (-9) (decide (N < 6)) j) (figG 1 lt n (tkJ lt n (-9) (decide (N < 6)) j)) (tkJ lt n (-9) (decide (N < 6)) j)) pf odr gv mk bo bq) t) A) ([.ref (a 0), .int (bI b)] : List Value).toArray s 0 0 A) G A 3 (kMod y a th Sr (drF W H N ikf pcf) pa um im ikp tx (nI n) sn sm (nI (atT n (tkJ lt n (tkA (-9) (decide (N < 6)) j) (figG 1 lt n (tkJ lt n (-9) (decide (N < 6)) j)) (tkJ lt n (-9) (decide (N < 6)) j)))) (nI (tkJ lt n (tkA (-9) (decide (N < 6)) j) (figG 1 lt n (tkJ lt n (-9) (decide (N < 6)) j)) (tkJ lt n (-9) (decide (N < 6)) j))) (nI (tokN lt n (tkJ lt n (tkA (-9) (decide (N < 6)) j) (figG 1 lt n (tkJ lt n (-9) (decide (N < 6)) j)) (tkJ lt n (-9) (decide (N < 6)) j)))) (valI lt n (tkJ lt n (tkA (-9) (decide (N < 6)) j) (figG 1 lt n (tkJ lt n (-9) (decide (N < 6)) j)) (tkJ lt n (-9) (decide (N < 6)) j))) (tkA (tkA (-9) (decide (N < 6)) j) (figG 1 lt n (tkJ lt n (-9) (decide (N < 6)) j)) (tkJ lt n (-9) (decide (N < 6)) j)) pf odr gv mk bo bq) [(2, .int (valI lt n (tkJ lt n (-9) (decide (N < 6)) j))), (0, .ref (a 0)), (1, .int (bI b))] 84 [.int (nI (dnV b (lt (tkJ lt n (-9) (decide (N < 6)) j) - 48))), .int (nI (39 + N)), .ref (a 2)] := by
          intro _
          refine kw_iast C 2 (kMod y a th Sr (upd (drF W H N ikf pcf) (39 + N) (nI (dnV b (lt (tkJ lt n (-9) (decide (N < 6)) j) - 48)))) pa um im ikp tx (nI n) sn sm (nI (atT n (tkJ lt n (tkA (-9) (decide (N < 6)) j) (figG 1 lt n (tkJ lt n (-9) (decide (N < 6)) j)) (tkJ lt n (-9) (decide (N < 6)) j)))) (nI (tkJ lt n (tkA (-9) (decide (N < 6)) j) (figG 1 lt n (tkJ lt n (-9) (decide (N < 6)) j)) (tkJ lt n (-9) (decide (N < 6)) j))) (nI (tokN lt n (tkJ lt n (tkA (-9) (decide (N < 6)) j) (figG 1 lt n (tkJ lt n (-9) (decide (N < 6)) j)) (tkJ lt n (-9) (decide (N < 6)) j)))) (valI lt n (tkJ lt n (tkA (-9) (decide (N < 6)) j) (figG 1 lt n (tkJ lt n (-9) (decide (N < 6)) j)) (tkJ lt n (-9) (decide (N < 6)) j))) (tkA (tkA (-9) (decide (N < 6)) j) (figG 1 lt n (tkJ lt n (-9) (decide (N < 6)) j)) (tkJ lt n (-9) (decide (N < 6)) j)) pf odr gv mk bo bq) rfl (by omega) (by decide) dX7_readsInk_84 rfl ?_
          refine kw_exti (drF W H N (va_up ikf N (dnV b (lt (tkJ lt n (-9) (decide (N < 6)) j) - 48))) pcf) 2 (kMod y a th Sr (drF W H N (va_up ikf N (dnV b (lt (tkJ lt n (-9) (decide (N < 6)) j) - 48))) pcf) pa um im ikp tx (nI n) sn sm (nI (atT n (tkJ lt n (tkA (-9) (decide (N < 6)) j) (figG 1 lt n (tkJ lt n (-9) (decide (N < 6)) j)) (tkJ lt n (-9) (decide (N < 6)) j)))) (nI (tkJ lt n (tkA (-9) (decide (N < 6)) j) (figG 1 lt n (tkJ lt n (-9) (decide (N < 6)) j)) (tkJ lt n (-9) (decide (N < 6)) j))) (nI (tokN lt n (tkJ lt n (tkA (-9) (decide (N < 6)) j) (figG 1 lt n (tkJ lt n (-9) (decide (N < 6)) j)) (tkJ lt n (-9) (decide (N < 6)) j)))) (valI lt n (tkJ lt n (tkA (-9) (decide (N < 6)) j) (figG 1 lt n (tkJ lt n (-9) (decide (N < 6)) j)) (tkJ lt n (-9) (decide (N < 6)) j))) (tkA (tkA (-9) (decide (N < 6)) j) (figG 1 lt n (tkJ lt n (-9) (decide (N < 6)) j)) (tkJ lt n (-9) (decide (N < 6)) j)) pf odr gv mk bo bq) rfl (by intro z _; exact congrFun (drF_ik W H N ikf pcf hN6 _) z) rfl ?_
          refine kw_aload_n C 1 dX7_readsInk_85 rfl ?_
          refine kw_get (v := .ref (a 2)) (T := TX7) C 0 2 rfl rfl (by decide) (fun w h => mT (fwX7 w h)) rfl (mT wd_617) rfl dX7_readsInk_86 ?_
          refine kw_iconst (v := nI 2) C dX7_readsInk_89 (by decide) ?_
          refine kw_dup2_11 C dX7_readsInk_90 rfl rfl ?_
          refine kw_iald (f := drF W H N (va_up ikf N (dnV b (lt (tkJ lt n (-9) (decide (N < 6)) j) - 48))) pcf) C 2 rfl (by omega) (by decide) dX7_readsInk_91 ?_
          refine kw_top (show ((drF W H N (va_up ikf N (dnV b (lt (tkJ lt n (-9) (decide (N < 6)) j) - 48))) pcf) 2) = (nI N) from by rfl) ?_
          refine kw_iconst (v := nI 1) C dX7_readsInk_92 (by decide) ?_
          refine kw_iadd C dX7_readsInk_93 (kw_top (nI_add _ _) ?_)
          refine kw_iast C 2 (kMod y a th Sr (upd (drF W H N (va_up ikf N (dnV b (lt (tkJ lt n (-9) (decide (N < 6)) j) - 48))) pcf) 2 (nI (N + 1))) pa um im ikp tx (nI n) sn sm (nI (atT n (tkJ lt n (tkA (-9) (decide (N < 6)) j) (figG 1 lt n (tkJ lt n (-9) (decide (N < 6)) j)) (tkJ lt n (-9) (decide (N < 6)) j)))) (nI (tkJ lt n (tkA (-9) (decide (N < 6)) j) (figG 1 lt n (tkJ lt n (-9) (decide (N < 6)) j)) (tkJ lt n (-9) (decide (N < 6)) j))) (nI (tokN lt n (tkJ lt n (tkA (-9) (decide (N < 6)) j) (figG 1 lt n (tkJ lt n (-9) (decide (N < 6)) j)) (tkJ lt n (-9) (decide (N < 6)) j)))) (valI lt n (tkJ lt n (tkA (-9) (decide (N < 6)) j) (figG 1 lt n (tkJ lt n (-9) (decide (N < 6)) j)) (tkJ lt n (-9) (decide (N < 6)) j))) (tkA (tkA (-9) (decide (N < 6)) j) (figG 1 lt n (tkJ lt n (-9) (decide (N < 6)) j)) (tkJ lt n (-9) (decide (N < 6)) j)) pf odr gv mk bo bq) rfl (by omega) (by decide) dX7_readsInk_94 rfl ?_
          refine kw_exti (drF W H (N + 1) (va_up ikf N (dnV b (lt (tkJ lt n (-9) (decide (N < 6)) j) - 48))) pcf) 2 (kMod y a th Sr (drF W H (N + 1) (va_up ikf N (dnV b (lt (tkJ lt n (-9) (decide (N < 6)) j) - 48))) pcf) pa um im ikp tx (nI n) sn sm (nI (atT n (tkJ lt n (tkA (-9) (decide (N < 6)) j) (figG 1 lt n (tkJ lt n (-9) (decide (N < 6)) j)) (tkJ lt n (-9) (decide (N < 6)) j)))) (nI (tkJ lt n (tkA (-9) (decide (N < 6)) j) (figG 1 lt n (tkJ lt n (-9) (decide (N < 6)) j)) (tkJ lt n (-9) (decide (N < 6)) j))) (nI (tokN lt n (tkJ lt n (tkA (-9) (decide (N < 6)) j) (figG 1 lt n (tkJ lt n (-9) (decide (N < 6)) j)) (tkJ lt n (-9) (decide (N < 6)) j)))) (valI lt n (tkJ lt n (tkA (-9) (decide (N < 6)) j) (figG 1 lt n (tkJ lt n (-9) (decide (N < 6)) j)) (tkJ lt n (-9) (decide (N < 6)) j))) (tkA (tkA (-9) (decide (N < 6)) j) (figG 1 lt n (tkJ lt n (-9) (decide (N < 6)) j)) (tkJ lt n (-9) (decide (N < 6)) j)) pf odr gv mk bo bq) rfl (by intro z _; exact congrFun (drF_2 W H N _ pcf _) z) rfl ?_
          rw [show (inkD (tkA (tkA (-9) (decide (N < 6)) j) (figG 1 lt n (tkJ lt n (-9) (decide (N < 6)) j)) (tkJ lt n (-9) (decide (N < 6)) j)) W H N (dnV b (lt (tkJ lt n (-9) (decide (N < 6)) j) - 48)) ikf pcf) = (drF W H (N + 1) (va_up ikf N (dnV b (lt (tkJ lt n (-9) (decide (N < 6)) j) - 48))) pcf) from by unfold inkD; first | rw [if_pos c_56] | rw [if_neg c_56]]
          refine kR_v C () dX7_readsInk_95 ?_ rfl
          first | rfl | trivial | (simp; done) | omega
        refine kw_if_eq_B (tgt := 83) C dX7_readsInk_73 (by decide) (fun c_73 => ?_) (fun c_73 => ?_)
        ·
          refine kw_iload_n C 0 dX7_readsInk_83 rfl ?_
          refine kw_top (show (valI lt n (tkJ lt n (-9) (decide (N < 6)) j)) = (nI (lt (tkJ lt n (-9) (decide (N < 6)) j) - 48)) from by exact hv2) ?_
          refine KW.loc (lv' := [(2, .int (valI lt n (tkJ lt n (-9) (decide (N < 6)) j))), (0, .ref (a 0)), (1, .int (bI b))]) [0, 1, 2] rfl ?_
          refine KW.ass (congrArg (fun zq => ([.int zq, .int (nI (39 + N)), .ref (a 2)] : List Value)) (show (nI (lt (tkJ lt n (-9) (decide (N < 6)) j) - 48)) = (nI (dnV b (lt (tkJ lt n (-9) (decide (N < 6)) j) - 48))) from by unfold dnV; first | rw [if_pos c_73] | rw [if_neg (by rw [c_73]; decide)])) ?_
          exact J84_6 ()
        ·
          refine kw_bipush (v := nI 8) C dX7_readsInk_76 (by decide) ?_
          refine kw_iload_n C 0 dX7_readsInk_78 rfl ?_
          refine kw_top (show (valI lt n (tkJ lt n (-9) (decide (N < 6)) j)) = (nI (lt (tkJ lt n (-9) (decide (N < 6)) j) - 48)) from by exact hv2) ?_
          refine kw_iadd C dX7_readsInk_79 (kw_top (nI_add _ _) ?_)
          refine kw_goto (tgt := 84) C dX7_readsInk_80 (by decide) ?_
          refine KW.loc (lv' := [(2, .int (valI lt n (tkJ lt n (-9) (decide (N < 6)) j))), (0, .ref (a 0)), (1, .int (bI b))]) [0, 1, 2] rfl ?_
          refine KW.ass (congrArg (fun zq => ([.int zq, .int (nI (39 + N)), .ref (a 2)] : List Value)) (show (nI (8 + (lt (tkJ lt n (-9) (decide (N < 6)) j) - 48))) = (nI (dnV b (lt (tkJ lt n (-9) (decide (N < 6)) j) - 48))) from by unfold dnV; first | rw [if_pos c_73] | rw [if_neg (by rw [c_73]; decide)])) ?_
          exact J84_6 ()
    refine kw_icmp_ne_N (tgt := 47) C (by have := tokN_le lt n (tkJ lt n (-9) (decide (N < 6)) j); omega) (by have := tokN_le lt n (tkJ lt n (-9) (decide (N < 6)) j); omega) dX7_readsInk_27 (by decide) (fun c_27 => ?_) (fun c_27 => ?_)
    ·
      refine kw_iconst (v := nI 0) C dX7_readsInk_47 (by decide) ?_
      refine KW.loc (lv' := [(0, .ref (a 0)), (1, .int (bI b))]) [0, 1] rfl ?_
      refine KW.ass (congrArg (fun zq => ([.int zq, .ref (a 0)] : List Value)) (show (nI 0) = (bI (figG 1 lt n (tkJ lt n (-9) (decide (N < 6)) j))) from by first | exact bI_f' (fig_3 c_27) | exact bI_t' (fig_1 (by decide) hlt c_27 c_40) | exact bI_f' (fig_2 (by decide) hlt c_27 c_40))) ?_
      exact J48_3 ()
    ·
      refine kw_aload_n C 0 dX7_readsInk_30 rfl ?_
      refine kw_get (v := .int (valI lt n (tkJ lt n (-9) (decide (N < 6)) j))) (T := TX7) C 0 14 rfl rfl (by decide) (fun w h => mT (fwX7 w h)) rfl (mT wd_629) rfl dX7_readsInk_31 ?_
      refine kw_iconst (v := nI 1) C dX7_readsInk_34 (by decide) ?_
      refine kw_bipush (v := nI 7) C dX7_readsInk_35 (by decide) ?_
      refine kS_i (As := [.int (valI lt n (tkJ lt n (-9) (decide (N < 6)) j)), .int (nI 1), .int (nI 7)]) (rest := [.ref (a 0)]) (ws' := fun (u : Unit) => kMod y a th Sr (drF W H N ikf pcf) pa um im ikp tx (nI n) sn sm (nI (atT n (tkJ lt n (-9) (decide (N < 6)) j))) (nI (tkJ lt n (-9) (decide (N < 6)) j)) (nI (tokN lt n (tkJ lt n (-9) (decide (N < 6)) j))) (valI lt n (tkJ lt n (-9) (decide (N < 6)) j)) (tkA (-9) (decide (N < 6)) j) pf odr gv mk bo bq) C (c_X7_in l G y t (valI lt n (tkJ lt n (-9) (decide (N < 6)) j)) (nI 1) (nI 7)) (va_cwS 3 C.2.2.2.2.1 (goodS cT wd_688 wd_686 wd_687 wd_48) rfl rfl rfl (by decide +kernel) ⟨by decide, by decide⟩) [] [0, 1, 2, 3, 4, 5, 6, 7, 8, 9, 10, 11, 12, 13] [0, 1, 2, 3, 4, 5, 6, 7, 8, 9, 10, 11, 12, 13] rfl (by decide) rfl (by decide) (by decide) (fun _ => rfl) (by decide) rfl (Nat.le_of_ble_eq_true rfl) ⟨by decide, by decide⟩ dX7_readsInk_37 (fun r u hr_7 => ?_)
      subst hr_7
      refine kw_if_eq_D (tgt := 47) C dX7_readsInk_40 (by decide) (fun c_40 => ?_) (fun c_40 => ?_)
      ·
        refine kw_iconst (v := nI 0) C dX7_readsInk_47 (by decide) ?_
        refine KW.loc (lv' := [(0, .ref (a 0)), (1, .int (bI b))]) [0, 1] rfl ?_
        refine KW.ass (congrArg (fun zq => ([.int zq, .ref (a 0)] : List Value)) (show (nI 0) = (bI (figG 1 lt n (tkJ lt n (-9) (decide (N < 6)) j))) from by first | exact bI_f' (fig_3 c_27) | exact bI_t' (fig_1 (by decide) hlt c_27 c_40) | exact bI_f' (fig_2 (by decide) hlt c_27 c_40))) ?_
        exact J48_3 ()
      ·
        refine kw_iconst (v := nI 1) C dX7_readsInk_43 (by decide) ?_
        refine kw_goto (tgt := 48) C dX7_readsInk_44 (by decide) ?_
        refine KW.loc (lv' := [(0, .ref (a 0)), (1, .int (bI b))]) [0, 1] rfl ?_
        refine KW.ass (congrArg (fun zq => ([.int zq, .ref (a 0)] : List Value)) (show (nI 1) = (bI (figG 1 lt n (tkJ lt n (-9) (decide (N < 6)) j))) from by first | exact bI_f' (fig_3 c_27) | exact bI_t' (fig_1 (by decide) hlt c_27 c_40) | exact bI_f' (fig_2 (by decide) hlt c_27 c_40))) ?_
        exact J48_3 ()
  refine kw_icmp_ge_N (tgt := 16) C (by omega) (by omega) dX7_readsInk_9 (by decide) (fun c_9 => ?_) (fun c_9 => ?_)
  ·
    refine kw_iconst (v := nI 0) C dX7_readsInk_16 (by decide) ?_
    refine KW.loc (lv' := [(0, .ref (a 0)), (1, .int (bI b))]) [0, 1] rfl ?_
    refine KW.ass (congrArg (fun zq => ([.int zq, .ref (a 0)] : List Value)) (show (nI 0) = (bI (decide (N < 6))) from by first | exact (bI_t c_9).symm | exact (bI_f (by omega)).symm)) ?_
    exact J17_1 ()
  ·
    refine kw_iconst (v := nI 1) C dX7_readsInk_12 (by decide) ?_
    refine kw_goto (tgt := 17) C dX7_readsInk_13 (by decide) ?_
    refine KW.loc (lv' := [(0, .ref (a 0)), (1, .int (bI b))]) [0, 1] rfl ?_
    refine KW.ass (congrArg (fun zq => ([.int zq, .ref (a 0)] : List Value)) (show (nI 1) = (bI (decide (N < 6))) from by first | exact (bI_t c_9).symm | exact (bI_f (by omega)).symm)) ?_
    exact J17_1 ()

set_option maxHeartbeats 4000000 in
set_option maxRecDepth 100000 in
theorem c_X7_readsRow (l : Launch) (G : va_G) (y : Nat → ClassId) (t : Nat) (a : Nat → Nat) (th : Int32) (Sr : Nat → Int32) (pa : Nat → Int32) (um : Int32) (im : Nat → Int32) (ikp : Nat → Int32) (tx : Nat → Int32) (sn : Nat → Int32) (sm : Int32) (pf : Nat → Int32) (odr : Nat → Int32) (gv : Nat → Int32) (mk : Nat → Int32) (bo : Nat → Int32) (bq : Nat → Int32) (n : Nat) (lt : Nat → Nat) (j : Nat) (W : Nat) (H : Nat) (N : Nat) (ikf : Nat → Nat) (pcf : Nat → Nat) (hn : n ≤ 100) (htx : ∀ i, i < n → tx i = nI (lt i) ∧ lt i < 256) (hj : j < n) (hW : W ≤ 6) (hH : H ≤ 6) (sz : Nat) : Met l yX7_readsRow (Cond.code yX7_readsRow cX7_readsRow 4 (none) :: TG) ({ frames := 3, cells := 0, slots := 0, locals := 64 }) (va_Pc [.ref (a 0)] (PR G y t (kMod y a th Sr (drF W H N ikf pcf) pa um im ikp tx (nI n) sn sm (nI (atT n j)) (nI j) (nI (tokN lt n j)) (valI lt n j) (-9) pf odr gv mk bo bq) sz)) (va_Qv (fun (u : Unit) => True) (fun (u : Unit) t => PO G (va_A (kMod y a th Sr (drF W H N ikf pcf) pa um im ikp tx (nI n) sn sm (nI (atT n j)) (nI j) (nI (tokN lt n j)) (valI lt n j) (-9) pf odr gv mk bo bq) sz) (kMod y a th Sr (drF (if H = 0 then (rwL lt n W H 7 (0, tkJ lt n (-9) (decide (H < 6)) j, tkA (-9) (decide (H < 6)) j, pcf)).1 else W) (H + 1) N ikf (rwL lt n W H 7 (0, tkJ lt n (-9) (decide (H < 6)) j, tkA (-9) (decide (H < 6)) j, pcf)).2.2.2) pa um im ikp tx (nI n) sn sm (nI (atT n ((rwL lt n W H 7 (0, tkJ lt n (-9) (decide (H < 6)) j, tkA (-9) (decide (H < 6)) j, pcf)).2.1))) (nI ((rwL lt n W H 7 (0, tkJ lt n (-9) (decide (H < 6)) j, tkA (-9) (decide (H < 6)) j, pcf)).2.1)) (nI (tokN lt n ((rwL lt n W H 7 (0, tkJ lt n (-9) (decide (H < 6)) j, tkA (-9) (decide (H < 6)) j, pcf)).2.1))) (valI lt n ((rwL lt n W H 7 (0, tkJ lt n (-9) (decide (H < 6)) j, tkA (-9) (decide (H < 6)) j, pcf)).2.1)) ((rwL lt n W H 7 (0, tkJ lt n (-9) (decide (H < 6)) j, tkA (-9) (decide (H < 6)) j, pcf)).2.2.1) pf odr gv mk bo bq) t) (va_A (kMod y a th Sr (drF W H N ikf pcf) pa um im ikp tx (nI n) sn sm (nI (atT n j)) (nI j) (nI (tokN lt n j)) (valI lt n j) (-9) pf odr gv mk bo bq) sz)) 0 0 (va_A (kMod y a th Sr (drF W H N ikf pcf) pa um im ikp tx (nI n) sn sm (nI (atT n j)) (nI j) (nI (tokN lt n j)) (valI lt n j) (-9) pf odr gv mk bo bq) sz) := by
  refine kMet (cc := cX7_readsRow) (maxL := 4) (ret := none) (Qc := fun A => va_Qv (fun (u : Unit) => True) (fun (u : Unit) t => PO G A (kMod y a th Sr (drF (if H = 0 then (rwL lt n W H 7 (0, tkJ lt n (-9) (decide (H < 6)) j, tkA (-9) (decide (H < 6)) j, pcf)).1 else W) (H + 1) N ikf (rwL lt n W H 7 (0, tkJ lt n (-9) (decide (H < 6)) j, tkA (-9) (decide (H < 6)) j, pcf)).2.2.2) pa um im ikp tx (nI n) sn sm (nI (atT n ((rwL lt n W H 7 (0, tkJ lt n (-9) (decide (H < 6)) j, tkA (-9) (decide (H < 6)) j, pcf)).2.1))) (nI ((rwL lt n W H 7 (0, tkJ lt n (-9) (decide (H < 6)) j, tkA (-9) (decide (H < 6)) j, pcf)).2.1)) (nI (tokN lt n ((rwL lt n W H 7 (0, tkJ lt n (-9) (decide (H < 6)) j, tkA (-9) (decide (H < 6)) j, pcf)).2.1))) (valI lt n ((rwL lt n W H 7 (0, tkJ lt n (-9) (decide (H < 6)) j, tkA (-9) (decide (H < 6)) j, pcf)).2.1)) ((rwL lt n W H 7 (0, tkJ lt n (-9) (decide (H < 6)) j, tkA (-9) (decide (H < 6)) j, pcf)).2.2.1) pf odr gv mk bo bq) t) A) (by decide) rfl (Nat.le_of_ble_eq_true rfl) (fun p e s m below meth c A hsz C hin => ?_)
  have hlt : ∀ i, i < n → lt i < 256 := fun i h => (htx i h).2
  have hj2 : tkJ lt n (-9) (decide (H < 6)) j ≤ n := tkJ_le (by omega) (fun _ _ => hj)
  obtain ⟨wd, hwd⟩ : ∃ z, z = (if H = 0 then 6 else W) := ⟨_, rfl⟩
  have hwd6 : wd ≤ 6 := by rw [hwd]; split <;> omega
  obtain ⟨RS, hRS⟩ : ∃ z, z = rwL lt n W H 7 (0, tkJ lt n (-9) (decide (H < 6)) j, tkA (-9) (decide (H < 6)) j, pcf) := ⟨_, rfl⟩
  refine KW.loc (lv' := [(0, .ref (a 0))]) [0] rfl ?_
  refine kw_aload_n C 0 dX7_readsRow_0 rfl ?_
  refine kw_aload_n C 0 dX7_readsRow_1 rfl ?_
  refine kw_get (v := .ref (a 2)) (T := TX7) C 0 2 rfl rfl (by decide) (fun w h => mT (fwX7 w h)) rfl (mT wd_617) rfl dX7_readsRow_2 ?_
  refine kw_iconst (v := nI 1) C dX7_readsRow_5 (by decide) ?_
  refine kw_iald (f := drF W H N ikf pcf) C 2 rfl (by omega) (by decide) dX7_readsRow_6 ?_
  refine kw_top (show ((drF W H N ikf pcf) 1) = (nI H) from by rfl) ?_
  refine kw_bipush (v := nI 6) C dX7_readsRow_7 (by decide) ?_
  have J17_1 : ∀ (_ : Unit), KW p l e ({ frames := 3, cells := 0, slots := 0, locals := 64 }) s m ([.ref (a 0)] : List Value).toArray below meth c 0 0 (MQ below (va_Qv (fun (u : Unit) => True) (fun (u : Unit) t => PO G A (kMod y a th Sr (drF (if H = 0 then (rwL lt n W H 7 (0, tkJ lt n (-9) (decide (H < 6)) j, tkA (-9) (decide (H < 6)) j, pcf)).1 else W) (H + 1) N ikf (rwL lt n W H 7 (0, tkJ lt n (-9) (decide (H < 6)) j, tkA (-9) (decide (H < 6)) j, pcf)).2.2.2) pa um im ikp tx (nI n) sn sm (nI (atT n ((rwL lt n W H 7 (0, tkJ lt n (-9) (decide (H < 6)) j, tkA (-9) (decide (H < 6)) j, pcf)).2.1))) (nI ((rwL lt n W H 7 (0, tkJ lt n (-9) (decide (H < 6)) j, tkA (-9) (decide (H < 6)) j, pcf)).2.1)) (nI (tokN lt n ((rwL lt n W H 7 (0, tkJ lt n (-9) (decide (H < 6)) j, tkA (-9) (decide (H < 6)) j, pcf)).2.1))) (valI lt n ((rwL lt n W H 7 (0, tkJ lt n (-9) (decide (H < 6)) j, tkA (-9) (decide (H < 6)) j, pcf)).2.1)) ((rwL lt n W H 7 (0, tkJ lt n (-9) (decide (H < 6)) j, tkA (-9) (decide (H < 6)) j, pcf)).2.2.1) pf odr gv mk bo bq) t) A) ([.ref (a 0)] : List Value).toArray s 0 0 A) G A 4 (kMod y a th Sr (drF W H N ikf pcf) pa um im ikp tx (nI n) sn sm (nI (atT n j)) (nI j) (nI (tokN lt n j)) (valI lt n j) (-9) pf odr gv mk bo bq) [(0, .ref (a 0))] 17 [.int (bI (decide (H < 6))), .ref (a 0)] := by
    intro _
    refine kV_i (As := [.int (bI (decide (H < 6)))]) (rest := []) (ws' := fun (u : Unit) => kMod y a th Sr (drF W H N ikf pcf) pa um im ikp tx (nI n) sn sm (nI (atT n (tkJ lt n (-9) (decide (H < 6)) j))) (nI (tkJ lt n (-9) (decide (H < 6)) j)) (nI (tokN lt n (tkJ lt n (-9) (decide (H < 6)) j))) (valI lt n (tkJ lt n (-9) (decide (H < 6)) j)) (tkA (-9) (decide (H < 6)) j) pf odr gv mk bo bq) C (c_X7_takes l G y t a th Sr (drF W H N ikf pcf) pa um im ikp tx sn sm (-9) pf odr gv mk bo bq n lt j (decide (H < 6)) (by first | assumption | omega | decide) (by first | assumption | omega | decide) (by intro _ _; exact hj)) (cwV 1 C.2.2.2.2.1 (goodV cT wd_720 wd_717 wd_719 wd_18 wd_48) rfl rfl rfl (by decide +kernel) ⟨by decide, by decide⟩) [0, 1, 2, 3, 4, 5, 6, 7, 8, 9, 10, 11, 12, 13] [] [0, 1, 2, 3, 4, 5, 6, 7, 8, 9, 10, 11, 12, 13] rfl (by decide) rfl (by decide) (by decide) (fun _ => rfl) (by decide) 0 rfl rfl rfl (Nat.le_of_ble_eq_true rfl) ⟨by decide, by decide⟩ dX7_readsRow_17 (fun r u hr_2 => ?_)
    subst hr_2
    refine kw_pop C dX7_readsRow_20 rfl ?_
    refine kw_aload_n C 0 dX7_readsRow_21 rfl ?_
    refine kw_get (v := .ref (a 2)) (T := TX7) C 0 2 rfl rfl (by decide) (fun w h => mT (fwX7 w h)) rfl (mT wd_617) rfl dX7_readsRow_22 ?_
    refine kw_iconst (v := nI 1) C dX7_readsRow_25 (by decide) ?_
    refine kw_iald (f := drF W H N ikf pcf) C 2 rfl (by omega) (by decide) dX7_readsRow_26 ?_
    refine kw_top (show ((drF W H N ikf pcf) 1) = (nI H) from by rfl) ?_
    have J41_3 : ∀ (_ : Unit), KW p l e ({ frames := 3, cells := 0, slots := 0, locals := 64 }) s m ([.ref (a 0)] : List Value).toArray below meth c 0 0 (MQ below (va_Qv (fun (u : Unit) => True) (fun (u : Unit) t => PO G A (kMod y a th Sr (drF (if H = 0 then (rwL lt n W H 7 (0, tkJ lt n (-9) (decide (H < 6)) j, tkA (-9) (decide (H < 6)) j, pcf)).1 else W) (H + 1) N ikf (rwL lt n W H 7 (0, tkJ lt n (-9) (decide (H < 6)) j, tkA (-9) (decide (H < 6)) j, pcf)).2.2.2) pa um im ikp tx (nI n) sn sm (nI (atT n ((rwL lt n W H 7 (0, tkJ lt n (-9) (decide (H < 6)) j, tkA (-9) (decide (H < 6)) j, pcf)).2.1))) (nI ((rwL lt n W H 7 (0, tkJ lt n (-9) (decide (H < 6)) j, tkA (-9) (decide (H < 6)) j, pcf)).2.1)) (nI (tokN lt n ((rwL lt n W H 7 (0, tkJ lt n (-9) (decide (H < 6)) j, tkA (-9) (decide (H < 6)) j, pcf)).2.1))) (valI lt n ((rwL lt n W H 7 (0, tkJ lt n (-9) (decide (H < 6)) j, tkA (-9) (decide (H < 6)) j, pcf)).2.1)) ((rwL lt n W H 7 (0, tkJ lt n (-9) (decide (H < 6)) j, tkA (-9) (decide (H < 6)) j, pcf)).2.2.1) pf odr gv mk bo bq) t) A) ([.ref (a 0)] : List Value).toArray s 0 0 A) G A 4 (kMod y a th Sr (drF W H N ikf pcf) pa um im ikp tx (nI n) sn sm (nI (atT n (tkJ lt n (-9) (decide (H < 6)) j))) (nI (tkJ lt n (-9) (decide (H < 6)) j)) (nI (tokN lt n (tkJ lt n (-9) (decide (H < 6)) j))) (valI lt n (tkJ lt n (-9) (decide (H < 6)) j)) (tkA (-9) (decide (H < 6)) j) pf odr gv mk bo bq) [(0, .ref (a 0))] 41 [.int (nI wd)] := by
      intro _
      refine kw_istore_n C [(1, .int (nI wd)), (0, .ref (a 0))] dX7_readsRow_41 rfl (by decide) rfl ?_
      refine kw_iconst (v := nI 0) C dX7_readsRow_42 (by decide) ?_
      refine kw_istore_n C [(2, .int (nI 0)), (1, .int (nI wd)), (0, .ref (a 0))] dX7_readsRow_43 rfl (by decide) rfl ?_
      have L44_4 : ∀ (nn : Nat) (k : Nat) (q : Nat) (j5 : Nat) (f5 : Int32) (pcf5 : Nat → Nat) (hk : f5 = -9 → 7 ≤ q + k) (hq : q ≤ wd) (hj5 : j5 ≤ n) (hH6 : f5 = -9 → H < 6) (hrw : rwL lt n W H k (q, j5, f5, pcf5) = RS) (hms : k < nn), KW p l e ({ frames := 3, cells := 0, slots := 0, locals := 64 }) s m ([.ref (a 0)] : List Value).toArray below meth c 0 0 (MQ below (va_Qv (fun (u : Unit) => True) (fun (u : Unit) t => PO G A (kMod y a th Sr (drF (if H = 0 then (rwL lt n W H 7 (0, tkJ lt n (-9) (decide (H < 6)) j, tkA (-9) (decide (H < 6)) j, pcf)).1 else W) (H + 1) N ikf (rwL lt n W H 7 (0, tkJ lt n (-9) (decide (H < 6)) j, tkA (-9) (decide (H < 6)) j, pcf)).2.2.2) pa um im ikp tx (nI n) sn sm (nI (atT n ((rwL lt n W H 7 (0, tkJ lt n (-9) (decide (H < 6)) j, tkA (-9) (decide (H < 6)) j, pcf)).2.1))) (nI ((rwL lt n W H 7 (0, tkJ lt n (-9) (decide (H < 6)) j, tkA (-9) (decide (H < 6)) j, pcf)).2.1)) (nI (tokN lt n ((rwL lt n W H 7 (0, tkJ lt n (-9) (decide (H < 6)) j, tkA (-9) (decide (H < 6)) j, pcf)).2.1))) (valI lt n ((rwL lt n W H 7 (0, tkJ lt n (-9) (decide (H < 6)) j, tkA (-9) (decide (H < 6)) j, pcf)).2.1)) ((rwL lt n W H 7 (0, tkJ lt n (-9) (decide (H < 6)) j, tkA (-9) (decide (H < 6)) j, pcf)).2.2.1) pf odr gv mk bo bq) t) A) ([.ref (a 0)] : List Value).toArray s 0 0 A) G A 4 (kMod y a th Sr (drF W H N ikf pcf5) pa um im ikp tx (nI n) sn sm (nI (atT n j5)) (nI j5) (nI (tokN lt n j5)) (valI lt n j5) f5 pf odr gv mk bo bq) [(2, .int (nI q)), (1, .int (nI wd)), (0, .ref (a 0))] 44 [] := by
        intro nn
        induction nn with
        | zero => intro k q j5 f5 pcf5 hk hq hj5 hH6 hrw hms; exact absurd hms (Nat.not_lt_zero _)
        | succ nn ih_44 =>
          intro k q j5 f5 pcf5 hk hq hj5 hH6 hrw hms
          refine kw_aload_n C 2 dX7_readsRow_44 rfl ?_
          refine kV_i (As := []) (rest := []) (ws' := fun (u : Unit) => kMod y a th Sr (drF W H N ikf pcf5) pa um im ikp tx (nI n) sn sm (nI (atT n j5)) (nI j5) (nI (tokN lt n j5)) (valI lt n j5) f5 pf odr gv mk bo bq) C (c_X7_isWell l G y t a th Sr (drF W H N ikf pcf5) pa um im ikp tx (nI n) sn sm (nI (atT n j5)) (nI j5) (nI (tokN lt n j5)) (valI lt n j5) f5 pf odr gv mk bo bq) (cwV 0 C.2.2.2.2.1 (goodV cT wd_712 wd_709 wd_711 wd_16 wd_48) rfl rfl rfl (by decide +kernel) ⟨by decide, by decide⟩) [0, 1, 2, 3, 4, 5, 6, 7, 8, 9, 10, 11, 12, 13] [] [0, 1, 2, 3, 4, 5, 6, 7, 8, 9, 10, 11, 12, 13] rfl (by decide) rfl (by decide) (by decide) (fun _ => rfl) (by decide) 0 rfl rfl rfl (Nat.le_of_ble_eq_true rfl) ⟨by decide, by decide⟩ dX7_readsRow_45 (fun r u hr_5 => ?_)
          subst hr_5
          have J150_6 : ∀ (hfin : RS = (q, j5, f5, pcf5)), KW p l e ({ frames := 3, cells := 0, slots := 0, locals := 64 }) s m ([.ref (a 0)] : List Value).toArray below meth c 0 0 (MQ below (va_Qv (fun (u : Unit) => True) (fun (u : Unit) t => PO G A (kMod y a th Sr (drF (if H = 0 then (rwL lt n W H 7 (0, tkJ lt n (-9) (decide (H < 6)) j, tkA (-9) (decide (H < 6)) j, pcf)).1 else W) (H + 1) N ikf (rwL lt n W H 7 (0, tkJ lt n (-9) (decide (H < 6)) j, tkA (-9) (decide (H < 6)) j, pcf)).2.2.2) pa um im ikp tx (nI n) sn sm (nI (atT n ((rwL lt n W H 7 (0, tkJ lt n (-9) (decide (H < 6)) j, tkA (-9) (decide (H < 6)) j, pcf)).2.1))) (nI ((rwL lt n W H 7 (0, tkJ lt n (-9) (decide (H < 6)) j, tkA (-9) (decide (H < 6)) j, pcf)).2.1)) (nI (tokN lt n ((rwL lt n W H 7 (0, tkJ lt n (-9) (decide (H < 6)) j, tkA (-9) (decide (H < 6)) j, pcf)).2.1))) (valI lt n ((rwL lt n W H 7 (0, tkJ lt n (-9) (decide (H < 6)) j, tkA (-9) (decide (H < 6)) j, pcf)).2.1)) ((rwL lt n W H 7 (0, tkJ lt n (-9) (decide (H < 6)) j, tkA (-9) (decide (H < 6)) j, pcf)).2.2.1) pf odr gv mk bo bq) t) A) ([.ref (a 0)] : List Value).toArray s 0 0 A) G A 4 (kMod y a th Sr (drF W H N ikf pcf5) pa um im ikp tx (nI n) sn sm (nI (atT n j5)) (nI j5) (nI (tokN lt n j5)) (valI lt n j5) f5 pf odr gv mk bo bq) [(2, .int (nI q)), (1, .int (nI wd)), (0, .ref (a 0))] 150 [] := by
            intro hfin
            refine kw_aload_n C 2 dX7_readsRow_150 rfl ?_
            refine kw_get (v := .ref (a 2)) (T := TX7) C 0 2 rfl rfl (by decide) (fun w h => mT (fwX7 w h)) rfl (mT wd_617) rfl dX7_readsRow_151 ?_
            refine kw_iconst (v := nI 0) C dX7_readsRow_154 (by decide) ?_
            refine kw_aload_n C 2 dX7_readsRow_155 rfl ?_
            refine kw_get (v := .ref (a 2)) (T := TX7) C 0 2 rfl rfl (by decide) (fun w h => mT (fwX7 w h)) rfl (mT wd_617) rfl dX7_readsRow_156 ?_
            refine kw_iconst (v := nI 1) C dX7_readsRow_159 (by decide) ?_
            refine kw_iald (f := drF W H N ikf pcf5) C 2 rfl (by omega) (by decide) dX7_readsRow_160 ?_
            refine kw_top (show ((drF W H N ikf pcf5) 1) = (nI H) from by rfl) ?_
            have J174_7 : ∀ (_ : Unit), KW p l e ({ frames := 3, cells := 0, slots := 0, locals := 64 }) s m ([.ref (a 0)] : List Value).toArray below meth c 0 0 (MQ below (va_Qv (fun (u : Unit) => True) (fun (u : Unit) t => PO G A (kMod y a th Sr (drF (if H = 0 then (rwL lt n W H 7 (0, tkJ lt n (-9) (decide (H < 6)) j, tkA (-9) (decide (H < 6)) j, pcf)).1 else W) (H + 1) N ikf (rwL lt n W H 7 (0, tkJ lt n (-9) (decide (H < 6)) j, tkA (-9) (decide (H < 6)) j, pcf)).2.2.2) pa um im ikp tx (nI n) sn sm (nI (atT n ((rwL lt n W H 7 (0, tkJ lt n (-9) (decide (H < 6)) j, tkA (-9) (decide (H < 6)) j, pcf)).2.1))) (nI ((rwL lt n W H 7 (0, tkJ lt n (-9) (decide (H < 6)) j, tkA (-9) (decide (H < 6)) j, pcf)).2.1)) (nI (tokN lt n ((rwL lt n W H 7 (0, tkJ lt n (-9) (decide (H < 6)) j, tkA (-9) (decide (H < 6)) j, pcf)).2.1))) (valI lt n ((rwL lt n W H 7 (0, tkJ lt n (-9) (decide (H < 6)) j, tkA (-9) (decide (H < 6)) j, pcf)).2.1)) ((rwL lt n W H 7 (0, tkJ lt n (-9) (decide (H < 6)) j, tkA (-9) (decide (H < 6)) j, pcf)).2.2.1) pf odr gv mk bo bq) t) A) ([.ref (a 0)] : List Value).toArray s 0 0 A) G A 4 (kMod y a th Sr (drF W H N ikf pcf5) pa um im ikp tx (nI n) sn sm (nI (atT n j5)) (nI j5) (nI (tokN lt n j5)) (valI lt n j5) f5 pf odr gv mk bo bq) [(2, .int (nI q)), (1, .int (nI wd)), (0, .ref (a 0))] 174 [.int (nI (if H = 0 then q else W)), .int (nI 0), .ref (a 2)] := by
              intro _
              refine kw_iast C 2 (kMod y a th Sr (upd (drF W H N ikf pcf5) 0 (nI (if H = 0 then q else W))) pa um im ikp tx (nI n) sn sm (nI (atT n j5)) (nI j5) (nI (tokN lt n j5)) (valI lt n j5) f5 pf odr gv mk bo bq) rfl (by omega) (by decide) dX7_readsRow_174 rfl ?_
              refine kw_exti (drF (if H = 0 then q else W) H N ikf pcf5) 2 (kMod y a th Sr (drF (if H = 0 then q else W) H N ikf pcf5) pa um im ikp tx (nI n) sn sm (nI (atT n j5)) (nI j5) (nI (tokN lt n j5)) (valI lt n j5) f5 pf odr gv mk bo bq) rfl (by intro z _; exact congrFun (drF_0 W H N ikf pcf5 _) z) rfl ?_
              refine kw_aload_n C 2 dX7_readsRow_175 rfl ?_
              refine kw_get (v := .ref (a 2)) (T := TX7) C 0 2 rfl rfl (by decide) (fun w h => mT (fwX7 w h)) rfl (mT wd_617) rfl dX7_readsRow_176 ?_
              refine kw_iconst (v := nI 1) C dX7_readsRow_179 (by decide) ?_
              refine kw_dup2_11 C dX7_readsRow_180 rfl rfl ?_
              refine kw_iald (f := drF (if H = 0 then q else W) H N ikf pcf5) C 2 rfl (by omega) (by decide) dX7_readsRow_181 ?_
              refine kw_top (show ((drF (if H = 0 then q else W) H N ikf pcf5) 1) = (nI H) from by rfl) ?_
              refine kw_iconst (v := nI 1) C dX7_readsRow_182 (by decide) ?_
              refine kw_iadd C dX7_readsRow_183 (kw_top (nI_add _ _) ?_)
              refine kw_iast C 2 (kMod y a th Sr (upd (drF (if H = 0 then q else W) H N ikf pcf5) 1 (nI (H + 1))) pa um im ikp tx (nI n) sn sm (nI (atT n j5)) (nI j5) (nI (tokN lt n j5)) (valI lt n j5) f5 pf odr gv mk bo bq) rfl (by omega) (by decide) dX7_readsRow_184 rfl ?_
              refine kw_exti (drF (if H = 0 then q else W) (H + 1) N ikf pcf5) 2 (kMod y a th Sr (drF (if H = 0 then q else W) (H + 1) N ikf pcf5) pa um im ikp tx (nI n) sn sm (nI (atT n j5)) (nI j5) (nI (tokN lt n j5)) (valI lt n j5) f5 pf odr gv mk bo bq) rfl (by intro z _; exact congrFun (drF_1 _ H N ikf pcf5 _) z) rfl ?_
              rw [show (rwL lt n W H 7 (0, tkJ lt n (-9) (decide (H < 6)) j, tkA (-9) (decide (H < 6)) j, pcf)) = (q, j5, f5, pcf5) from by exact hRS.symm.trans hfin]
              refine kR_v C () dX7_readsRow_185 ?_ rfl
              first | rfl | trivial | (simp; done) | omega
            refine kw_if_ne_N (tgt := 168) C (by omega) dX7_readsRow_161 (by decide) (fun c_161 => ?_) (fun c_161 => ?_)
            ·
              refine kw_aload_n C 2 dX7_readsRow_168 rfl ?_
              refine kw_get (v := .ref (a 2)) (T := TX7) C 0 2 rfl rfl (by decide) (fun w h => mT (fwX7 w h)) rfl (mT wd_617) rfl dX7_readsRow_169 ?_
              refine kw_iconst (v := nI 0) C dX7_readsRow_172 (by decide) ?_
              refine kw_iald (f := drF W H N ikf pcf5) C 2 rfl (by omega) (by decide) dX7_readsRow_173 ?_
              refine kw_top (show ((drF W H N ikf pcf5) 0) = (nI W) from by rfl) ?_
              refine KW.loc (lv' := [(2, .int (nI q)), (1, .int (nI wd)), (0, .ref (a 0))]) [0, 1, 2] rfl ?_
              refine KW.ass (congrArg (fun zq => ([.int zq, .int (nI 0), .ref (a 2)] : List Value)) (show (nI W) = (nI (if H = 0 then q else W)) from by first | rw [if_pos c_161] | rw [if_neg c_161])) ?_
              exact J174_7 ()
            ·
              refine kw_iload_n C 0 dX7_readsRow_164 rfl ?_
              refine kw_goto (tgt := 174) C dX7_readsRow_165 (by decide) ?_
              refine KW.loc (lv' := [(2, .int (nI q)), (1, .int (nI wd)), (0, .ref (a 0))]) [0, 1, 2] rfl ?_
              refine KW.ass (congrArg (fun zq => ([.int zq, .int (nI 0), .ref (a 2)] : List Value)) (show (nI q) = (nI (if H = 0 then q else W)) from by first | rw [if_pos c_161] | rw [if_neg c_161])) ?_
              exact J174_7 ()
          refine kw_if_eq_D (tgt := 150) C dX7_readsRow_48 (by decide) (fun c_48 => ?_) (fun c_48 => ?_)
          ·
            refine KW.loc (lv' := [(2, .int (nI q)), (1, .int (nI wd)), (0, .ref (a 0))]) [0, 1, 2] rfl ?_
            exact J150_6 (by exact hrw.symm.trans (rwL_e (fun h => by first | exact absurd h.1 c_48 | (have h2 : q = 0 ∨ q < W ∨ (H = 0 ∧ tokN lt n j5 ≠ 3) := h.2; omega)) _))
          ·
            refine kw_iload_n C 0 dX7_readsRow_51 rfl ?_
            have J82_8 : ∀ (hcn : q = 0 ∨ q < W ∨ (H = 0 ∧ tokN lt n j5 ≠ 3)), KW p l e ({ frames := 3, cells := 0, slots := 0, locals := 64 }) s m ([.ref (a 0)] : List Value).toArray below meth c 0 0 (MQ below (va_Qv (fun (u : Unit) => True) (fun (u : Unit) t => PO G A (kMod y a th Sr (drF (if H = 0 then (rwL lt n W H 7 (0, tkJ lt n (-9) (decide (H < 6)) j, tkA (-9) (decide (H < 6)) j, pcf)).1 else W) (H + 1) N ikf (rwL lt n W H 7 (0, tkJ lt n (-9) (decide (H < 6)) j, tkA (-9) (decide (H < 6)) j, pcf)).2.2.2) pa um im ikp tx (nI n) sn sm (nI (atT n ((rwL lt n W H 7 (0, tkJ lt n (-9) (decide (H < 6)) j, tkA (-9) (decide (H < 6)) j, pcf)).2.1))) (nI ((rwL lt n W H 7 (0, tkJ lt n (-9) (decide (H < 6)) j, tkA (-9) (decide (H < 6)) j, pcf)).2.1)) (nI (tokN lt n ((rwL lt n W H 7 (0, tkJ lt n (-9) (decide (H < 6)) j, tkA (-9) (decide (H < 6)) j, pcf)).2.1))) (valI lt n ((rwL lt n W H 7 (0, tkJ lt n (-9) (decide (H < 6)) j, tkA (-9) (decide (H < 6)) j, pcf)).2.1)) ((rwL lt n W H 7 (0, tkJ lt n (-9) (decide (H < 6)) j, tkA (-9) (decide (H < 6)) j, pcf)).2.2.1) pf odr gv mk bo bq) t) A) ([.ref (a 0)] : List Value).toArray s 0 0 A) G A 4 (kMod y a th Sr (drF W H N ikf pcf5) pa um im ikp tx (nI n) sn sm (nI (atT n j5)) (nI j5) (nI (tokN lt n j5)) (valI lt n j5) f5 pf odr gv mk bo bq) [(2, .int (nI q)), (1, .int (nI wd)), (0, .ref (a 0))] 82 [] := by
              intro hcn
              refine kw_aload_n C 2 dX7_readsRow_82 rfl ?_
              refine kw_aload_n C 2 dX7_readsRow_83 rfl ?_
              refine kw_get (v := .int (nI (tokN lt n j5))) (T := TX7) C 0 13 rfl rfl (by decide) (fun w h => mT (fwX7 w h)) rfl (mT wd_628) rfl dX7_readsRow_84 ?_
              refine kw_iconst (v := nI 2) C dX7_readsRow_87 (by decide) ?_
              have J114_9 : ∀ (_ : Unit), KW p l e ({ frames := 3, cells := 0, slots := 0, locals := 64 }) s m ([.ref (a 0)] : List Value).toArray below meth c 0 0 (MQ below (va_Qv (fun (u : Unit) => True) (fun (u : Unit) t => PO G A (kMod y a th Sr (drF (if H = 0 then (rwL lt n W H 7 (0, tkJ lt n (-9) (decide (H < 6)) j, tkA (-9) (decide (H < 6)) j, pcf)).1 else W) (H + 1) N ikf (rwL lt n W H 7 (0, tkJ lt n (-9) (decide (H < 6)) j, tkA (-9) (decide (H < 6)) j, pcf)).2.2.2) pa um im ikp tx (nI n) sn sm (nI (atT n ((rwL lt n W H 7 (0, tkJ lt n (-9) (decide (H < 6)) j, tkA (-9) (decide (H < 6)) j, pcf)).2.1))) (nI ((rwL lt n W H 7 (0, tkJ lt n (-9) (decide (H < 6)) j, tkA (-9) (decide (H < 6)) j, pcf)).2.1)) (nI (tokN lt n ((rwL lt n W H 7 (0, tkJ lt n (-9) (decide (H < 6)) j, tkA (-9) (decide (H < 6)) j, pcf)).2.1))) (valI lt n ((rwL lt n W H 7 (0, tkJ lt n (-9) (decide (H < 6)) j, tkA (-9) (decide (H < 6)) j, pcf)).2.1)) ((rwL lt n W H 7 (0, tkJ lt n (-9) (decide (H < 6)) j, tkA (-9) (decide (H < 6)) j, pcf)).2.2.1) pf odr gv mk bo bq) t) A) ([.ref (a 0)] : List Value).toArray s 0 0 A) G A 4 (kMod y a th Sr (drF W H N ikf pcf5) pa um im ikp tx (nI n) sn sm (nI (atT n j5)) (nI j5) (nI (tokN lt n j5)) (valI lt n j5) f5 pf odr gv mk bo bq) [(2, .int (nI q)), (1, .int (nI wd)), (0, .ref (a 0))] 114 [.int (bI (rwG lt n W H q j5)), .ref (a 0)] := by
                intro _
                refine kV_i (As := [.int (bI (rwG lt n W H q j5))]) (rest := []) (ws' := fun (u : Unit) => kMod y a th Sr (drF W H N ikf pcf5) pa um im ikp tx (nI n) sn sm (nI (atT n (tkJ lt n f5 (rwG lt n W H q j5) j5))) (nI (tkJ lt n f5 (rwG lt n W H q j5) j5)) (nI (tokN lt n (tkJ lt n f5 (rwG lt n W H q j5) j5))) (valI lt n (tkJ lt n f5 (rwG lt n W H q j5) j5)) (tkA f5 (rwG lt n W H q j5) j5) pf odr gv mk bo bq) C (c_X7_takes l G y t a th Sr (drF W H N ikf pcf5) pa um im ikp tx sn sm f5 pf odr gv mk bo bq n lt j5 (rwG lt n W H q j5) (by first | assumption | omega | decide) (by first | assumption | omega | decide) (by intro _ h; exact (figG_t (rwG_t h).1).1)) (cwV 1 C.2.2.2.2.1 (goodV cT wd_720 wd_717 wd_719 wd_18 wd_48) rfl rfl rfl (by decide +kernel) ⟨by decide, by decide⟩) [0, 1, 2, 3, 4, 5, 6, 7, 8, 9, 10, 11, 12, 13] [] [0, 1, 2, 3, 4, 5, 6, 7, 8, 9, 10, 11, 12, 13] rfl (by decide) rfl (by decide) (by decide) (fun _ => rfl) (by decide) 0 rfl rfl rfl (Nat.le_of_ble_eq_true rfl) ⟨by decide, by decide⟩ dX7_readsRow_114 (fun r u hr_10 => ?_)
                subst hr_10
                refine kw_istore_n C [(3, .int (valI lt n j5)), (2, .int (nI q)), (1, .int (nI wd)), (0, .ref (a 0))] dX7_readsRow_117 rfl (by decide) rfl ?_
                refine kw_aload_n C 3 dX7_readsRow_118 rfl ?_
                refine kV_i (As := []) (rest := []) (ws' := fun (u : Unit) => kMod y a th Sr (drF W H N ikf pcf5) pa um im ikp tx (nI n) sn sm (nI (atT n (tkJ lt n f5 (rwG lt n W H q j5) j5))) (nI (tkJ lt n f5 (rwG lt n W H q j5) j5)) (nI (tokN lt n (tkJ lt n f5 (rwG lt n W H q j5) j5))) (valI lt n (tkJ lt n f5 (rwG lt n W H q j5) j5)) (tkA f5 (rwG lt n W H q j5) j5) pf odr gv mk bo bq) C (c_X7_isWell l G y t a th Sr (drF W H N ikf pcf5) pa um im ikp tx (nI n) sn sm (nI (atT n (tkJ lt n f5 (rwG lt n W H q j5) j5))) (nI (tkJ lt n f5 (rwG lt n W H q j5) j5)) (nI (tokN lt n (tkJ lt n f5 (rwG lt n W H q j5) j5))) (valI lt n (tkJ lt n f5 (rwG lt n W H q j5) j5)) (tkA f5 (rwG lt n W H q j5) j5) pf odr gv mk bo bq) (cwV 0 C.2.2.2.2.1 (goodV cT wd_712 wd_709 wd_711 wd_16 wd_48) rfl rfl rfl (by decide +kernel) ⟨by decide, by decide⟩) [0, 1, 2, 3, 4, 5, 6, 7, 8, 9, 10, 11, 12, 13] [] [0, 1, 2, 3, 4, 5, 6, 7, 8, 9, 10, 11, 12, 13] rfl (by decide) rfl (by decide) (by decide) (fun _ => rfl) (by decide) 0 rfl rfl rfl (Nat.le_of_ble_eq_true rfl) ⟨by decide, by decide⟩ dX7_readsRow_119 (fun r u hr_11 => ?_)
                subst hr_11
                refine kw_if_eq_D (tgt := 147) C dX7_readsRow_122 (by decide) (fun c_122 => ?_) (fun c_122 => ?_)
                ·
                  refine kw_goto (tgt := 44) C dX7_readsRow_147 (by decide) ?_
                  refine KW.loc (lv' := [(2, .int (nI q)), (1, .int (nI wd)), (0, .ref (a 0))]) [1, 2, 3] rfl ?_
                  exact ih_44 (k - 1) q (tkJ lt n f5 (rwG lt n W H q j5) j5) (tkA f5 (rwG lt n W H q j5) j5) pcf5 (by first | (intro h; exact absurd h c_122) | (have := hk c_48; intro _; omega)) (by first | exact hq | omega) (by exact tkJ_le hj5 (fun _ h => (figG_t (rwG_t h).1).1)) (by intro _; exact hH6 c_48) (by first | exact rwL_f (by have := hk c_48; omega) c_48 hcn c_122 hrw | exact rwL_t (by have := hk c_48; omega) c_48 hcn hB hrw) (by have := hk c_48; omega)
                ·
                  have hB := (tkA_w (Nat.le_trans hj5 hn) c_122).2
                  have hqw : q < wd := by rw [hwd]; exact (rwG_t hB).2
                  have hv := fig_v (rwG_t hB).1
                  have hH6' := hH6 c_48
                  refine kw_aload_n C 3 dX7_readsRow_125 rfl ?_
                  refine kw_get (v := .ref (a 2)) (T := TX7) C 0 2 rfl rfl (by decide) (fun w h => mT (fwX7 w h)) rfl (mT wd_617) rfl dX7_readsRow_126 ?_
                  refine kw_iconst (v := nI 3) C dX7_readsRow_129 (by decide) ?_
                  refine kw_bipush (v := nI 6) C dX7_readsRow_130 (by decide) ?_
                  refine kw_aload_n C 3 dX7_readsRow_132 rfl ?_
                  refine kw_get (v := .ref (a 2)) (T := TX7) C 0 2 rfl rfl (by decide) (fun w h => mT (fwX7 w h)) rfl (mT wd_617) rfl dX7_readsRow_133 ?_
                  refine kw_iconst (v := nI 1) C dX7_readsRow_136 (by decide) ?_
                  refine kw_iald (f := drF W H N ikf pcf5) C 2 rfl (by omega) (by decide) dX7_readsRow_137 ?_
                  refine kw_top (show ((drF W H N ikf pcf5) 1) = (nI H) from by rfl) ?_
                  refine kw_imul C dX7_readsRow_138 (kw_top (pk_mul _ _) ?_)
                  refine kw_iadd C dX7_readsRow_139 (kw_top (nI_add _ _) ?_)
                  refine kw_iload_n C 1 dX7_readsRow_140 rfl ?_
                  refine kw_iadd C dX7_readsRow_141 (kw_top (nI_add _ _) ?_)
                  refine kw_iload_n C 0 dX7_readsRow_142 rfl ?_
                  refine kw_top (show (valI lt n j5) = (nI (lt j5 - 48)) from by exact hv) ?_
                  refine kw_iast C 2 (kMod y a th Sr (upd (drF W H N ikf pcf5) ((3 + (6 * H)) + q) (nI (lt j5 - 48))) pa um im ikp tx (nI n) sn sm (nI (atT n (tkJ lt n f5 (rwG lt n W H q j5) j5))) (nI (tkJ lt n f5 (rwG lt n W H q j5) j5)) (nI (tokN lt n (tkJ lt n f5 (rwG lt n W H q j5) j5))) (valI lt n (tkJ lt n f5 (rwG lt n W H q j5) j5)) (tkA f5 (rwG lt n W H q j5) j5) pf odr gv mk bo bq) rfl (by omega) (by decide) dX7_readsRow_143 rfl ?_
                  refine kw_exti (drF W H N ikf (va_up pcf5 (6 * H + q) (lt j5 - 48))) 2 (kMod y a th Sr (drF W H N ikf (va_up pcf5 (6 * H + q) (lt j5 - 48))) pa um im ikp tx (nI n) sn sm (nI (atT n (tkJ lt n f5 (rwG lt n W H q j5) j5))) (nI (tkJ lt n f5 (rwG lt n W H q j5) j5)) (nI (tokN lt n (tkJ lt n f5 (rwG lt n W H q j5) j5))) (valI lt n (tkJ lt n f5 (rwG lt n W H q j5) j5)) (tkA f5 (rwG lt n W H q j5) j5) pf odr gv mk bo bq) rfl (by intro z _; rw [show 3 + 6 * H + q = 3 + (6 * H + q) from Nat.add_assoc _ _ _]; exact congrFun (drF_pc W H N ikf pcf5 (by omega) _) z) rfl ?_
                  refine kw_iinc (v := nI (q + 1)) C [(2, .int (nI (q + 1))), (3, .int (valI lt n j5)), (1, .int (nI wd)), (0, .ref (a 0))] 1 dX7_readsRow_144 rfl (nI_1 _) (by decide) rfl ?_
                  refine kw_goto (tgt := 44) C dX7_readsRow_147 (by decide) ?_
                  refine KW.loc (lv' := [(2, .int (nI (q + 1))), (1, .int (nI wd)), (0, .ref (a 0))]) [0, 2, 3] rfl ?_
                  exact ih_44 (k - 1) (q + 1) (tkJ lt n f5 (rwG lt n W H q j5) j5) (tkA f5 (rwG lt n W H q j5) j5) (va_up pcf5 (6 * H + q) (lt j5 - 48)) (by first | (intro h; exact absurd h c_122) | (have := hk c_48; intro _; omega)) (by first | exact hq | omega) (by exact tkJ_le hj5 (fun _ h => (figG_t (rwG_t h).1).1)) (by intro _; exact hH6 c_48) (by first | exact rwL_f (by have := hk c_48; omega) c_48 hcn c_122 hrw | exact rwL_t (by have := hk c_48; omega) c_48 hcn hB hrw) (by have := hk c_48; omega)
              refine kw_icmp_ne_N (tgt := 113) C (by have := tokN_le lt n j5; omega) (by have := tokN_le lt n j5; omega) dX7_readsRow_88 (by decide) (fun c_88 => ?_) (fun c_88 => ?_)
              ·
                refine kw_iconst (v := nI 0) C dX7_readsRow_113 (by decide) ?_
                refine KW.loc (lv' := [(2, .int (nI q)), (1, .int (nI wd)), (0, .ref (a 0))]) [0, 1, 2] rfl ?_
                refine KW.ass (congrArg (fun zq => ([.int zq, .ref (a 0)] : List Value)) (show (nI 0) = (bI (rwG lt n W H q j5)) from by first | exact bI_f' (rwG_3 (fig_3 c_88)) | exact bI_f' (rwG_3 (fig_2 (by decide) hlt c_88 c_101)) | exact bI_t' (rwG_1 hwd (fig_1 (by decide) hlt c_88 c_101) (by omega)) | exact bI_f' (rwG_2 hwd (by omega)))) ?_
                exact J114_9 ()
              ·
                refine kw_aload_n C 2 dX7_readsRow_91 rfl ?_
                refine kw_get (v := .int (valI lt n j5)) (T := TX7) C 0 14 rfl rfl (by decide) (fun w h => mT (fwX7 w h)) rfl (mT wd_629) rfl dX7_readsRow_92 ?_
                refine kw_iconst (v := nI 0) C dX7_readsRow_95 (by decide) ?_
                refine kw_bipush (v := nI 7) C dX7_readsRow_96 (by decide) ?_
                refine kS_i (As := [.int (valI lt n j5), .int (nI 0), .int (nI 7)]) (rest := [.ref (a 0)]) (ws' := fun (u : Unit) => kMod y a th Sr (drF W H N ikf pcf5) pa um im ikp tx (nI n) sn sm (nI (atT n j5)) (nI j5) (nI (tokN lt n j5)) (valI lt n j5) f5 pf odr gv mk bo bq) C (c_X7_in l G y t (valI lt n j5) (nI 0) (nI 7)) (va_cwS 3 C.2.2.2.2.1 (goodS cT wd_688 wd_686 wd_687 wd_48) rfl rfl rfl (by decide +kernel) ⟨by decide, by decide⟩) [] [0, 1, 2, 3, 4, 5, 6, 7, 8, 9, 10, 11, 12, 13] [0, 1, 2, 3, 4, 5, 6, 7, 8, 9, 10, 11, 12, 13] rfl (by decide) rfl (by decide) (by decide) (fun _ => rfl) (by decide) rfl (Nat.le_of_ble_eq_true rfl) ⟨by decide, by decide⟩ dX7_readsRow_98 (fun r u hr_12 => ?_)
                subst hr_12
                refine kw_if_eq_D (tgt := 113) C dX7_readsRow_101 (by decide) (fun c_101 => ?_) (fun c_101 => ?_)
                ·
                  refine kw_iconst (v := nI 0) C dX7_readsRow_113 (by decide) ?_
                  refine KW.loc (lv' := [(2, .int (nI q)), (1, .int (nI wd)), (0, .ref (a 0))]) [0, 1, 2] rfl ?_
                  refine KW.ass (congrArg (fun zq => ([.int zq, .ref (a 0)] : List Value)) (show (nI 0) = (bI (rwG lt n W H q j5)) from by first | exact bI_f' (rwG_3 (fig_3 c_88)) | exact bI_f' (rwG_3 (fig_2 (by decide) hlt c_88 c_101)) | exact bI_t' (rwG_1 hwd (fig_1 (by decide) hlt c_88 c_101) (by omega)) | exact bI_f' (rwG_2 hwd (by omega)))) ?_
                  exact J114_9 ()
                ·
                  refine kw_iload_n C 0 dX7_readsRow_104 rfl ?_
                  refine kw_iload_n C 1 dX7_readsRow_105 rfl ?_
                  refine kw_icmp_ge_N (tgt := 113) C (by omega) (by omega) dX7_readsRow_106 (by decide) (fun c_106 => ?_) (fun c_106 => ?_)
                  ·
                    refine kw_iconst (v := nI 0) C dX7_readsRow_113 (by decide) ?_
                    refine KW.loc (lv' := [(2, .int (nI q)), (1, .int (nI wd)), (0, .ref (a 0))]) [0, 1, 2] rfl ?_
                    refine KW.ass (congrArg (fun zq => ([.int zq, .ref (a 0)] : List Value)) (show (nI 0) = (bI (rwG lt n W H q j5)) from by first | exact bI_f' (rwG_3 (fig_3 c_88)) | exact bI_f' (rwG_3 (fig_2 (by decide) hlt c_88 c_101)) | exact bI_t' (rwG_1 hwd (fig_1 (by decide) hlt c_88 c_101) (by omega)) | exact bI_f' (rwG_2 hwd (by omega)))) ?_
                    exact J114_9 ()
                  ·
                    refine kw_iconst (v := nI 1) C dX7_readsRow_109 (by decide) ?_
                    refine kw_goto (tgt := 114) C dX7_readsRow_110 (by decide) ?_
                    refine KW.loc (lv' := [(2, .int (nI q)), (1, .int (nI wd)), (0, .ref (a 0))]) [0, 1, 2] rfl ?_
                    refine KW.ass (congrArg (fun zq => ([.int zq, .ref (a 0)] : List Value)) (show (nI 1) = (bI (rwG lt n W H q j5)) from by first | exact bI_f' (rwG_3 (fig_3 c_88)) | exact bI_f' (rwG_3 (fig_2 (by decide) hlt c_88 c_101)) | exact bI_t' (rwG_1 hwd (fig_1 (by decide) hlt c_88 c_101) (by omega)) | exact bI_f' (rwG_2 hwd (by omega)))) ?_
                    exact J114_9 ()
            refine kw_if_eq_N (tgt := 82) C (by omega) dX7_readsRow_52 (by decide) (fun c_52 => ?_) (fun c_52 => ?_)
            ·
              refine KW.loc (lv' := [(2, .int (nI q)), (1, .int (nI wd)), (0, .ref (a 0))]) [0, 1, 2] rfl ?_
              exact J82_8 (by first | exact Or.inl c_52 | exact Or.inr (Or.inl c_62) | exact Or.inr (Or.inr ⟨c_71, c_79⟩))
            ·
              refine kw_iload_n C 0 dX7_readsRow_55 rfl ?_
              refine kw_aload_n C 2 dX7_readsRow_56 rfl ?_
              refine kw_get (v := .ref (a 2)) (T := TX7) C 0 2 rfl rfl (by decide) (fun w h => mT (fwX7 w h)) rfl (mT wd_617) rfl dX7_readsRow_57 ?_
              refine kw_iconst (v := nI 0) C dX7_readsRow_60 (by decide) ?_
              refine kw_iald (f := drF W H N ikf pcf5) C 2 rfl (by omega) (by decide) dX7_readsRow_61 ?_
              refine kw_top (show ((drF W H N ikf pcf5) 0) = (nI W) from by rfl) ?_
              refine kw_icmp_lt_N (tgt := 82) C (by omega) (by omega) dX7_readsRow_62 (by decide) (fun c_62 => ?_) (fun c_62 => ?_)
              ·
                refine KW.loc (lv' := [(2, .int (nI q)), (1, .int (nI wd)), (0, .ref (a 0))]) [0, 1, 2] rfl ?_
                exact J82_8 (by first | exact Or.inl c_52 | exact Or.inr (Or.inl c_62) | exact Or.inr (Or.inr ⟨c_71, c_79⟩))
              ·
                refine kw_aload_n C 2 dX7_readsRow_65 rfl ?_
                refine kw_get (v := .ref (a 2)) (T := TX7) C 0 2 rfl rfl (by decide) (fun w h => mT (fwX7 w h)) rfl (mT wd_617) rfl dX7_readsRow_66 ?_
                refine kw_iconst (v := nI 1) C dX7_readsRow_69 (by decide) ?_
                refine kw_iald (f := drF W H N ikf pcf5) C 2 rfl (by omega) (by decide) dX7_readsRow_70 ?_
                refine kw_top (show ((drF W H N ikf pcf5) 1) = (nI H) from by rfl) ?_
                refine kw_if_ne_N (tgt := 150) C (by omega) dX7_readsRow_71 (by decide) (fun c_71 => ?_) (fun c_71 => ?_)
                ·
                  refine KW.loc (lv' := [(2, .int (nI q)), (1, .int (nI wd)), (0, .ref (a 0))]) [0, 1, 2] rfl ?_
                  exact J150_6 (by exact hrw.symm.trans (rwL_e (fun h => by first | exact absurd h.1 c_48 | (have h2 : q = 0 ∨ q < W ∨ (H = 0 ∧ tokN lt n j5 ≠ 3) := h.2; omega)) _))
                ·
                  refine kw_aload_n C 2 dX7_readsRow_74 rfl ?_
                  refine kw_get (v := .int (nI (tokN lt n j5))) (T := TX7) C 0 13 rfl rfl (by decide) (fun w h => mT (fwX7 w h)) rfl (mT wd_628) rfl dX7_readsRow_75 ?_
                  refine kw_iconst (v := nI 3) C dX7_readsRow_78 (by decide) ?_
                  refine kw_icmp_eq_N (tgt := 150) C (by have := tokN_le lt n j5; omega) (by have := tokN_le lt n j5; omega) dX7_readsRow_79 (by decide) (fun c_79 => ?_) (fun c_79 => ?_)
                  ·
                    refine KW.loc (lv' := [(2, .int (nI q)), (1, .int (nI wd)), (0, .ref (a 0))]) [0, 1, 2] rfl ?_
                    exact J150_6 (by exact hrw.symm.trans (rwL_e (fun h => by first | exact absurd h.1 c_48 | (have h2 : q = 0 ∨ q < W ∨ (H = 0 ∧ tokN lt n j5 ≠ 3) := h.2; omega)) _))
                  ·
                    refine KW.loc (lv' := [(2, .int (nI q)), (1, .int (nI wd)), (0, .ref (a 0))]) [0, 1, 2] rfl ?_
                    exact J82_8 (by first | exact Or.inl c_52 | exact Or.inr (Or.inl c_62) | exact Or.inr (Or.inr ⟨c_71, c_79⟩))
      refine KW.loc (lv' := [(2, .int (nI 0)), (1, .int (nI wd)), (0, .ref (a 0))]) [0, 1, 2] rfl ?_
      exact L44_4 (7 + 1) 7 0 (tkJ lt n (-9) (decide (H < 6)) j) (tkA (-9) (decide (H < 6)) j) pcf (by intro _; decide) (by first | assumption | omega | (simp; done)) (by exact hj2) (by intro h; exact of_decide_eq_true (tkA_w (by omega) h).2) (by exact hRS.symm) (Nat.lt_succ_self _)
    refine kw_if_ne_N (tgt := 35) C (by omega) dX7_readsRow_27 (by decide) (fun c_27 => ?_) (fun c_27 => ?_)
    ·
      refine kw_aload_n C 0 dX7_readsRow_35 rfl ?_
      refine kw_get (v := .ref (a 2)) (T := TX7) C 0 2 rfl rfl (by decide) (fun w h => mT (fwX7 w h)) rfl (mT wd_617) rfl dX7_readsRow_36 ?_
      refine kw_iconst (v := nI 0) C dX7_readsRow_39 (by decide) ?_
      refine kw_iald (f := drF W H N ikf pcf) C 2 rfl (by omega) (by decide) dX7_readsRow_40 ?_
      refine kw_top (show ((drF W H N ikf pcf) 0) = (nI W) from by rfl) ?_
      refine KW.loc (lv' := [(0, .ref (a 0))]) [0] rfl ?_
      refine KW.ass (congrArg (fun zq => ([.int zq] : List Value)) (show (nI W) = (nI wd) from by rw [hwd]; first | rw [if_pos c_27] | rw [if_neg c_27])) ?_
      exact J41_3 ()
    ·
      refine kw_bipush (v := nI 6) C dX7_readsRow_30 (by decide) ?_
      refine kw_goto (tgt := 41) C dX7_readsRow_32 (by decide) ?_
      refine KW.loc (lv' := [(0, .ref (a 0))]) [0] rfl ?_
      refine KW.ass (congrArg (fun zq => ([.int zq] : List Value)) (show (nI 6) = (nI wd) from by rw [hwd]; first | rw [if_pos c_27] | rw [if_neg c_27])) ?_
      exact J41_3 ()
  refine kw_icmp_ge_N (tgt := 16) C (by omega) (by omega) dX7_readsRow_9 (by decide) (fun c_9 => ?_) (fun c_9 => ?_)
  ·
    refine kw_iconst (v := nI 0) C dX7_readsRow_16 (by decide) ?_
    refine KW.loc (lv' := [(0, .ref (a 0))]) [0] rfl ?_
    refine KW.ass (congrArg (fun zq => ([.int zq, .ref (a 0)] : List Value)) (show (nI 0) = (bI (decide (H < 6))) from by first | exact (bI_t c_9).symm | exact (bI_f (by omega)).symm)) ?_
    exact J17_1 ()
  ·
    refine kw_iconst (v := nI 1) C dX7_readsRow_12 (by decide) ?_
    refine kw_goto (tgt := 17) C dX7_readsRow_13 (by decide) ?_
    refine KW.loc (lv' := [(0, .ref (a 0))]) [0] rfl ?_
    refine KW.ass (congrArg (fun zq => ([.int zq, .ref (a 0)] : List Value)) (show (nI 1) = (bI (decide (H < 6))) from by first | exact (bI_t c_9).symm | exact (bI_f (by omega)).symm)) ?_
    exact J17_1 ()
