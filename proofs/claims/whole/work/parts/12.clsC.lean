set_option maxHeartbeats 4000000 in
set_option maxRecDepth 100000 in
theorem c_X4_append (l : Launch) (G : va_G) (y : Nat → ClassId) (t : Nat) (a : Nat → Nat) (n : Nat) (it : Nat) (fg : Nat) (ltr : Nat → Int32) (ch : Nat) (hn : n ≤ 100) (hch : ch < 256) (sz : Nat) : Met l yX4_append (Cond.code yX4_append cX4_append 2 (some .boolean) :: TG) ({ frames := 0, cells := 0, slots := 0, locals := 0 }) (va_Pc [.ref (a 0), .int (nI ch)] (PR G y t (kText y a (nI n, nI it, nI fg, ltr)) sz)) (va_Qi (fun (r : Int32) (u : Nat × (Nat → Int32)) => r = (bI (decide (n < 100))) ∧ (n < 100 → u.1 = n + 1 ∧ u.2 = upd ltr n (nI ch)) ∧ (¬ n < 100 → u.1 = n ∧ u.2 = ltr)) (fun (u : Nat × (Nat → Int32)) t => PO G (va_A (kText y a (nI n, nI it, nI fg, ltr)) sz) (kText y a (nI u.1, nI it, nI fg, u.2)) t) (va_A (kText y a (nI n, nI it, nI fg, ltr)) sz)) 0 0 (va_A (kText y a (nI n, nI it, nI fg, ltr)) sz) := by
  refine kMet (cc := cX4_append) (maxL := 2) (ret := some .boolean) (Qc := fun A => va_Qi (fun (r : Int32) (u : Nat × (Nat → Int32)) => r = (bI (decide (n < 100))) ∧ (n < 100 → u.1 = n + 1 ∧ u.2 = upd ltr n (nI ch)) ∧ (¬ n < 100 → u.1 = n ∧ u.2 = ltr)) (fun (u : Nat × (Nat → Int32)) t => PO G A (kText y a (nI u.1, nI it, nI fg, u.2)) t) A) (by decide) rfl (Nat.le_of_ble_eq_true rfl) (fun p e s m below meth c A hsz C hin => ?_)
  refine KW.loc (lv' := [(0, .ref (a 0)), (1, .int (nI ch))]) [0, 1] rfl ?_
  refine kw_aload_n C 0 dX4_append_0 rfl ?_
  refine kw_get (v := .int (nI n)) (T := TX4) C 0 1 rfl rfl (by decide) (fun w h => mT (fwX4 w h)) rfl (mT wd_136) rfl dX4_append_1 ?_
  refine kw_bipush (v := nI 100) C dX4_append_4 (by decide) ?_
  refine kw_icmp_lt_N (tgt := 11) C (by omega) (by omega) dX4_append_6 (by decide) (fun c_6 => ?_) (fun c_6 => ?_)
  ·
    refine kw_aload_n C 0 dX4_append_11 rfl ?_
    refine kw_get (v := .ref (a 1)) (T := TX4) C 0 0 rfl rfl (by decide) (fun w h => mT (fwX4 w h)) rfl (mT wd_135) rfl dX4_append_12 ?_
    refine kw_aload_n C 0 dX4_append_15 rfl ?_
    refine kw_get (v := .int (nI n)) (T := TX4) C 0 1 rfl rfl (by decide) (fun w h => mT (fwX4 w h)) rfl (mT wd_136) rfl dX4_append_16 ?_
    refine kw_iload_n C 1 dX4_append_19 rfl ?_
    refine kw_i2c C dX4_append_20 rfl ?_
    refine kw_top (show (((nI ch).toUInt32 % 65536).toInt32) = (nI ch) from by exact chr_i2c ch hch) ?_
    refine kw_cast C 1 (kText y a (nI n, nI it, nI fg, upd ltr n (nI ch))) rfl (by omega) (by decide) (by exact chr_nar ch hch) dX4_append_21 rfl ?_
    refine kw_aload_n C 0 dX4_append_22 rfl ?_
    refine kw_dup C dX4_append_23 rfl ?_
    refine kw_get (v := .int (nI n)) (T := TX4) C 0 1 rfl rfl (by decide) (fun w h => mT (fwX4 w h)) rfl (mT wd_136) rfl dX4_append_24 ?_
    refine kw_iconst (v := nI 1) C dX4_append_27 (by decide) ?_
    refine kw_iadd C dX4_append_28 (kw_top (nI_add _ _) ?_)
    refine kw_put (T := TX4) (ty := .int) C 0 1 (kText y a (nI (n + 1), nI it, nI fg, upd ltr n (nI ch))) rfl rfl (by decide) (fun w h => mT (fwX4 w h)) tyX4 tyX4_ok nmX4 rfl (mT wd_136) rfl (by decide +kernel) rfl rfl (Nat.le_of_ble_eq_true rfl) dX4_append_29 rfl ?_
    refine kw_iconst (v := nI 1) C dX4_append_32 (by decide) ?_
    refine kR_z C (n + 1, upd ltr n (nI ch)) dX4_append_33 (by first | decide | exact bI_z _ | rfl) ?_ rfl
    exact ⟨(bI_t (by omega)).symm, fun _ => ⟨rfl, rfl⟩, fun h => absurd c_6 h⟩
  ·
    refine kw_iconst (v := nI 0) C dX4_append_9 (by decide) ?_
    refine kR_z C (n, ltr) dX4_append_10 (by first | decide | exact bI_z _ | rfl) ?_ rfl
    exact ⟨(bI_f (by omega)).symm, fun h => absurd h (by omega), fun _ => ⟨rfl, rfl⟩⟩

set_option maxHeartbeats 4000000 in
set_option maxRecDepth 100000 in
theorem c_X4_endsItem (l : Launch) (G : va_G) (y : Nat → ClassId) (t : Nat) (a : Nat → Nat) (n : Nat) (it : Nat) (fg : Nat) (ltr : Nat → Int32) (a2 : Nat → Nat) (W : Nat) (H : Nat) (N : Nat) (D : Nat) (p1 : Int64) (p2 : Int64) (p3 : Int64) (col : Nat → Int32) (od : Nat → Int32) (blk : Nat → Int64) (slp : Nat → Int32) (hok : CSok (it, fg, W, H, N, D, p1, p2, p3, col, od, blk, slp)) (sz : Nat) : Met l yX4_endsItem (Cond.code yX4_endsItem cX4_endsItem 2 (some .boolean) :: TG) ({ frames := 0, cells := 0, slots := 0, locals := 0 }) (va_Pc [.ref (a 0), .ref (a2 0)] (PR G y t (kText y a (nI n, nI it, nI fg, ltr) ++ kWork y a2 (nI W, nI H, nI N, nI D, p1, p2, p3, col, od, blk, slp)) sz)) (va_Qi (fun (r : Int32) (u : CSt) => r = (bI (endC (it, fg, W, H, N, D, p1, p2, p3, col, od, blk, slp)).isSome) ∧ u = (endC (it, fg, W, H, N, D, p1, p2, p3, col, od, blk, slp)).getD (it, fg, W, H, N, D, p1, p2, p3, col, od, blk, slp)) (fun (u : CSt) t => PO G (va_A (kText y a (nI n, nI it, nI fg, ltr) ++ kWork y a2 (nI W, nI H, nI N, nI D, p1, p2, p3, col, od, blk, slp)) sz) (kText y a (nI n, nI u.1, nI u.2.1, ltr) ++ kWork y a2 (nI u.2.2.1, nI u.2.2.2.1, nI u.2.2.2.2.1, nI u.2.2.2.2.2.1, u.2.2.2.2.2.2.1, u.2.2.2.2.2.2.2.1, u.2.2.2.2.2.2.2.2.1, u.2.2.2.2.2.2.2.2.2.1, u.2.2.2.2.2.2.2.2.2.2.1, u.2.2.2.2.2.2.2.2.2.2.2.1, u.2.2.2.2.2.2.2.2.2.2.2.2)) t) (va_A (kText y a (nI n, nI it, nI fg, ltr) ++ kWork y a2 (nI W, nI H, nI N, nI D, p1, p2, p3, col, od, blk, slp)) sz)) 0 0 (va_A (kText y a (nI n, nI it, nI fg, ltr) ++ kWork y a2 (nI W, nI H, nI N, nI D, p1, p2, p3, col, od, blk, slp)) sz) := by
  refine kMet (cc := cX4_endsItem) (maxL := 2) (ret := some .boolean) (Qc := fun A => va_Qi (fun (r : Int32) (u : CSt) => r = (bI (endC (it, fg, W, H, N, D, p1, p2, p3, col, od, blk, slp)).isSome) ∧ u = (endC (it, fg, W, H, N, D, p1, p2, p3, col, od, blk, slp)).getD (it, fg, W, H, N, D, p1, p2, p3, col, od, blk, slp)) (fun (u : CSt) t => PO G A (kText y a (nI n, nI u.1, nI u.2.1, ltr) ++ kWork y a2 (nI u.2.2.1, nI u.2.2.2.1, nI u.2.2.2.2.1, nI u.2.2.2.2.2.1, u.2.2.2.2.2.2.1, u.2.2.2.2.2.2.2.1, u.2.2.2.2.2.2.2.2.1, u.2.2.2.2.2.2.2.2.2.1, u.2.2.2.2.2.2.2.2.2.2.1, u.2.2.2.2.2.2.2.2.2.2.2.1, u.2.2.2.2.2.2.2.2.2.2.2.2)) t) A) (by decide) rfl (Nat.le_of_ble_eq_true rfl) (fun p e s m below meth c A hsz C hin => ?_)
  have hok' := hok; obtain ⟨k1, k2, k3, k4, k5, k6, k7, k8⟩ := hok'
  refine KW.loc (lv' := [(0, .ref (a 0)), (1, .ref (a2 0))]) [0, 1] rfl ?_
  refine kw_aload_n C 0 dX4_endsItem_0 rfl ?_
  refine kw_get (v := .int (nI it)) (T := TX4) C 0 2 rfl rfl (by decide) (fun w h => mT (fwX4 w h)) rfl (mT wd_138) rfl dX4_endsItem_1 ?_
  refine kw_bipush (v := nI 32) C dX4_endsItem_4 (by decide) ?_
  refine kw_icmp_eq_N (tgt := 16) C (by omega) (by omega) dX4_endsItem_6 (by decide) (fun c_6 => ?_) (fun c_6 => ?_)
  ·
    refine kw_iconst (v := nI 0) C dX4_endsItem_16 (by decide) ?_
    refine kR_z C ((it, fg, W, H, N, D, p1, p2, p3, col, od, blk, slp)) dX4_endsItem_17 (by first | decide | exact bI_z _ | rfl) ?_ rfl
    simp_all [endC, bI] <;> rfl
  ·
    refine kw_aload_n C 0 dX4_endsItem_9 rfl ?_
    refine kw_get (v := .int (nI fg)) (T := TX4) C 0 3 rfl rfl (by decide) (fun w h => mT (fwX4 w h)) rfl (mT wd_139) rfl dX4_endsItem_10 ?_
    refine kw_if_ne_N (tgt := 18) C (by omega) dX4_endsItem_13 (by decide) (fun c_13 => ?_) (fun c_13 => ?_)
    ·
      refine kw_aload_n C 0 dX4_endsItem_18 rfl ?_
      refine kw_get (v := .int (nI it)) (T := TX4) C 0 2 rfl rfl (by decide) (fun w h => mT (fwX4 w h)) rfl (mT wd_138) rfl dX4_endsItem_19 ?_
      refine kw_bipush (v := nI 114) C dX4_endsItem_22 (by decide) ?_
      refine kw_icmp_ne_N (tgt := 65) C (by omega) (by omega) dX4_endsItem_24 (by decide) (fun c_24 => ?_) (fun c_24 => ?_)
      ·
        refine kw_aload_n C 0 dX4_endsItem_65 rfl ?_
        refine kw_bipush (v := nI 32) C dX4_endsItem_66 (by decide) ?_
        refine kw_put (T := TX4) (ty := .char) C 0 2 (kText y a (nI n, nI 32, nI fg, ltr) ++ kWork y a2 (nI W, nI H, nI N, nI D, p1, p2, p3, col, od, blk, slp)) rfl rfl (by decide) (fun w h => mT (fwX4 w h)) tyX4 tyX4_ok nmX4 rfl (mT wd_138) rfl (by decide +kernel) (by first | decide | exact bI_z _ | rfl) (by first | decide | exact bI_fit _ | rfl) (Nat.le_of_ble_eq_true rfl) dX4_endsItem_68 rfl ?_
        refine kw_iconst (v := nI 1) C dX4_endsItem_71 (by decide) ?_
        refine kR_z C ((32, fg, W, H, N, D, p1, p2, p3, col, od, blk, slp)) dX4_endsItem_72 (by first | decide | exact bI_z _ | rfl) ?_ rfl
        simp_all [endC, bI] <;> rfl
      ·
        refine kw_aload_n C 1 dX4_endsItem_27 rfl ?_
        refine kw_getN (v := .int (nI H)) (T := TX5) C 2 1 rfl rfl (by decide) (fun w h => mT (fwX5 w h)) rfl (List.mem_of_getElem? (i := 3) rfl) rfl dX4_endsItem_28 ?_
        refine kw_if_le_N (tgt := 47) C (by omega) dX4_endsItem_31 (by decide) (fun c_31 => ?_) (fun c_31 => ?_)
        ·
          refine kw_aload_n C 1 dX4_endsItem_47 rfl ?_
          refine kw_aload_n C 0 dX4_endsItem_48 rfl ?_
          refine kw_get (v := .int (nI fg)) (T := TX4) C 0 3 rfl rfl (by decide) (fun w h => mT (fwX4 w h)) rfl (mT wd_139) rfl dX4_endsItem_49 ?_
          refine kw_putN (T := TX5) (ty := .int) C 2 0 (kText y a (nI n, nI it, nI fg, ltr) ++ kWork y a2 (nI fg, nI H, nI N, nI D, p1, p2, p3, col, od, blk, slp)) rfl rfl (by decide) (fun w h => mT (fwX5 w h)) tyX5 tyX5_ok nmX5 rfl (List.mem_of_getElem? (i := 0) rfl) rfl (by decide +kernel) rfl rfl (Nat.le_of_ble_eq_true rfl) dX4_endsItem_52 rfl ?_
          refine kw_aload_n C 1 dX4_endsItem_55 rfl ?_
          refine kw_dup C dX4_endsItem_56 rfl ?_
          refine kw_getN (v := .int (nI H)) (T := TX5) C 2 1 rfl rfl (by decide) (fun w h => mT (fwX5 w h)) rfl (List.mem_of_getElem? (i := 3) rfl) rfl dX4_endsItem_57 ?_
          refine kw_iconst (v := nI 1) C dX4_endsItem_60 (by decide) ?_
          refine kw_iadd C dX4_endsItem_61 (kw_top (nI_add _ _) ?_)
          refine kw_putN (T := TX5) (ty := .int) C 2 1 (kText y a (nI n, nI it, nI fg, ltr) ++ kWork y a2 (nI fg, nI (H + 1), nI N, nI D, p1, p2, p3, col, od, blk, slp)) rfl rfl (by decide) (fun w h => mT (fwX5 w h)) tyX5 tyX5_ok nmX5 rfl (List.mem_of_getElem? (i := 3) rfl) rfl (by decide +kernel) rfl rfl (Nat.le_of_ble_eq_true rfl) dX4_endsItem_62 rfl ?_
          refine kw_aload_n C 0 dX4_endsItem_65 rfl ?_
          refine kw_bipush (v := nI 32) C dX4_endsItem_66 (by decide) ?_
          refine kw_put (T := TX4) (ty := .char) C 0 2 (kText y a (nI n, nI 32, nI fg, ltr) ++ kWork y a2 (nI fg, nI (H + 1), nI N, nI D, p1, p2, p3, col, od, blk, slp)) rfl rfl (by decide) (fun w h => mT (fwX4 w h)) tyX4 tyX4_ok nmX4 rfl (mT wd_138) rfl (by decide +kernel) (by first | decide | exact bI_z _ | rfl) (by first | decide | exact bI_fit _ | rfl) (Nat.le_of_ble_eq_true rfl) dX4_endsItem_68 rfl ?_
          refine kw_iconst (v := nI 1) C dX4_endsItem_71 (by decide) ?_
          refine kR_z C ((32, fg, fg, (H + 1), N, D, p1, p2, p3, col, od, blk, slp)) dX4_endsItem_72 (by first | decide | exact bI_z _ | rfl) ?_ rfl
          simp_all [endC, bI] <;> rfl
        ·
          refine kw_aload_n C 0 dX4_endsItem_34 rfl ?_
          refine kw_get (v := .int (nI fg)) (T := TX4) C 0 3 rfl rfl (by decide) (fun w h => mT (fwX4 w h)) rfl (mT wd_139) rfl dX4_endsItem_35 ?_
          refine kw_aload_n C 1 dX4_endsItem_38 rfl ?_
          refine kw_getN (v := .int (nI W)) (T := TX5) C 2 0 rfl rfl (by decide) (fun w h => mT (fwX5 w h)) rfl (List.mem_of_getElem? (i := 0) rfl) rfl dX4_endsItem_39 ?_
          refine kw_icmp_eq_N (tgt := 47) C (by omega) (by omega) dX4_endsItem_42 (by decide) (fun c_42 => ?_) (fun c_42 => ?_)
          ·
            refine kw_aload_n C 1 dX4_endsItem_47 rfl ?_
            refine kw_aload_n C 0 dX4_endsItem_48 rfl ?_
            refine kw_get (v := .int (nI fg)) (T := TX4) C 0 3 rfl rfl (by decide) (fun w h => mT (fwX4 w h)) rfl (mT wd_139) rfl dX4_endsItem_49 ?_
            refine kw_putN (T := TX5) (ty := .int) C 2 0 (kText y a (nI n, nI it, nI fg, ltr) ++ kWork y a2 (nI fg, nI H, nI N, nI D, p1, p2, p3, col, od, blk, slp)) rfl rfl (by decide) (fun w h => mT (fwX5 w h)) tyX5 tyX5_ok nmX5 rfl (List.mem_of_getElem? (i := 0) rfl) rfl (by decide +kernel) rfl rfl (Nat.le_of_ble_eq_true rfl) dX4_endsItem_52 rfl ?_
            refine kw_aload_n C 1 dX4_endsItem_55 rfl ?_
            refine kw_dup C dX4_endsItem_56 rfl ?_
            refine kw_getN (v := .int (nI H)) (T := TX5) C 2 1 rfl rfl (by decide) (fun w h => mT (fwX5 w h)) rfl (List.mem_of_getElem? (i := 3) rfl) rfl dX4_endsItem_57 ?_
            refine kw_iconst (v := nI 1) C dX4_endsItem_60 (by decide) ?_
            refine kw_iadd C dX4_endsItem_61 (kw_top (nI_add _ _) ?_)
            refine kw_putN (T := TX5) (ty := .int) C 2 1 (kText y a (nI n, nI it, nI fg, ltr) ++ kWork y a2 (nI fg, nI (H + 1), nI N, nI D, p1, p2, p3, col, od, blk, slp)) rfl rfl (by decide) (fun w h => mT (fwX5 w h)) tyX5 tyX5_ok nmX5 rfl (List.mem_of_getElem? (i := 3) rfl) rfl (by decide +kernel) rfl rfl (Nat.le_of_ble_eq_true rfl) dX4_endsItem_62 rfl ?_
            refine kw_aload_n C 0 dX4_endsItem_65 rfl ?_
            refine kw_bipush (v := nI 32) C dX4_endsItem_66 (by decide) ?_
            refine kw_put (T := TX4) (ty := .char) C 0 2 (kText y a (nI n, nI 32, nI fg, ltr) ++ kWork y a2 (nI fg, nI (H + 1), nI N, nI D, p1, p2, p3, col, od, blk, slp)) rfl rfl (by decide) (fun w h => mT (fwX4 w h)) tyX4 tyX4_ok nmX4 rfl (mT wd_138) rfl (by decide +kernel) (by first | decide | exact bI_z _ | rfl) (by first | decide | exact bI_fit _ | rfl) (Nat.le_of_ble_eq_true rfl) dX4_endsItem_68 rfl ?_
            refine kw_iconst (v := nI 1) C dX4_endsItem_71 (by decide) ?_
            refine kR_z C ((32, fg, fg, (H + 1), N, D, p1, p2, p3, col, od, blk, slp)) dX4_endsItem_72 (by first | decide | exact bI_z _ | rfl) ?_ rfl
            simp_all [endC, bI] <;> rfl
          ·
            refine kw_iconst (v := nI 0) C dX4_endsItem_45 (by decide) ?_
            refine kR_z C ((it, fg, W, H, N, D, p1, p2, p3, col, od, blk, slp)) dX4_endsItem_46 (by first | decide | exact bI_z _ | rfl) ?_ rfl
            simp_all [endC, bI] <;> rfl
    ·
      refine kw_iconst (v := nI 0) C dX4_endsItem_16 (by decide) ?_
      refine kR_z C ((it, fg, W, H, N, D, p1, p2, p3, col, od, blk, slp)) dX4_endsItem_17 (by first | decide | exact bI_z _ | rfl) ?_ rfl
      simp_all [endC, bI] <;> rfl

set_option maxHeartbeats 4000000 in
set_option maxRecDepth 100000 in
theorem c_X4_takesCell (l : Launch) (G : va_G) (y : Nat → ClassId) (t : Nat) (a : Nat → Nat) (n : Nat) (it : Nat) (fg : Nat) (ltr : Nat → Int32) (a2 : Nat → Nat) (W : Nat) (H : Nat) (N : Nat) (D : Nat) (p1 : Int64) (p2 : Int64) (p3 : Int64) (col : Nat → Int32) (od : Nat → Int32) (blk : Nat → Int64) (slp : Nat → Int32) (q : Nat) (hok : CSok (it, fg, W, H, N, D, p1, p2, p3, col, od, blk, slp)) (hq : q < 8) (sz : Nat) : Met l yX4_takesCell (Cond.code yX4_takesCell cX4_takesCell 4 (some .boolean) :: TG) ({ frames := 2, cells := 0, slots := 0, locals := 49 }) (va_Pc [.ref (a 0), .int (nI q), .ref (a2 0)] (PR G y t (kText y a (nI n, nI it, nI fg, ltr) ++ kWork y a2 (nI W, nI H, nI N, nI D, p1, p2, p3, col, od, blk, slp)) sz)) (va_Qi (fun (r : Int32) (u : CSt) => r = (bI (cellC q (it, fg, W, H, N, D, p1, p2, p3, col, od, blk, slp)).isSome) ∧ u = (cellC q (it, fg, W, H, N, D, p1, p2, p3, col, od, blk, slp)).getD (it, fg, W, H, N, D, p1, p2, p3, col, od, blk, slp)) (fun (u : CSt) t => PO G (va_A (kText y a (nI n, nI it, nI fg, ltr) ++ kWork y a2 (nI W, nI H, nI N, nI D, p1, p2, p3, col, od, blk, slp)) sz) (kText y a (nI n, nI u.1, nI u.2.1, ltr) ++ kWork y a2 (nI u.2.2.1, nI u.2.2.2.1, nI u.2.2.2.2.1, nI u.2.2.2.2.2.1, u.2.2.2.2.2.2.1, u.2.2.2.2.2.2.2.1, u.2.2.2.2.2.2.2.2.1, u.2.2.2.2.2.2.2.2.2.1, u.2.2.2.2.2.2.2.2.2.2.1, u.2.2.2.2.2.2.2.2.2.2.2.1, u.2.2.2.2.2.2.2.2.2.2.2.2)) t) (va_A (kText y a (nI n, nI it, nI fg, ltr) ++ kWork y a2 (nI W, nI H, nI N, nI D, p1, p2, p3, col, od, blk, slp)) sz)) 0 0 (va_A (kText y a (nI n, nI it, nI fg, ltr) ++ kWork y a2 (nI W, nI H, nI N, nI D, p1, p2, p3, col, od, blk, slp)) sz) := by
  refine kMet (cc := cX4_takesCell) (maxL := 4) (ret := some .boolean) (Qc := fun A => va_Qi (fun (r : Int32) (u : CSt) => r = (bI (cellC q (it, fg, W, H, N, D, p1, p2, p3, col, od, blk, slp)).isSome) ∧ u = (cellC q (it, fg, W, H, N, D, p1, p2, p3, col, od, blk, slp)).getD (it, fg, W, H, N, D, p1, p2, p3, col, od, blk, slp)) (fun (u : CSt) t => PO G A (kText y a (nI n, nI u.1, nI u.2.1, ltr) ++ kWork y a2 (nI u.2.2.1, nI u.2.2.2.1, nI u.2.2.2.2.1, nI u.2.2.2.2.2.1, u.2.2.2.2.2.2.1, u.2.2.2.2.2.2.2.1, u.2.2.2.2.2.2.2.2.1, u.2.2.2.2.2.2.2.2.2.1, u.2.2.2.2.2.2.2.2.2.2.1, u.2.2.2.2.2.2.2.2.2.2.2.1, u.2.2.2.2.2.2.2.2.2.2.2.2)) t) A) (by decide) rfl (Nat.le_of_ble_eq_true rfl) (fun p e s m below meth c A hsz C hin => ?_)
  have hok' := hok; obtain ⟨k1, k2, k3, k4, k5, k6, k7, k8⟩ := hok'
  refine KW.loc (lv' := [(0, .ref (a 0)), (1, .int (nI q)), (2, .ref (a2 0))]) [0, 1, 2] rfl ?_
  refine kw_aload_n C 2 dX4_takesCell_0 rfl ?_
  refine kw_getN (v := .int (nI H)) (T := TX5) C 2 1 rfl rfl (by decide) (fun w h => mT (fwX5 w h)) rfl (List.mem_of_getElem? (i := 3) rfl) rfl dX4_takesCell_1 ?_
  have J16_1 : ∀ (_ : Unit), KW p l e ({ frames := 2, cells := 0, slots := 0, locals := 49 }) s m ([.ref (a 0), .int (nI q), .ref (a2 0)] : List Value).toArray below meth c 0 0 (MQ below (va_Qi (fun (r : Int32) (u : CSt) => r = (bI (cellC q (it, fg, W, H, N, D, p1, p2, p3, col, od, blk, slp)).isSome) ∧ u = (cellC q (it, fg, W, H, N, D, p1, p2, p3, col, od, blk, slp)).getD (it, fg, W, H, N, D, p1, p2, p3, col, od, blk, slp)) (fun (u : CSt) t => PO G A (kText y a (nI n, nI u.1, nI u.2.1, ltr) ++ kWork y a2 (nI u.2.2.1, nI u.2.2.2.1, nI u.2.2.2.2.1, nI u.2.2.2.2.2.1, u.2.2.2.2.2.2.1, u.2.2.2.2.2.2.2.1, u.2.2.2.2.2.2.2.2.1, u.2.2.2.2.2.2.2.2.2.1, u.2.2.2.2.2.2.2.2.2.2.1, u.2.2.2.2.2.2.2.2.2.2.2.1, u.2.2.2.2.2.2.2.2.2.2.2.2)) t) A) ([.ref (a 0), .int (nI q), .ref (a2 0)] : List Value).toArray s 0 0 A) G A 4 (kText y a (nI n, nI it, nI fg, ltr) ++ kWork y a2 (nI W, nI H, nI N, nI D, p1, p2, p3, col, od, blk, slp)) [(0, .ref (a 0)), (1, .int (nI q)), (2, .ref (a2 0))] 16 [.int (nI (if H = 0 then 6 else W))] := by
    intro _
    have hmx : (if H = 0 then 6 else W) ≤ 6 := by split <;> omega
    refine kw_istore_n C [(3, .int (nI (if H = 0 then 6 else W))), (0, .ref (a 0)), (1, .int (nI q)), (2, .ref (a2 0))] dX4_takesCell_16 rfl (by decide) rfl ?_
    refine kw_aload_n C 1 dX4_takesCell_17 rfl ?_
    refine kw_get (v := .int (nI fg)) (T := TX4) C 0 3 rfl rfl (by decide) (fun w h => mT (fwX4 w h)) rfl (mT wd_139) rfl dX4_takesCell_18 ?_
    refine kw_iload_n C 0 dX4_takesCell_21 rfl ?_
    refine kw_icmp_lt_N (tgt := 27) C (by omega) (by omega) dX4_takesCell_22 (by decide) (fun c_22 => ?_) (fun c_22 => ?_)
    ·
      refine kw_aload_n C 3 dX4_takesCell_27 rfl ?_
      refine kw_getN (v := .ref (a2 1)) (T := TX5) C 2 4 rfl rfl (by decide) (fun w h => mT (fwX5 w h)) rfl (List.mem_of_getElem? (i := 10) rfl) rfl dX4_takesCell_28 ?_
      refine kw_aload_n C 1 dX4_takesCell_31 rfl ?_
      refine kw_get (v := .int (nI fg)) (T := TX4) C 0 3 rfl rfl (by decide) (fun w h => mT (fwX4 w h)) rfl (mT wd_139) rfl dX4_takesCell_32 ?_
      refine kw_aload_n C 3 dX4_takesCell_35 rfl ?_
      refine kw_getN (v := .int (nI H)) (T := TX5) C 2 1 rfl rfl (by decide) (fun w h => mT (fwX5 w h)) rfl (List.mem_of_getElem? (i := 3) rfl) rfl dX4_takesCell_36 ?_
      refine kSN_l (As := [.int (nI fg), .int (nI H)]) (rest := [.ref (a2 1)]) (ws' := fun (u : Unit) => kText y a (nI n, nI it, nI fg, ltr) ++ kWork y a2 (nI W, nI H, nI N, nI D, p1, p2, p3, col, od, blk, slp)) C (c_X6_cellBit l G y t fg H) ⟨va_cnB 2 C.2.2.2.2.1 (goodTG cT wd_295) rfl rfl rfl (C.2.2.2.2.2.2.2.2.2.1.2 _ (List.mem_of_getElem? (i := 8) rfl)) (C.2.2.2.2.1 _ (mT wd_41)) (by decide +kernel) ⟨by decide, by decide⟩, C.2.2.2.2.1 _ (mT wd_294), trivial⟩ [] [0, 1, 2, 3, 4, 5, 6, 7] [0, 1, 2, 3, 4, 5, 6, 7] rfl (by decide) rfl (by decide) (by decide) (fun _ => rfl) (by decide) rfl (Nat.le_of_ble_eq_true rfl) ⟨by decide, by decide⟩ dX4_takesCell_39 (fun r u hr_2 => ?_)
      subst hr_2
      refine kw_iload_n C 2 dX4_takesCell_42 rfl ?_
      refine kw_iconst (v := nI 1) C dX4_takesCell_43 (by decide) ?_
      refine kV_v (As := [.long (cbL (8 * H + fg)), .int (nI q), .int (nI 1)]) (rest := []) (ws' := fun (u : Unit) => kText y a (nI n, nI it, nI fg, ltr) ++ kWork y a2 (nI W, nI H, nI N, nI D, prL p1 (cbL (8 * H + fg)) (q.testBit 0) true, prL p2 (cbL (8 * H + fg)) (q.testBit 1) true, prL p3 (cbL (8 * H + fg)) (q.testBit 2) true, col, od, blk, slp)) C (c_X2_print l G y t (a2 1) p1 p2 p3 (cbL (8 * H + fg)) q true (by first | assumption | omega | decide)) (cwV 3 C.2.2.2.2.1 (goodV cT wd_299 wd_296 wd_297 wd_298 wd_43) rfl rfl rfl (by decide +kernel) ⟨by decide, by decide⟩) [3] [0, 1, 2, 4, 5, 6, 7] [0, 1, 2, 7, 3, 4, 5, 6] rfl (by decide) rfl (by decide) (by decide) (fun _ => rfl) (by decide) 3 rfl rfl rfl (Nat.le_of_ble_eq_true rfl) ⟨by decide, by decide⟩ dX4_takesCell_44 (fun u hr_3 => ?_)
      refine kw_aload_n C 1 dX4_takesCell_47 rfl ?_
      refine kw_dup C dX4_takesCell_48 rfl ?_
      refine kw_get (v := .int (nI fg)) (T := TX4) C 0 3 rfl rfl (by decide) (fun w h => mT (fwX4 w h)) rfl (mT wd_139) rfl dX4_takesCell_49 ?_
      refine kw_iconst (v := nI 1) C dX4_takesCell_52 (by decide) ?_
      refine kw_iadd C dX4_takesCell_53 (kw_top (nI_add _ _) ?_)
      refine kw_put (T := TX4) (ty := .int) C 0 3 (kText y a (nI n, nI it, nI (fg + 1), ltr) ++ kWork y a2 (nI W, nI H, nI N, nI D, prL p1 (cbL (8 * H + fg)) (q.testBit 0) true, prL p2 (cbL (8 * H + fg)) (q.testBit 1) true, prL p3 (cbL (8 * H + fg)) (q.testBit 2) true, col, od, blk, slp)) rfl rfl (by decide) (fun w h => mT (fwX4 w h)) tyX4 tyX4_ok nmX4 rfl (mT wd_139) rfl (by decide +kernel) rfl rfl (Nat.le_of_ble_eq_true rfl) dX4_takesCell_54 rfl ?_
      refine kw_iconst (v := nI 1) C dX4_takesCell_57 (by decide) ?_
      refine kR_z C ((it, (fg + 1), W, H, N, D, prL p1 (cbL (8 * H + fg)) (q.testBit 0) true, prL p2 (cbL (8 * H + fg)) (q.testBit 1) true, prL p3 (cbL (8 * H + fg)) (q.testBit 2) true, col, od, blk, slp)) dX4_takesCell_58 (by first | decide | exact bI_z _ | rfl) ?_ rfl
      simp only [cellC]; rw [if_pos (by omega)]; exact ⟨rfl, rfl⟩
    ·
      refine kw_iconst (v := nI 0) C dX4_takesCell_25 (by decide) ?_
      refine kR_z C ((it, fg, W, H, N, D, p1, p2, p3, col, od, blk, slp)) dX4_takesCell_26 (by first | decide | exact bI_z _ | rfl) ?_ rfl
      simp only [cellC]; rw [if_neg (by omega)]; exact ⟨rfl, rfl⟩
  refine kw_if_ne_N (tgt := 12) C (by omega) dX4_takesCell_4 (by decide) (fun c_4 => ?_) (fun c_4 => ?_)
  ·
    refine kw_aload_n C 2 dX4_takesCell_12 rfl ?_
    refine kw_getN (v := .int (nI W)) (T := TX5) C 2 0 rfl rfl (by decide) (fun w h => mT (fwX5 w h)) rfl (List.mem_of_getElem? (i := 0) rfl) rfl dX4_takesCell_13 ?_
    refine KW.loc (lv' := [(0, .ref (a 0)), (1, .int (nI q)), (2, .ref (a2 0))]) [0, 1, 2] rfl ?_
    refine KW.ass (congrArg (fun zz => ([.int zz] : List Value)) (show (nI W) = (nI (if H = 0 then 6 else W)) from by simp [c_4])) ?_
    exact J16_1 ()
  ·
    refine kw_bipush (v := nI 6) C dX4_takesCell_7 (by decide) ?_
    refine kw_goto (tgt := 16) C dX4_takesCell_9 (by decide) ?_
    refine KW.loc (lv' := [(0, .ref (a 0)), (1, .int (nI q)), (2, .ref (a2 0))]) [0, 1, 2] rfl ?_
    refine KW.ass (congrArg (fun zz => ([.int zz] : List Value)) (show (nI 6) = (nI (if H = 0 then 6 else W)) from by simp [c_4])) ?_
    exact J16_1 ()

set_option maxHeartbeats 4000000 in
set_option maxRecDepth 100000 in
theorem c_X4_takesInk (l : Launch) (G : va_G) (y : Nat → ClassId) (t : Nat) (a : Nat → Nat) (n : Nat) (it : Nat) (fg : Nat) (ltr : Nat → Int32) (a2 : Nat → Nat) (W : Nat) (H : Nat) (N : Nat) (D : Nat) (p1 : Int64) (p2 : Int64) (p3 : Int64) (col : Nat → Int32) (od : Nat → Int32) (blk : Nat → Int64) (slp : Nat → Int32) (q : Nat) (hok : CSok (it, fg, W, H, N, D, p1, p2, p3, col, od, blk, slp)) (hq : q < 8) (hit : it = 32 ∨ it = 99 ∨ it = 100) (sz : Nat) : Met l yX4_takesInk (Cond.code yX4_takesInk cX4_takesInk 3 (some .boolean) :: TG) ({ frames := 1, cells := 0, slots := 0, locals := 22 }) (va_Pc [.ref (a 0), .int (nI q), .ref (a2 0)] (PR G y t (kText y a (nI n, nI it, nI fg, ltr) ++ kWork y a2 (nI W, nI H, nI N, nI D, p1, p2, p3, col, od, blk, slp)) sz)) (va_Qi (fun (r : Int32) (u : CSt) => r = (bI (inkC q (it, fg, W, H, N, D, p1, p2, p3, col, od, blk, slp)).isSome) ∧ u = (inkC q (it, fg, W, H, N, D, p1, p2, p3, col, od, blk, slp)).getD (it, fg, W, H, N, D, p1, p2, p3, col, od, blk, slp)) (fun (u : CSt) t => PO G (va_A (kText y a (nI n, nI it, nI fg, ltr) ++ kWork y a2 (nI W, nI H, nI N, nI D, p1, p2, p3, col, od, blk, slp)) sz) (kText y a (nI n, nI u.1, nI u.2.1, ltr) ++ kWork y a2 (nI u.2.2.1, nI u.2.2.2.1, nI u.2.2.2.2.1, nI u.2.2.2.2.2.1, u.2.2.2.2.2.2.1, u.2.2.2.2.2.2.2.1, u.2.2.2.2.2.2.2.2.1, u.2.2.2.2.2.2.2.2.2.1, u.2.2.2.2.2.2.2.2.2.2.1, u.2.2.2.2.2.2.2.2.2.2.2.1, u.2.2.2.2.2.2.2.2.2.2.2.2)) t) (va_A (kText y a (nI n, nI it, nI fg, ltr) ++ kWork y a2 (nI W, nI H, nI N, nI D, p1, p2, p3, col, od, blk, slp)) sz)) 0 0 (va_A (kText y a (nI n, nI it, nI fg, ltr) ++ kWork y a2 (nI W, nI H, nI N, nI D, p1, p2, p3, col, od, blk, slp)) sz) := by
  refine kMet (cc := cX4_takesInk) (maxL := 3) (ret := some .boolean) (Qc := fun A => va_Qi (fun (r : Int32) (u : CSt) => r = (bI (inkC q (it, fg, W, H, N, D, p1, p2, p3, col, od, blk, slp)).isSome) ∧ u = (inkC q (it, fg, W, H, N, D, p1, p2, p3, col, od, blk, slp)).getD (it, fg, W, H, N, D, p1, p2, p3, col, od, blk, slp)) (fun (u : CSt) t => PO G A (kText y a (nI n, nI u.1, nI u.2.1, ltr) ++ kWork y a2 (nI u.2.2.1, nI u.2.2.2.1, nI u.2.2.2.2.1, nI u.2.2.2.2.2.1, u.2.2.2.2.2.2.1, u.2.2.2.2.2.2.2.1, u.2.2.2.2.2.2.2.2.1, u.2.2.2.2.2.2.2.2.2.1, u.2.2.2.2.2.2.2.2.2.2.1, u.2.2.2.2.2.2.2.2.2.2.2.1, u.2.2.2.2.2.2.2.2.2.2.2.2)) t) A) (by decide) rfl (Nat.le_of_ble_eq_true rfl) (fun p e s m below meth c A hsz C hin => ?_)
  have hok' := hok; obtain ⟨k1, k2, k3, k4, k5, k6, k7, k8⟩ := hok'
  refine KW.loc (lv' := [(0, .ref (a 0)), (1, .int (nI q)), (2, .ref (a2 0))]) [0, 1, 2] rfl ?_
  refine kw_aload_n C 0 dX4_takesInk_0 rfl ?_
  refine kw_get (v := .int (nI it)) (T := TX4) C 0 2 rfl rfl (by decide) (fun w h => mT (fwX4 w h)) rfl (mT wd_138) rfl dX4_takesInk_1 ?_
  refine kw_bipush (v := nI 32) C dX4_takesInk_4 (by decide) ?_
  refine kw_icmp_eq_N (tgt := 20) C (by omega) (by omega) dX4_takesInk_6 (by decide) (fun c_6 => ?_) (fun c_6 => ?_)
  ·
    refine kw_iconst (v := nI 0) C dX4_takesInk_20 (by decide) ?_
    refine kR_z C ((it, fg, W, H, N, D, p1, p2, p3, col, od, blk, slp)) dX4_takesInk_21 (by first | decide | exact bI_z _ | rfl) ?_ rfl
    simp only [inkC]; rw [if_pos (by omega)]; exact ⟨rfl, rfl⟩
  ·
    refine kw_aload_n C 0 dX4_takesInk_9 rfl ?_
    refine kw_get (v := .int (nI fg)) (T := TX4) C 0 3 rfl rfl (by decide) (fun w h => mT (fwX4 w h)) rfl (mT wd_139) rfl dX4_takesInk_10 ?_
    refine kw_if_ne_N (tgt := 20) C (by omega) dX4_takesInk_13 (by decide) (fun c_13 => ?_) (fun c_13 => ?_)
    ·
      refine kw_iconst (v := nI 0) C dX4_takesInk_20 (by decide) ?_
      refine kR_z C ((it, fg, W, H, N, D, p1, p2, p3, col, od, blk, slp)) dX4_takesInk_21 (by first | decide | exact bI_z _ | rfl) ?_ rfl
      simp only [inkC]; rw [if_pos (by omega)]; exact ⟨rfl, rfl⟩
    ·
      refine kw_iload_n C 1 dX4_takesInk_16 rfl ?_
      refine kw_if_ne_N (tgt := 22) C (by omega) dX4_takesInk_17 (by decide) (fun c_17 => ?_) (fun c_17 => ?_)
      ·
        refine kw_aload_n C 2 dX4_takesInk_22 rfl ?_
        refine kw_iload_n C 1 dX4_takesInk_23 rfl ?_
        refine kw_aload_n C 0 dX4_takesInk_24 rfl ?_
        refine kw_get (v := .int (nI it)) (T := TX4) C 0 2 rfl rfl (by decide) (fun w h => mT (fwX4 w h)) rfl (mT wd_138) rfl dX4_takesInk_25 ?_
        refine kw_bipush (v := nI 100) C dX4_takesInk_28 (by decide) ?_
        have J38_1 : ∀ (_ : Unit), KW p l e ({ frames := 1, cells := 0, slots := 0, locals := 22 }) s m ([.ref (a 0), .int (nI q), .ref (a2 0)] : List Value).toArray below meth c 0 0 (MQ below (va_Qi (fun (r : Int32) (u : CSt) => r = (bI (inkC q (it, fg, W, H, N, D, p1, p2, p3, col, od, blk, slp)).isSome) ∧ u = (inkC q (it, fg, W, H, N, D, p1, p2, p3, col, od, blk, slp)).getD (it, fg, W, H, N, D, p1, p2, p3, col, od, blk, slp)) (fun (u : CSt) t => PO G A (kText y a (nI n, nI u.1, nI u.2.1, ltr) ++ kWork y a2 (nI u.2.2.1, nI u.2.2.2.1, nI u.2.2.2.2.1, nI u.2.2.2.2.2.1, u.2.2.2.2.2.2.1, u.2.2.2.2.2.2.2.1, u.2.2.2.2.2.2.2.2.1, u.2.2.2.2.2.2.2.2.2.1, u.2.2.2.2.2.2.2.2.2.2.1, u.2.2.2.2.2.2.2.2.2.2.2.1, u.2.2.2.2.2.2.2.2.2.2.2.2)) t) A) ([.ref (a 0), .int (nI q), .ref (a2 0)] : List Value).toArray s 0 0 A) G A 3 (kText y a (nI n, nI it, nI fg, ltr) ++ kWork y a2 (nI W, nI H, nI N, nI D, p1, p2, p3, col, od, blk, slp)) [(0, .ref (a 0)), (1, .int (nI q)), (2, .ref (a2 0))] 38 [.int (bI (decide (it = 100))), .int (nI q), .ref (a2 0)] := by
          intro _
          refine kV_v (As := [.int (nI q), .int (bI (decide (it = 100)))]) (rest := []) (ws' := fun (u : Unit) => kText y a (nI n, nI it, nI fg, ltr) ++ kWork y a2 (nI W, nI H, nI (N + 1), nI (if (decide (it = 100)) then D ||| 2 ^ N else D), p1, p2, p3, upd col N (nI q), upd od N (nI N), vp_updL blk N 0, upd slp N (nI 4))) C (c_X5_addInk l G y t a2 W H N D p1 p2 p3 col od blk slp q (decide (it = 100)) (by exact k7 (by omega) (by omega))) (cwV 2 C.2.2.2.2.1 (goodV cT wd_311 wd_308 wd_309 wd_310 wd_42) rfl rfl rfl (by decide +kernel) ⟨by decide, by decide⟩) [2, 3, 4, 5, 6, 7] [0, 1] [0, 1, 2, 3, 4, 5, 6, 7] rfl (by decide) rfl (by decide) (by decide) (fun _ => rfl) (by decide) 2 rfl rfl rfl (Nat.le_of_ble_eq_true rfl) ⟨by decide, by decide⟩ dX4_takesInk_38 (fun u hr_2 => ?_)
          refine kw_aload_n C 0 dX4_takesInk_41 rfl ?_
          refine kw_iconst (v := nI 1) C dX4_takesInk_42 (by decide) ?_
          refine kw_put (T := TX4) (ty := .int) C 0 3 (kText y a (nI n, nI it, nI 1, ltr) ++ kWork y a2 (nI W, nI H, nI (N + 1), nI (if (decide (it = 100)) then D ||| 2 ^ N else D), p1, p2, p3, upd col N (nI q), upd od N (nI N), vp_updL blk N 0, upd slp N (nI 4))) rfl rfl (by decide) (fun w h => mT (fwX4 w h)) tyX4 tyX4_ok nmX4 rfl (mT wd_139) rfl (by decide +kernel) rfl rfl (Nat.le_of_ble_eq_true rfl) dX4_takesInk_43 rfl ?_
          refine kw_iconst (v := nI 1) C dX4_takesInk_46 (by decide) ?_
          refine kR_z C ((it, 1, W, H, (N + 1), (if (decide (it = 100)) then D ||| 2 ^ N else D), p1, p2, p3, upd col N (nI q), upd od N (nI N), vp_updL blk N 0, upd slp N (nI 4))) dX4_takesInk_47 (by first | decide | exact bI_z _ | rfl) ?_ rfl
          simp only [inkC]; rw [if_neg (by omega)]; exact ⟨rfl, rfl⟩
        refine kw_icmp_ne_N (tgt := 37) C (by omega) (by omega) dX4_takesInk_30 (by decide) (fun c_30 => ?_) (fun c_30 => ?_)
        ·
          refine kw_iconst (v := nI 0) C dX4_takesInk_37 (by decide) ?_
          refine KW.loc (lv' := [(0, .ref (a 0)), (1, .int (nI q)), (2, .ref (a2 0))]) [0, 1, 2] rfl ?_
          refine KW.ass (congrArg (fun zz => ([.int zz, .int (nI q), .ref (a2 0)] : List Value)) (show (nI 0) = (bI (decide (it = 100))) from by simp [bI, c_30]; try rfl)) ?_
          exact J38_1 ()
        ·
          refine kw_iconst (v := nI 1) C dX4_takesInk_33 (by decide) ?_
          refine kw_goto (tgt := 38) C dX4_takesInk_34 (by decide) ?_
          refine KW.loc (lv' := [(0, .ref (a 0)), (1, .int (nI q)), (2, .ref (a2 0))]) [0, 1, 2] rfl ?_
          refine KW.ass (congrArg (fun zz => ([.int zz, .int (nI q), .ref (a2 0)] : List Value)) (show (nI 1) = (bI (decide (it = 100))) from by simp [bI, c_30]; try rfl)) ?_
          exact J38_1 ()
      ·
        refine kw_iconst (v := nI 0) C dX4_takesInk_20 (by decide) ?_
        refine kR_z C ((it, fg, W, H, N, D, p1, p2, p3, col, od, blk, slp)) dX4_takesInk_21 (by first | decide | exact bI_z _ | rfl) ?_ rfl
        simp only [inkC]; rw [if_pos (by omega)]; exact ⟨rfl, rfl⟩

set_option maxHeartbeats 4000000 in
set_option maxRecDepth 100000 in
theorem c_X4_beginsItem (l : Launch) (G : va_G) (y : Nat → ClassId) (t : Nat) (a : Nat → Nat) (n : Nat) (it : Nat) (fg : Nat) (ltr : Nat → Int32) (a2 : Nat → Nat) (W : Nat) (H : Nat) (N : Nat) (D : Nat) (p1 : Int64) (p2 : Int64) (p3 : Int64) (col : Nat → Int32) (od : Nat → Int32) (blk : Nat → Int64) (slp : Nat → Int32) (ch : Nat) (hok : CSok (it, fg, W, H, N, D, p1, p2, p3, col, od, blk, slp)) (hch : ch < 256) (sz : Nat) : Met l yX4_beginsItem (Cond.code yX4_beginsItem cX4_beginsItem 5 (some .boolean) :: TG) ({ frames := 0, cells := 0, slots := 0, locals := 0 }) (va_Pc [.ref (a 0), .int (nI ch), .ref (a2 0)] (PR G y t (kText y a (nI n, nI it, nI fg, ltr) ++ kWork y a2 (nI W, nI H, nI N, nI D, p1, p2, p3, col, od, blk, slp)) sz)) (va_Qi (fun (r : Int32) (u : CSt) => r = (bI (begC ch (it, fg, W, H, N, D, p1, p2, p3, col, od, blk, slp)).isSome) ∧ u = (begC ch (it, fg, W, H, N, D, p1, p2, p3, col, od, blk, slp)).getD (it, fg, W, H, N, D, p1, p2, p3, col, od, blk, slp)) (fun (u : CSt) t => PO G (va_A (kText y a (nI n, nI it, nI fg, ltr) ++ kWork y a2 (nI W, nI H, nI N, nI D, p1, p2, p3, col, od, blk, slp)) sz) (kText y a (nI n, nI u.1, nI u.2.1, ltr) ++ kWork y a2 (nI u.2.2.1, nI u.2.2.2.1, nI u.2.2.2.2.1, nI u.2.2.2.2.2.1, u.2.2.2.2.2.2.1, u.2.2.2.2.2.2.2.1, u.2.2.2.2.2.2.2.2.1, u.2.2.2.2.2.2.2.2.2.1, u.2.2.2.2.2.2.2.2.2.2.1, u.2.2.2.2.2.2.2.2.2.2.2.1, u.2.2.2.2.2.2.2.2.2.2.2.2)) t) (va_A (kText y a (nI n, nI it, nI fg, ltr) ++ kWork y a2 (nI W, nI H, nI N, nI D, p1, p2, p3, col, od, blk, slp)) sz)) 0 0 (va_A (kText y a (nI n, nI it, nI fg, ltr) ++ kWork y a2 (nI W, nI H, nI N, nI D, p1, p2, p3, col, od, blk, slp)) sz) := by
  refine kMet (cc := cX4_beginsItem) (maxL := 5) (ret := some .boolean) (Qc := fun A => va_Qi (fun (r : Int32) (u : CSt) => r = (bI (begC ch (it, fg, W, H, N, D, p1, p2, p3, col, od, blk, slp)).isSome) ∧ u = (begC ch (it, fg, W, H, N, D, p1, p2, p3, col, od, blk, slp)).getD (it, fg, W, H, N, D, p1, p2, p3, col, od, blk, slp)) (fun (u : CSt) t => PO G A (kText y a (nI n, nI u.1, nI u.2.1, ltr) ++ kWork y a2 (nI u.2.2.1, nI u.2.2.2.1, nI u.2.2.2.2.1, nI u.2.2.2.2.2.1, u.2.2.2.2.2.2.1, u.2.2.2.2.2.2.2.1, u.2.2.2.2.2.2.2.2.1, u.2.2.2.2.2.2.2.2.2.1, u.2.2.2.2.2.2.2.2.2.2.1, u.2.2.2.2.2.2.2.2.2.2.2.1, u.2.2.2.2.2.2.2.2.2.2.2.2)) t) A) (by decide) rfl (Nat.le_of_ble_eq_true rfl) (fun p e s m below meth c A hsz C hin => ?_)
  have hok' := hok; obtain ⟨k1, k2, k3, k4, k5, k6, k7, k8⟩ := hok'
  refine KW.loc (lv' := [(0, .ref (a 0)), (1, .int (nI ch)), (2, .ref (a2 0))]) [0, 1, 2] rfl ?_
  refine kw_iload_n C 1 dX4_beginsItem_0 rfl ?_
  refine kw_bipush (v := nI 99) C dX4_beginsItem_1 (by decide) ?_
  have J17_1 : ∀ (_ : Unit), KW p l e ({ frames := 0, cells := 0, slots := 0, locals := 0 }) s m ([.ref (a 0), .int (nI ch), .ref (a2 0)] : List Value).toArray below meth c 0 0 (MQ below (va_Qi (fun (r : Int32) (u : CSt) => r = (bI (begC ch (it, fg, W, H, N, D, p1, p2, p3, col, od, blk, slp)).isSome) ∧ u = (begC ch (it, fg, W, H, N, D, p1, p2, p3, col, od, blk, slp)).getD (it, fg, W, H, N, D, p1, p2, p3, col, od, blk, slp)) (fun (u : CSt) t => PO G A (kText y a (nI n, nI u.1, nI u.2.1, ltr) ++ kWork y a2 (nI u.2.2.1, nI u.2.2.2.1, nI u.2.2.2.2.1, nI u.2.2.2.2.2.1, u.2.2.2.2.2.2.1, u.2.2.2.2.2.2.2.1, u.2.2.2.2.2.2.2.2.1, u.2.2.2.2.2.2.2.2.2.1, u.2.2.2.2.2.2.2.2.2.2.1, u.2.2.2.2.2.2.2.2.2.2.2.1, u.2.2.2.2.2.2.2.2.2.2.2.2)) t) A) ([.ref (a 0), .int (nI ch), .ref (a2 0)] : List Value).toArray s 0 0 A) G A 5 (kText y a (nI n, nI it, nI fg, ltr) ++ kWork y a2 (nI W, nI H, nI N, nI D, p1, p2, p3, col, od, blk, slp)) [(0, .ref (a 0)), (1, .int (nI ch)), (2, .ref (a2 0))] 17 [.int (bI (decide (ch = 99 ∨ ch = 100)))] := by
    intro _
    refine kw_istore_n C [(3, .int (bI (decide (ch = 99 ∨ ch = 100)))), (0, .ref (a 0)), (1, .int (nI ch)), (2, .ref (a2 0))] dX4_beginsItem_17 rfl (by decide) rfl ?_
    refine kw_iload_n C 0 dX4_beginsItem_18 rfl ?_
    have J51_2 : ∀ (_ : Unit), KW p l e ({ frames := 0, cells := 0, slots := 0, locals := 0 }) s m ([.ref (a 0), .int (nI ch), .ref (a2 0)] : List Value).toArray below meth c 0 0 (MQ below (va_Qi (fun (r : Int32) (u : CSt) => r = (bI (begC ch (it, fg, W, H, N, D, p1, p2, p3, col, od, blk, slp)).isSome) ∧ u = (begC ch (it, fg, W, H, N, D, p1, p2, p3, col, od, blk, slp)).getD (it, fg, W, H, N, D, p1, p2, p3, col, od, blk, slp)) (fun (u : CSt) t => PO G A (kText y a (nI n, nI u.1, nI u.2.1, ltr) ++ kWork y a2 (nI u.2.2.1, nI u.2.2.2.1, nI u.2.2.2.2.1, nI u.2.2.2.2.2.1, u.2.2.2.2.2.2.1, u.2.2.2.2.2.2.2.1, u.2.2.2.2.2.2.2.2.1, u.2.2.2.2.2.2.2.2.2.1, u.2.2.2.2.2.2.2.2.2.2.1, u.2.2.2.2.2.2.2.2.2.2.2.1, u.2.2.2.2.2.2.2.2.2.2.2.2)) t) A) ([.ref (a 0), .int (nI ch), .ref (a2 0)] : List Value).toArray s 0 0 A) G A 5 (kText y a (nI n, nI it, nI fg, ltr) ++ kWork y a2 (nI W, nI H, nI N, nI D, p1, p2, p3, col, od, blk, slp)) [(3, .int (bI (decide (ch = 99 ∨ ch = 100)))), (0, .ref (a 0)), (1, .int (nI ch)), (2, .ref (a2 0))] 51 [.int (bI (decide (((ch = 99 ∨ ch = 100) ∧ N < 6) ∨ (ch = 114 ∧ H < 6))))] := by
      intro _
      refine kw_istore C [(4, .int (bI (decide (((ch = 99 ∨ ch = 100) ∧ N < 6) ∨ (ch = 114 ∧ H < 6))))), (3, .int (bI (decide (ch = 99 ∨ ch = 100)))), (0, .ref (a 0)), (1, .int (nI ch)), (2, .ref (a2 0))] dX4_beginsItem_51 (by decide) rfl ?_
      refine kw_aload_n C 2 dX4_beginsItem_53 rfl ?_
      refine kw_get (v := .int (nI it)) (T := TX4) C 0 2 rfl rfl (by decide) (fun w h => mT (fwX4 w h)) rfl (mT wd_138) rfl dX4_beginsItem_54 ?_
      refine kw_bipush (v := nI 32) C dX4_beginsItem_57 (by decide) ?_
      refine kw_icmp_ne_N (tgt := 67) C (by omega) (by omega) dX4_beginsItem_59 (by decide) (fun c_59 => ?_) (fun c_59 => ?_)
      ·
        refine kw_iconst (v := nI 0) C dX4_beginsItem_67 (by decide) ?_
        refine kR_z C ((it, fg, W, H, N, D, p1, p2, p3, col, od, blk, slp)) dX4_beginsItem_68 (by first | decide | exact bI_z _ | rfl) ?_ rfl
        simp only [begC]; rw [if_neg (by omega)]; exact ⟨rfl, rfl⟩
      ·
        refine kw_iload C 0 dX4_beginsItem_62 rfl ?_
        refine kw_if_ne_D (tgt := 69) C dX4_beginsItem_64 (by decide) (fun c_64 => ?_) (fun c_64 => ?_)
        ·
          refine kw_aload_n C 2 dX4_beginsItem_69 rfl ?_
          refine kw_iload_n C 3 dX4_beginsItem_70 rfl ?_
          refine kw_put (T := TX4) (ty := .char) C 0 2 (kText y a (nI n, nI ch, nI fg, ltr) ++ kWork y a2 (nI W, nI H, nI N, nI D, p1, p2, p3, col, od, blk, slp)) rfl rfl (by decide) (fun w h => mT (fwX4 w h)) tyX4 tyX4_ok nmX4 rfl (mT wd_138) rfl (by decide +kernel) (by exact chr_nr ch hch) (by exact chr_fit ch hch) (Nat.le_of_ble_eq_true rfl) dX4_beginsItem_71 rfl ?_
          refine kw_aload_n C 2 dX4_beginsItem_74 rfl ?_
          refine kw_iconst (v := nI 0) C dX4_beginsItem_75 (by decide) ?_
          refine kw_put (T := TX4) (ty := .int) C 0 3 (kText y a (nI n, nI ch, nI 0, ltr) ++ kWork y a2 (nI W, nI H, nI N, nI D, p1, p2, p3, col, od, blk, slp)) rfl rfl (by decide) (fun w h => mT (fwX4 w h)) tyX4 tyX4_ok nmX4 rfl (mT wd_139) rfl (by decide +kernel) rfl rfl (Nat.le_of_ble_eq_true rfl) dX4_beginsItem_76 rfl ?_
          refine kw_iconst (v := nI 1) C dX4_beginsItem_79 (by decide) ?_
          refine kR_z C ((ch, 0, W, H, N, D, p1, p2, p3, col, od, blk, slp)) dX4_beginsItem_80 (by first | decide | exact bI_z _ | rfl) ?_ rfl
          simp only [begC]; rw [if_pos (by omega)]; exact ⟨rfl, rfl⟩
        ·
          refine kw_iconst (v := nI 0) C dX4_beginsItem_67 (by decide) ?_
          refine kR_z C ((it, fg, W, H, N, D, p1, p2, p3, col, od, blk, slp)) dX4_beginsItem_68 (by first | decide | exact bI_z _ | rfl) ?_ rfl
          simp only [begC]; rw [if_neg (by omega)]; exact ⟨rfl, rfl⟩
    refine kw_if_eq_D (tgt := 31) C dX4_beginsItem_19 (by decide) (fun c_19 => ?_) (fun c_19 => ?_)
    ·
      refine kw_iload_n C 2 dX4_beginsItem_31 rfl ?_
      refine kw_bipush (v := nI 114) C dX4_beginsItem_32 (by decide) ?_
      refine kw_icmp_ne_N (tgt := 50) C (by omega) (by omega) dX4_beginsItem_34 (by decide) (fun c_34 => ?_) (fun c_34 => ?_)
      ·
        refine kw_iconst (v := nI 0) C dX4_beginsItem_50 (by decide) ?_
        refine KW.loc (lv' := [(3, .int (bI (decide (ch = 99 ∨ ch = 100)))), (0, .ref (a 0)), (1, .int (nI ch)), (2, .ref (a2 0))]) [0, 1, 2, 3] rfl ?_
        refine KW.ass (congrArg (fun zz => ([.int zz] : List Value)) (show (nI 0) = (bI (decide (((ch = 99 ∨ ch = 100) ∧ N < 6) ∨ (ch = 114 ∧ H < 6)))) from by first | exact (bI_t (by omega)).symm | exact (bI_f (by omega)).symm)) ?_
        exact J51_2 ()
      ·
        refine kw_aload_n C 3 dX4_beginsItem_37 rfl ?_
        refine kw_getN (v := .int (nI H)) (T := TX5) C 2 1 rfl rfl (by decide) (fun w h => mT (fwX5 w h)) rfl (List.mem_of_getElem? (i := 3) rfl) rfl dX4_beginsItem_38 ?_
        refine kw_bipush (v := nI 6) C dX4_beginsItem_41 (by decide) ?_
        refine kw_icmp_ge_N (tgt := 50) C (by omega) (by omega) dX4_beginsItem_43 (by decide) (fun c_43 => ?_) (fun c_43 => ?_)
        ·
          refine kw_iconst (v := nI 0) C dX4_beginsItem_50 (by decide) ?_
          refine KW.loc (lv' := [(3, .int (bI (decide (ch = 99 ∨ ch = 100)))), (0, .ref (a 0)), (1, .int (nI ch)), (2, .ref (a2 0))]) [0, 1, 2, 3] rfl ?_
          refine KW.ass (congrArg (fun zz => ([.int zz] : List Value)) (show (nI 0) = (bI (decide (((ch = 99 ∨ ch = 100) ∧ N < 6) ∨ (ch = 114 ∧ H < 6)))) from by first | exact (bI_t (by omega)).symm | exact (bI_f (by omega)).symm)) ?_
          exact J51_2 ()
        ·
          refine kw_iconst (v := nI 1) C dX4_beginsItem_46 (by decide) ?_
          refine kw_goto (tgt := 51) C dX4_beginsItem_47 (by decide) ?_
          refine KW.loc (lv' := [(3, .int (bI (decide (ch = 99 ∨ ch = 100)))), (0, .ref (a 0)), (1, .int (nI ch)), (2, .ref (a2 0))]) [0, 1, 2, 3] rfl ?_
          refine KW.ass (congrArg (fun zz => ([.int zz] : List Value)) (show (nI 1) = (bI (decide (((ch = 99 ∨ ch = 100) ∧ N < 6) ∨ (ch = 114 ∧ H < 6)))) from by first | exact (bI_t (by omega)).symm | exact (bI_f (by omega)).symm)) ?_
          exact J51_2 ()
    ·
      refine kw_aload_n C 3 dX4_beginsItem_22 rfl ?_
      refine kw_getN (v := .int (nI N)) (T := TX5) C 2 2 rfl rfl (by decide) (fun w h => mT (fwX5 w h)) rfl (List.mem_of_getElem? (i := 9) rfl) rfl dX4_beginsItem_23 ?_
      refine kw_bipush (v := nI 6) C dX4_beginsItem_26 (by decide) ?_
      refine kw_icmp_lt_N (tgt := 46) C (by omega) (by omega) dX4_beginsItem_28 (by decide) (fun c_28 => ?_) (fun c_28 => ?_)
      ·
        refine kw_iconst (v := nI 1) C dX4_beginsItem_46 (by decide) ?_
        refine kw_goto (tgt := 51) C dX4_beginsItem_47 (by decide) ?_
        refine KW.loc (lv' := [(3, .int (bI (decide (ch = 99 ∨ ch = 100)))), (0, .ref (a 0)), (1, .int (nI ch)), (2, .ref (a2 0))]) [0, 1, 2, 3] rfl ?_
        refine KW.ass (congrArg (fun zz => ([.int zz] : List Value)) (show (nI 1) = (bI (decide (((ch = 99 ∨ ch = 100) ∧ N < 6) ∨ (ch = 114 ∧ H < 6)))) from by first | exact (bI_t (by omega)).symm | exact (bI_f (by omega)).symm)) ?_
        exact J51_2 ()
      ·
        refine kw_iload_n C 2 dX4_beginsItem_31 rfl ?_
        refine kw_bipush (v := nI 114) C dX4_beginsItem_32 (by decide) ?_
        refine kw_icmp_ne_N (tgt := 50) C (by omega) (by omega) dX4_beginsItem_34 (by decide) (fun c_34 => ?_) (fun c_34 => ?_)
        ·
          refine kw_iconst (v := nI 0) C dX4_beginsItem_50 (by decide) ?_
          refine KW.loc (lv' := [(3, .int (bI (decide (ch = 99 ∨ ch = 100)))), (0, .ref (a 0)), (1, .int (nI ch)), (2, .ref (a2 0))]) [0, 1, 2, 3] rfl ?_
          refine KW.ass (congrArg (fun zz => ([.int zz] : List Value)) (show (nI 0) = (bI (decide (((ch = 99 ∨ ch = 100) ∧ N < 6) ∨ (ch = 114 ∧ H < 6)))) from by first | exact (bI_t (by omega)).symm | exact (bI_f (by omega)).symm)) ?_
          exact J51_2 ()
        ·
          refine kw_aload_n C 3 dX4_beginsItem_37 rfl ?_
          refine kw_getN (v := .int (nI H)) (T := TX5) C 2 1 rfl rfl (by decide) (fun w h => mT (fwX5 w h)) rfl (List.mem_of_getElem? (i := 3) rfl) rfl dX4_beginsItem_38 ?_
          refine kw_bipush (v := nI 6) C dX4_beginsItem_41 (by decide) ?_
          refine kw_icmp_ge_N (tgt := 50) C (by omega) (by omega) dX4_beginsItem_43 (by decide) (fun c_43 => ?_) (fun c_43 => ?_)
          ·
            refine kw_iconst (v := nI 0) C dX4_beginsItem_50 (by decide) ?_
            refine KW.loc (lv' := [(3, .int (bI (decide (ch = 99 ∨ ch = 100)))), (0, .ref (a 0)), (1, .int (nI ch)), (2, .ref (a2 0))]) [0, 1, 2, 3] rfl ?_
            refine KW.ass (congrArg (fun zz => ([.int zz] : List Value)) (show (nI 0) = (bI (decide (((ch = 99 ∨ ch = 100) ∧ N < 6) ∨ (ch = 114 ∧ H < 6)))) from by first | exact (bI_t (by omega)).symm | exact (bI_f (by omega)).symm)) ?_
            exact J51_2 ()
          ·
            refine kw_iconst (v := nI 1) C dX4_beginsItem_46 (by decide) ?_
            refine kw_goto (tgt := 51) C dX4_beginsItem_47 (by decide) ?_
            refine KW.loc (lv' := [(3, .int (bI (decide (ch = 99 ∨ ch = 100)))), (0, .ref (a 0)), (1, .int (nI ch)), (2, .ref (a2 0))]) [0, 1, 2, 3] rfl ?_
            refine KW.ass (congrArg (fun zz => ([.int zz] : List Value)) (show (nI 1) = (bI (decide (((ch = 99 ∨ ch = 100) ∧ N < 6) ∨ (ch = 114 ∧ H < 6)))) from by first | exact (bI_t (by omega)).symm | exact (bI_f (by omega)).symm)) ?_
            exact J51_2 ()
  refine kw_icmp_eq_N (tgt := 12) C (by omega) (by omega) dX4_beginsItem_3 (by decide) (fun c_3 => ?_) (fun c_3 => ?_)
  ·
    refine kw_iconst (v := nI 1) C dX4_beginsItem_12 (by decide) ?_
    refine kw_goto (tgt := 17) C dX4_beginsItem_13 (by decide) ?_
    refine KW.loc (lv' := [(0, .ref (a 0)), (1, .int (nI ch)), (2, .ref (a2 0))]) [0, 1, 2] rfl ?_
    refine KW.ass (congrArg (fun zz => ([.int zz] : List Value)) (show (nI 1) = (bI (decide (ch = 99 ∨ ch = 100))) from by first | exact (bI_t (by omega)).symm | exact (bI_f (by omega)).symm)) ?_
    exact J17_1 ()
  ·
    refine kw_iload_n C 1 dX4_beginsItem_6 rfl ?_
    refine kw_bipush (v := nI 100) C dX4_beginsItem_7 (by decide) ?_
    refine kw_icmp_ne_N (tgt := 16) C (by omega) (by omega) dX4_beginsItem_9 (by decide) (fun c_9 => ?_) (fun c_9 => ?_)
    ·
      refine kw_iconst (v := nI 0) C dX4_beginsItem_16 (by decide) ?_
      refine KW.loc (lv' := [(0, .ref (a 0)), (1, .int (nI ch)), (2, .ref (a2 0))]) [0, 1, 2] rfl ?_
      refine KW.ass (congrArg (fun zz => ([.int zz] : List Value)) (show (nI 0) = (bI (decide (ch = 99 ∨ ch = 100))) from by first | exact (bI_t (by omega)).symm | exact (bI_f (by omega)).symm)) ?_
      exact J17_1 ()
    ·
      refine kw_iconst (v := nI 1) C dX4_beginsItem_12 (by decide) ?_
      refine kw_goto (tgt := 17) C dX4_beginsItem_13 (by decide) ?_
      refine KW.loc (lv' := [(0, .ref (a 0)), (1, .int (nI ch)), (2, .ref (a2 0))]) [0, 1, 2] rfl ?_
      refine KW.ass (congrArg (fun zz => ([.int zz] : List Value)) (show (nI 1) = (bI (decide (ch = 99 ∨ ch = 100))) from by first | exact (bI_t (by omega)).symm | exact (bI_f (by omega)).symm)) ?_
      exact J17_1 ()

set_option maxHeartbeats 4000000 in
set_option maxRecDepth 100000 in
theorem c_X4_takes (l : Launch) (G : va_G) (y : Nat → ClassId) (t : Nat) (a : Nat → Nat) (n : Nat) (it : Nat) (fg : Nat) (ltr : Nat → Int32) (a2 : Nat → Nat) (W : Nat) (H : Nat) (N : Nat) (D : Nat) (p1 : Int64) (p2 : Int64) (p3 : Int64) (col : Nat → Int32) (od : Nat → Int32) (blk : Nat → Int64) (slp : Nat → Int32) (ch : Nat) (hok : CSok (it, fg, W, H, N, D, p1, p2, p3, col, od, blk, slp)) (hci : CSit (it, fg, W, H, N, D, p1, p2, p3, col, od, blk, slp)) (hch : ch < 256) (sz : Nat) : Met l yX4_takes (Cond.code yX4_takes cX4_takes 3 (some .boolean) :: TG) ({ frames := 3, cells := 0, slots := 0, locals := 72 }) (va_Pc [.ref (a 0), .int (nI ch), .ref (a2 0)] (PR G y t (kText y a (nI n, nI it, nI fg, ltr) ++ kWork y a2 (nI W, nI H, nI N, nI D, p1, p2, p3, col, od, blk, slp)) sz)) (va_Qi (fun (r : Int32) (u : CSt) => r = (bI (tkC ch (it, fg, W, H, N, D, p1, p2, p3, col, od, blk, slp)).isSome) ∧ u = (tkC ch (it, fg, W, H, N, D, p1, p2, p3, col, od, blk, slp)).getD (it, fg, W, H, N, D, p1, p2, p3, col, od, blk, slp)) (fun (u : CSt) t => PO G (va_A (kText y a (nI n, nI it, nI fg, ltr) ++ kWork y a2 (nI W, nI H, nI N, nI D, p1, p2, p3, col, od, blk, slp)) sz) (kText y a (nI n, nI u.1, nI u.2.1, ltr) ++ kWork y a2 (nI u.2.2.1, nI u.2.2.2.1, nI u.2.2.2.2.1, nI u.2.2.2.2.2.1, u.2.2.2.2.2.2.1, u.2.2.2.2.2.2.2.1, u.2.2.2.2.2.2.2.2.1, u.2.2.2.2.2.2.2.2.2.1, u.2.2.2.2.2.2.2.2.2.2.1, u.2.2.2.2.2.2.2.2.2.2.2.1, u.2.2.2.2.2.2.2.2.2.2.2.2)) t) (va_A (kText y a (nI n, nI it, nI fg, ltr) ++ kWork y a2 (nI W, nI H, nI N, nI D, p1, p2, p3, col, od, blk, slp)) sz)) 0 0 (va_A (kText y a (nI n, nI it, nI fg, ltr) ++ kWork y a2 (nI W, nI H, nI N, nI D, p1, p2, p3, col, od, blk, slp)) sz) := by
  refine kMet (cc := cX4_takes) (maxL := 3) (ret := some .boolean) (Qc := fun A => va_Qi (fun (r : Int32) (u : CSt) => r = (bI (tkC ch (it, fg, W, H, N, D, p1, p2, p3, col, od, blk, slp)).isSome) ∧ u = (tkC ch (it, fg, W, H, N, D, p1, p2, p3, col, od, blk, slp)).getD (it, fg, W, H, N, D, p1, p2, p3, col, od, blk, slp)) (fun (u : CSt) t => PO G A (kText y a (nI n, nI u.1, nI u.2.1, ltr) ++ kWork y a2 (nI u.2.2.1, nI u.2.2.2.1, nI u.2.2.2.2.1, nI u.2.2.2.2.2.1, u.2.2.2.2.2.2.1, u.2.2.2.2.2.2.2.1, u.2.2.2.2.2.2.2.2.1, u.2.2.2.2.2.2.2.2.2.1, u.2.2.2.2.2.2.2.2.2.2.1, u.2.2.2.2.2.2.2.2.2.2.2.1, u.2.2.2.2.2.2.2.2.2.2.2.2)) t) A) (by decide) rfl (Nat.le_of_ble_eq_true rfl) (fun p e s m below meth c A hsz C hin => ?_)
  have hok' := hok; obtain ⟨k1, k2, k3, k4, k5, k6, k7, k8⟩ := hok'; have hci2 : it = 32 ∨ it = 99 ∨ it = 100 ∨ it = 114 := hci
  refine KW.loc (lv' := [(0, .ref (a 0)), (1, .int (nI ch)), (2, .ref (a2 0))]) [0, 1, 2] rfl ?_
  refine kw_iload_n C 1 dX4_takes_0 rfl ?_
  refine kw_bipush (v := nI 59) C dX4_takes_1 (by decide) ?_
  refine kw_icmp_ne_N (tgt := 12) C (by omega) (by omega) dX4_takes_3 (by decide) (fun c_3 => ?_) (fun c_3 => ?_)
  ·
    refine kw_iload_n C 1 dX4_takes_12 rfl ?_
    refine kw_bipush (v := nI 48) C dX4_takes_13 (by decide) ?_
    refine kw_icmp_lt_N (tgt := 55) C (by omega) (by omega) dX4_takes_15 (by decide) (fun c_15 => ?_) (fun c_15 => ?_)
    ·
      refine kw_aload_n C 0 dX4_takes_55 rfl ?_
      refine kw_iload_n C 1 dX4_takes_56 rfl ?_
      refine kw_aload_n C 2 dX4_takes_57 rfl ?_
      refine kV_i (As := [.int (nI ch), .ref (a2 0)]) (rest := []) (ws' := fun (u : CSt) => kText y a (nI n, nI u.1, nI u.2.1, ltr) ++ kWork y a2 (nI u.2.2.1, nI u.2.2.2.1, nI u.2.2.2.2.1, nI u.2.2.2.2.2.1, u.2.2.2.2.2.2.1, u.2.2.2.2.2.2.2.1, u.2.2.2.2.2.2.2.2.1, u.2.2.2.2.2.2.2.2.2.1, u.2.2.2.2.2.2.2.2.2.2.1, u.2.2.2.2.2.2.2.2.2.2.2.1, u.2.2.2.2.2.2.2.2.2.2.2.2)) C (c_X4_beginsItem l G y t a n it fg ltr a2 W H N D p1 p2 p3 col od blk slp ch (by first | assumption | omega | decide) (by first | assumption | omega | decide)) (cwV 2 C.2.2.2.2.1 (goodV cT wd_315 wd_312 wd_314 wd_4 wd_44) rfl rfl rfl (by decide +kernel) ⟨by decide, by decide⟩) [0, 1, 2, 3, 4, 5, 6, 7] [] [0, 1, 2, 3, 4, 5, 6, 7] rfl (by decide) rfl (by decide) (by decide) (fun _ => rfl) (by decide) 0 rfl rfl rfl (Nat.le_of_ble_eq_true rfl) ⟨by decide, by decide⟩ dX4_takes_58 (fun r u hr_2 => ?_)
      obtain ⟨u1_1, ehr_2⟩ : ∃ z, z = u := ⟨u, rfl⟩
      subst ehr_2
      obtain ⟨hq, hq1⟩ := hr_2
      subst hq
      refine kR_z C (u1_1) dX4_takes_61 (by first | decide | exact bI_z _ | rfl) ?_ rfl
      have e : tkC ch (it, fg, W, H, N, D, p1, p2, p3, col, od, blk, slp) = begC ch (it, fg, W, H, N, D, p1, p2, p3, col, od, blk, slp) := by unfold tkC; rw [if_neg c_3, if_neg (by omega)]
      rw [e]; exact ⟨rfl, hq1⟩
    ·
      refine kw_iload_n C 1 dX4_takes_18 rfl ?_
      refine kw_bipush (v := nI 55) C dX4_takes_19 (by decide) ?_
      refine kw_icmp_gt_N (tgt := 55) C (by omega) (by omega) dX4_takes_21 (by decide) (fun c_21 => ?_) (fun c_21 => ?_)
      ·
        refine kw_aload_n C 0 dX4_takes_55 rfl ?_
        refine kw_iload_n C 1 dX4_takes_56 rfl ?_
        refine kw_aload_n C 2 dX4_takes_57 rfl ?_
        refine kV_i (As := [.int (nI ch), .ref (a2 0)]) (rest := []) (ws' := fun (u : CSt) => kText y a (nI n, nI u.1, nI u.2.1, ltr) ++ kWork y a2 (nI u.2.2.1, nI u.2.2.2.1, nI u.2.2.2.2.1, nI u.2.2.2.2.2.1, u.2.2.2.2.2.2.1, u.2.2.2.2.2.2.2.1, u.2.2.2.2.2.2.2.2.1, u.2.2.2.2.2.2.2.2.2.1, u.2.2.2.2.2.2.2.2.2.2.1, u.2.2.2.2.2.2.2.2.2.2.2.1, u.2.2.2.2.2.2.2.2.2.2.2.2)) C (c_X4_beginsItem l G y t a n it fg ltr a2 W H N D p1 p2 p3 col od blk slp ch (by first | assumption | omega | decide) (by first | assumption | omega | decide)) (cwV 2 C.2.2.2.2.1 (goodV cT wd_315 wd_312 wd_314 wd_4 wd_44) rfl rfl rfl (by decide +kernel) ⟨by decide, by decide⟩) [0, 1, 2, 3, 4, 5, 6, 7] [] [0, 1, 2, 3, 4, 5, 6, 7] rfl (by decide) rfl (by decide) (by decide) (fun _ => rfl) (by decide) 0 rfl rfl rfl (Nat.le_of_ble_eq_true rfl) ⟨by decide, by decide⟩ dX4_takes_58 (fun r u hr_4 => ?_)
        obtain ⟨u1_3, ehr_4⟩ : ∃ z, z = u := ⟨u, rfl⟩
        subst ehr_4
        obtain ⟨hq, hq1⟩ := hr_4
        subst hq
        refine kR_z C (u1_3) dX4_takes_61 (by first | decide | exact bI_z _ | rfl) ?_ rfl
        have e : tkC ch (it, fg, W, H, N, D, p1, p2, p3, col, od, blk, slp) = begC ch (it, fg, W, H, N, D, p1, p2, p3, col, od, blk, slp) := by unfold tkC; rw [if_neg c_3, if_neg (by omega)]
        rw [e]; exact ⟨rfl, hq1⟩
      ·
        refine kw_aload_n C 0 dX4_takes_24 rfl ?_
        refine kw_get (v := .int (nI it)) (T := TX4) C 0 2 rfl rfl (by decide) (fun w h => mT (fwX4 w h)) rfl (mT wd_138) rfl dX4_takes_25 ?_
        refine kw_bipush (v := nI 114) C dX4_takes_28 (by decide) ?_
        refine kw_icmp_ne_N (tgt := 45) C (by omega) (by omega) dX4_takes_30 (by decide) (fun c_30 => ?_) (fun c_30 => ?_)
        ·
          refine kw_aload_n C 0 dX4_takes_45 rfl ?_
          refine kw_iload_n C 1 dX4_takes_46 rfl ?_
          refine kw_bipush (v := nI 48) C dX4_takes_47 (by decide) ?_
          refine kw_isub C dX4_takes_49 (kw_top (pk_sub (by omega)) ?_)
          refine kw_aload_n C 2 dX4_takes_50 rfl ?_
          refine kV_i (As := [.int (nI (ch - 48)), .ref (a2 0)]) (rest := []) (ws' := fun (u : CSt) => kText y a (nI n, nI u.1, nI u.2.1, ltr) ++ kWork y a2 (nI u.2.2.1, nI u.2.2.2.1, nI u.2.2.2.2.1, nI u.2.2.2.2.2.1, u.2.2.2.2.2.2.1, u.2.2.2.2.2.2.2.1, u.2.2.2.2.2.2.2.2.1, u.2.2.2.2.2.2.2.2.2.1, u.2.2.2.2.2.2.2.2.2.2.1, u.2.2.2.2.2.2.2.2.2.2.2.1, u.2.2.2.2.2.2.2.2.2.2.2.2)) C (c_X4_takesInk l G y t a n it fg ltr a2 W H N D p1 p2 p3 col od blk slp (ch - 48) (by first | assumption | omega | decide) (by first | assumption | omega | decide) (by first | assumption | omega | decide)) (cwV 2 C.2.2.2.2.1 (goodV cT wd_307 wd_304 wd_306 wd_3 wd_44) rfl rfl rfl (by decide +kernel) ⟨by decide, by decide⟩) [0, 1, 2, 3, 4, 5, 6, 7] [] [0, 1, 2, 3, 4, 5, 6, 7] rfl (by decide) rfl (by decide) (by decide) (fun _ => rfl) (by decide) 0 rfl rfl rfl (Nat.le_of_ble_eq_true rfl) ⟨by decide, by decide⟩ dX4_takes_51 (fun r u hr_6 => ?_)
          obtain ⟨u1_5, ehr_6⟩ : ∃ z, z = u := ⟨u, rfl⟩
          subst ehr_6
          obtain ⟨hq, hq1⟩ := hr_6
          subst hq
          refine kR_z C (u1_5) dX4_takes_54 (by first | decide | exact bI_z _ | rfl) ?_ rfl
          first
          | (have e : tkC ch (it, fg, W, H, N, D, p1, p2, p3, col, od, blk, slp) = cellC (ch - 48) (it, fg, W, H, N, D, p1, p2, p3, col, od, blk, slp) := by (unfold tkC; rw [if_neg c_3, if_pos (by omega), if_pos (show it = 114 by omega)])
             rw [e]; exact ⟨rfl, hq1⟩)
          | (have e : tkC ch (it, fg, W, H, N, D, p1, p2, p3, col, od, blk, slp) = inkC (ch - 48) (it, fg, W, H, N, D, p1, p2, p3, col, od, blk, slp) := by (unfold tkC; rw [if_neg c_3, if_pos (by omega), if_neg (show ¬ it = 114 by omega)])
             rw [e]; exact ⟨rfl, hq1⟩)
        ·
          refine kw_aload_n C 0 dX4_takes_33 rfl ?_
          refine kw_iload_n C 1 dX4_takes_34 rfl ?_
          refine kw_bipush (v := nI 48) C dX4_takes_35 (by decide) ?_
          refine kw_isub C dX4_takes_37 (kw_top (pk_sub (by omega)) ?_)
          refine kw_aload_n C 2 dX4_takes_38 rfl ?_
          refine kV_i (As := [.int (nI (ch - 48)), .ref (a2 0)]) (rest := []) (ws' := fun (u : CSt) => kText y a (nI n, nI u.1, nI u.2.1, ltr) ++ kWork y a2 (nI u.2.2.1, nI u.2.2.2.1, nI u.2.2.2.2.1, nI u.2.2.2.2.2.1, u.2.2.2.2.2.2.1, u.2.2.2.2.2.2.2.1, u.2.2.2.2.2.2.2.2.1, u.2.2.2.2.2.2.2.2.2.1, u.2.2.2.2.2.2.2.2.2.2.1, u.2.2.2.2.2.2.2.2.2.2.2.1, u.2.2.2.2.2.2.2.2.2.2.2.2)) C (c_X4_takesCell l G y t a n it fg ltr a2 W H N D p1 p2 p3 col od blk slp (ch - 48) (by first | assumption | omega | decide) (by first | assumption | omega | decide)) (cwV 2 C.2.2.2.2.1 (goodV cT wd_292 wd_289 wd_291 wd_2 wd_44) rfl rfl rfl (by decide +kernel) ⟨by decide, by decide⟩) [0, 1, 2, 3, 4, 5, 6, 7] [] [0, 1, 2, 3, 4, 5, 6, 7] rfl (by decide) rfl (by decide) (by decide) (fun _ => rfl) (by decide) 0 rfl rfl rfl (Nat.le_of_ble_eq_true rfl) ⟨by decide, by decide⟩ dX4_takes_39 (fun r u hr_8 => ?_)
          obtain ⟨u1_7, ehr_8⟩ : ∃ z, z = u := ⟨u, rfl⟩
          subst ehr_8
          obtain ⟨hq, hq1⟩ := hr_8
          subst hq
          refine kw_goto (tgt := 54) C dX4_takes_42 (by decide) ?_
          refine kR_z C (u1_7) dX4_takes_54 (by first | decide | exact bI_z _ | rfl) ?_ rfl
          first
          | (have e : tkC ch (it, fg, W, H, N, D, p1, p2, p3, col, od, blk, slp) = cellC (ch - 48) (it, fg, W, H, N, D, p1, p2, p3, col, od, blk, slp) := by (unfold tkC; rw [if_neg c_3, if_pos (by omega), if_pos (show it = 114 by omega)])
             rw [e]; exact ⟨rfl, hq1⟩)
          | (have e : tkC ch (it, fg, W, H, N, D, p1, p2, p3, col, od, blk, slp) = inkC (ch - 48) (it, fg, W, H, N, D, p1, p2, p3, col, od, blk, slp) := by (unfold tkC; rw [if_neg c_3, if_pos (by omega), if_neg (show ¬ it = 114 by omega)])
             rw [e]; exact ⟨rfl, hq1⟩)
  ·
    refine kw_aload_n C 0 dX4_takes_6 rfl ?_
    refine kw_aload_n C 2 dX4_takes_7 rfl ?_
    refine kV_i (As := [.ref (a2 0)]) (rest := []) (ws' := fun (u : CSt) => kText y a (nI n, nI u.1, nI u.2.1, ltr) ++ kWork y a2 (nI u.2.2.1, nI u.2.2.2.1, nI u.2.2.2.2.1, nI u.2.2.2.2.2.1, u.2.2.2.2.2.2.1, u.2.2.2.2.2.2.2.1, u.2.2.2.2.2.2.2.2.1, u.2.2.2.2.2.2.2.2.2.1, u.2.2.2.2.2.2.2.2.2.2.1, u.2.2.2.2.2.2.2.2.2.2.2.1, u.2.2.2.2.2.2.2.2.2.2.2.2)) C (c_X4_endsItem l G y t a n it fg ltr a2 W H N D p1 p2 p3 col od blk slp (by first | assumption | omega | decide)) (cwV 1 C.2.2.2.2.1 (goodV cT wd_288 wd_285 wd_287 wd_1 wd_44) rfl rfl rfl (by decide +kernel) ⟨by decide, by decide⟩) [0, 1, 2, 3, 4, 5, 6, 7] [] [0, 1, 2, 3, 4, 5, 6, 7] rfl (by decide) rfl (by decide) (by decide) (fun _ => rfl) (by decide) 0 rfl rfl rfl (Nat.le_of_ble_eq_true rfl) ⟨by decide, by decide⟩ dX4_takes_8 (fun r u hr_10 => ?_)
    obtain ⟨u1_9, ehr_10⟩ : ∃ z, z = u := ⟨u, rfl⟩
    subst ehr_10
    obtain ⟨hq, hq1⟩ := hr_10
    subst hq
    refine kR_z C (u1_9) dX4_takes_11 (by first | decide | exact bI_z _ | rfl) ?_ rfl
    have e : tkC ch (it, fg, W, H, N, D, p1, p2, p3, col, od, blk, slp) = endC (it, fg, W, H, N, D, p1, p2, p3, col, od, blk, slp) := by unfold tkC; rw [if_pos c_3]
    rw [e]; exact ⟨rfl, hq1⟩

set_option maxHeartbeats 4000000 in
set_option maxRecDepth 100000 in
theorem c_X4_readInto (l : Launch) (G : va_G) (y : Nat → ClassId) (t : Nat) (a : Nat → Nat) (n : Nat) (it : Int32) (fg : Int32) (ltr : Nat → Int32) (a2 : Nat → Nat) (W : Int32) (H : Int32) (N : Int32) (D : Int32) (p1 : Int64) (p2 : Int64) (p3 : Int64) (col : Nat → Int32) (od : Nat → Int32) (blk : Nat → Int64) (slp : Nat → Int32) (lt : Nat → Nat) (hn : n ≤ 100) (hlt : ∀ i, i < n → ltr i = nI (lt i) ∧ lt i < 256) (sz : Nat) : Met l yX4_readInto (Cond.code yX4_readInto cX4_readInto 3 (some .int) :: TG) ({ frames := 4, cells := 0, slots := 0, locals := 94 }) (va_Pc [.ref (a 0), .ref (a2 0)] (PR G y t (kText y a (nI n, it, fg, ltr) ++ kWork y a2 (W, H, N, D, p1, p2, p3, col, od, blk, slp)) sz)) (va_Qi (fun (r : Int32) (u : CSt) => r = (rdC n (scan lt n 0 (32, 0, 0, 0, 0, 0, 0, 0, 0, col, od, blk, slp))) ∧ u = (scan lt n 0 (32, 0, 0, 0, 0, 0, 0, 0, 0, col, od, blk, slp)).2) (fun (u : CSt) t => PO G (va_A (kText y a (nI n, it, fg, ltr) ++ kWork y a2 (W, H, N, D, p1, p2, p3, col, od, blk, slp)) sz) (kText y a (nI n, nI u.1, nI u.2.1, ltr) ++ kWork y a2 (nI u.2.2.1, nI u.2.2.2.1, nI u.2.2.2.2.1, nI u.2.2.2.2.2.1, u.2.2.2.2.2.2.1, u.2.2.2.2.2.2.2.1, u.2.2.2.2.2.2.2.2.1, u.2.2.2.2.2.2.2.2.2.1, u.2.2.2.2.2.2.2.2.2.2.1, u.2.2.2.2.2.2.2.2.2.2.2.1, u.2.2.2.2.2.2.2.2.2.2.2.2)) t) (va_A (kText y a (nI n, it, fg, ltr) ++ kWork y a2 (W, H, N, D, p1, p2, p3, col, od, blk, slp)) sz)) 0 0 (va_A (kText y a (nI n, it, fg, ltr) ++ kWork y a2 (W, H, N, D, p1, p2, p3, col, od, blk, slp)) sz) := by
  refine kMet (cc := cX4_readInto) (maxL := 3) (ret := some .int) (Qc := fun A => va_Qi (fun (r : Int32) (u : CSt) => r = (rdC n (scan lt n 0 (32, 0, 0, 0, 0, 0, 0, 0, 0, col, od, blk, slp))) ∧ u = (scan lt n 0 (32, 0, 0, 0, 0, 0, 0, 0, 0, col, od, blk, slp)).2) (fun (u : CSt) t => PO G A (kText y a (nI n, nI u.1, nI u.2.1, ltr) ++ kWork y a2 (nI u.2.2.1, nI u.2.2.2.1, nI u.2.2.2.2.1, nI u.2.2.2.2.2.1, u.2.2.2.2.2.2.1, u.2.2.2.2.2.2.2.1, u.2.2.2.2.2.2.2.2.1, u.2.2.2.2.2.2.2.2.2.1, u.2.2.2.2.2.2.2.2.2.2.1, u.2.2.2.2.2.2.2.2.2.2.2.1, u.2.2.2.2.2.2.2.2.2.2.2.2)) t) A) (by decide) rfl (Nat.le_of_ble_eq_true rfl) (fun p e s m below meth c A hsz C hin => ?_)
  refine KW.loc (lv' := [(0, .ref (a 0)), (1, .ref (a2 0))]) [0, 1] rfl ?_
  refine kw_aload_n C 1 dX4_readInto_0 rfl ?_
  refine kV_v (As := []) (rest := []) (ws' := fun (u : Unit) => kText y a (nI n, it, fg, ltr) ++ kWork y a2 (nI 0, nI 0, nI 0, nI 0, 0, 0, 0, col, od, blk, slp)) C (c_X5_empty l G y t a2 W H N D p1 p2 p3 col od blk slp) (cwV 0 C.2.2.2.2.1 (goodV cT wd_276 wd_273 wd_274 wd_275 wd_42) rfl rfl rfl (by decide +kernel) ⟨by decide, by decide⟩) [2, 3, 4, 5, 6, 7] [0, 1] [0, 1, 2, 3, 4, 5, 6, 7] rfl (by decide) rfl (by decide) (by decide) (fun _ => rfl) (by decide) 2 rfl rfl rfl (Nat.le_of_ble_eq_true rfl) ⟨by decide, by decide⟩ dX4_readInto_1 (fun u hr_1 => ?_)
  refine kw_aload_n C 0 dX4_readInto_4 rfl ?_
  refine kw_bipush (v := nI 32) C dX4_readInto_5 (by decide) ?_
  refine kw_put (T := TX4) (ty := .char) C 0 2 (kText y a (nI n, nI 32, fg, ltr) ++ kWork y a2 (nI 0, nI 0, nI 0, nI 0, 0, 0, 0, col, od, blk, slp)) rfl rfl (by decide) (fun w h => mT (fwX4 w h)) tyX4 tyX4_ok nmX4 rfl (mT wd_138) rfl (by decide +kernel) (by first | decide | exact bI_z _ | rfl) (by first | decide | exact bI_fit _ | rfl) (Nat.le_of_ble_eq_true rfl) dX4_readInto_7 rfl ?_
  refine kw_aload_n C 0 dX4_readInto_10 rfl ?_
  refine kw_iconst (v := nI 0) C dX4_readInto_11 (by decide) ?_
  refine kw_put (T := TX4) (ty := .int) C 0 3 (kText y a (nI n, nI 32, nI 0, ltr) ++ kWork y a2 (nI 0, nI 0, nI 0, nI 0, 0, 0, 0, col, od, blk, slp)) rfl rfl (by decide) (fun w h => mT (fwX4 w h)) tyX4 tyX4_ok nmX4 rfl (mT wd_139) rfl (by decide +kernel) rfl rfl (Nat.le_of_ble_eq_true rfl) dX4_readInto_12 rfl ?_
  refine kw_iconst (v := nI 0) C dX4_readInto_15 (by decide) ?_
  refine kw_istore_n C [(2, .int (nI 0)), (0, .ref (a 0)), (1, .ref (a2 0))] dX4_readInto_16 rfl (by decide) rfl ?_
  have L17_2 : ∀ (nn : Nat) (v1 : CSt) (i : Nat) (hi : i ≤ n) (hsc : scan lt (n - i) i v1 = scan lt n 0 (32, 0, 0, 0, 0, 0, 0, 0, 0, col, od, blk, slp)) (hok : CSok v1) (hci : CSit v1) (hms : n - i < nn), KW p l e ({ frames := 4, cells := 0, slots := 0, locals := 94 }) s m ([.ref (a 0), .ref (a2 0)] : List Value).toArray below meth c 0 0 (MQ below (va_Qi (fun (r : Int32) (u : CSt) => r = (rdC n (scan lt n 0 (32, 0, 0, 0, 0, 0, 0, 0, 0, col, od, blk, slp))) ∧ u = (scan lt n 0 (32, 0, 0, 0, 0, 0, 0, 0, 0, col, od, blk, slp)).2) (fun (u : CSt) t => PO G A (kText y a (nI n, nI u.1, nI u.2.1, ltr) ++ kWork y a2 (nI u.2.2.1, nI u.2.2.2.1, nI u.2.2.2.2.1, nI u.2.2.2.2.2.1, u.2.2.2.2.2.2.1, u.2.2.2.2.2.2.2.1, u.2.2.2.2.2.2.2.2.1, u.2.2.2.2.2.2.2.2.2.1, u.2.2.2.2.2.2.2.2.2.2.1, u.2.2.2.2.2.2.2.2.2.2.2.1, u.2.2.2.2.2.2.2.2.2.2.2.2)) t) A) ([.ref (a 0), .ref (a2 0)] : List Value).toArray s 0 0 A) G A 3 (kText y a (nI n, nI v1.1, nI v1.2.1, ltr) ++ kWork y a2 (nI v1.2.2.1, nI v1.2.2.2.1, nI v1.2.2.2.2.1, nI v1.2.2.2.2.2.1, v1.2.2.2.2.2.2.1, v1.2.2.2.2.2.2.2.1, v1.2.2.2.2.2.2.2.2.1, v1.2.2.2.2.2.2.2.2.2.1, v1.2.2.2.2.2.2.2.2.2.2.1, v1.2.2.2.2.2.2.2.2.2.2.2.1, v1.2.2.2.2.2.2.2.2.2.2.2.2)) [(2, .int (nI i)), (0, .ref (a 0)), (1, .ref (a2 0))] 17 [] := by
    intro nn
    induction nn with
    | zero => intro v1 i hi hsc hok hci hms; exact absurd hms (Nat.not_lt_zero _)
    | succ nn ih_17 =>
      intro v1 i hi hsc hok hci hms
      refine kw_iload_n C 0 dX4_readInto_17 rfl ?_
      refine kw_aload_n C 1 dX4_readInto_18 rfl ?_
      refine kw_get (v := .int (nI n)) (T := TX4) C 0 1 rfl rfl (by decide) (fun w h => mT (fwX4 w h)) rfl (mT wd_136) rfl dX4_readInto_19 ?_
      refine kw_icmp_ge_N (tgt := 58) C (by omega) (by omega) dX4_readInto_22 (by decide) (fun c_22 => ?_) (fun c_22 => ?_)
      ·
        refine kw_aload_n C 1 dX4_readInto_58 rfl ?_
        refine kw_get (v := .int (nI v1.1)) (T := TX4) C 0 2 rfl rfl (by decide) (fun w h => mT (fwX4 w h)) rfl (mT wd_138) rfl dX4_readInto_59 ?_
        refine kw_bipush (v := nI 32) C dX4_readInto_62 (by decide) ?_
        refine kw_icmp_ne_N (tgt := 79) C (by first | omega | exact Nat.lt_trans hok.1 (by decide)) (by first | omega | exact Nat.lt_trans hok.1 (by decide)) dX4_readInto_64 (by decide) (fun c_64 => ?_) (fun c_64 => ?_)
        ·
          refine kw_aload_n C 1 dX4_readInto_79 rfl ?_
          refine kw_get (v := .int (nI n)) (T := TX4) C 0 1 rfl rfl (by decide) (fun w h => mT (fwX4 w h)) rfl (mT wd_136) rfl dX4_readInto_80 ?_
          refine kR_i C (v1) dX4_readInto_83 ?_ rfl
          have e0 : scan lt n 0 (32, 0, 0, 0, 0, 0, 0, 0, 0, col, od, blk, slp) = (none, v1) := by rw [← hsc, show n - i = 0 from by omega]; rfl
          rw [e0]
          refine ⟨?_, rfl⟩
          show _ = if v1.1 = 32 ∧ 0 < v1.2.2.2.1 then (-9 : Int32) else nI n
          first | rw [if_pos (And.intro c_64 c_71)] | rw [if_neg (fun h => c_64 h.1)] | rw [if_neg (by omega)]
        ·
          refine kw_aload_n C 2 dX4_readInto_67 rfl ?_
          refine kw_getN (v := .int (nI v1.2.2.2.1)) (T := TX5) C 2 1 rfl rfl (by decide) (fun w h => mT (fwX5 w h)) rfl (List.mem_of_getElem? (i := 3) rfl) rfl dX4_readInto_68 ?_
          refine kw_if_le_N (tgt := 79) C (by exact Nat.lt_of_le_of_lt hok.2.2.2.1 (by decide)) dX4_readInto_71 (by decide) (fun c_71 => ?_) (fun c_71 => ?_)
          ·
            refine kw_aload_n C 1 dX4_readInto_79 rfl ?_
            refine kw_get (v := .int (nI n)) (T := TX4) C 0 1 rfl rfl (by decide) (fun w h => mT (fwX4 w h)) rfl (mT wd_136) rfl dX4_readInto_80 ?_
            refine kR_i C (v1) dX4_readInto_83 ?_ rfl
            have e0 : scan lt n 0 (32, 0, 0, 0, 0, 0, 0, 0, 0, col, od, blk, slp) = (none, v1) := by rw [← hsc, show n - i = 0 from by omega]; rfl
            rw [e0]
            refine ⟨?_, rfl⟩
            show _ = if v1.1 = 32 ∧ 0 < v1.2.2.2.1 then (-9 : Int32) else nI n
            first | rw [if_pos (And.intro c_64 c_71)] | rw [if_neg (fun h => c_64 h.1)] | rw [if_neg (by omega)]
          ·
            refine kw_bipush (v := (-9)) C dX4_readInto_74 (by decide) ?_
            refine kw_goto (tgt := 83) C dX4_readInto_76 (by decide) ?_
            refine kR_i C (v1) dX4_readInto_83 ?_ rfl
            have e0 : scan lt n 0 (32, 0, 0, 0, 0, 0, 0, 0, 0, col, od, blk, slp) = (none, v1) := by rw [← hsc, show n - i = 0 from by omega]; rfl
            rw [e0]
            refine ⟨?_, rfl⟩
            show _ = if v1.1 = 32 ∧ 0 < v1.2.2.2.1 then (-9 : Int32) else nI n
            first | rw [if_pos (And.intro c_64 c_71)] | rw [if_neg (fun h => c_64 h.1)] | rw [if_neg (by omega)]
      ·
        have hne : n - i = (n - (i + 1)) + 1 := by omega
        refine kw_aload_n C 1 dX4_readInto_25 rfl ?_
        refine kw_get (v := .ref (a 1)) (T := TX4) C 0 0 rfl rfl (by decide) (fun w h => mT (fwX4 w h)) rfl (mT wd_135) rfl dX4_readInto_26 ?_
        refine kw_iload_n C 0 dX4_readInto_29 rfl ?_
        refine kw_cald (f := ltr) C 1 rfl (by omega) (by decide) dX4_readInto_30 ?_
        refine kw_top (show (ltr i) = (nI (lt i)) from by exact (hlt i (by omega)).1) ?_
        have hl2 := (hlt i (by omega)).2
        refine kw_bipush (v := nI 32) C dX4_readInto_31 (by decide) ?_
        refine kw_icmp_eq_N (tgt := 52) C (by omega) (by omega) dX4_readInto_33 (by decide) (fun c_33 => ?_) (fun c_33 => ?_)
        ·
          have hsc2 : scan lt (n - (i + 1)) (i + 1) v1 = scan lt n 0 (32, 0, 0, 0, 0, 0, 0, 0, 0, col, od, blk, slp) := by rw [← hsc, hne]; simp only [scan]; rw [if_pos c_33]
          refine kw_iinc (v := nI (i + 1)) C [(2, .int (nI (i + 1))), (0, .ref (a 0)), (1, .ref (a2 0))] 0 dX4_readInto_52 rfl (nI_1 _) (by decide) rfl ?_
          refine kw_goto (tgt := 17) C dX4_readInto_55 (by decide) ?_
          refine KW.loc (lv' := [(2, .int (nI (i + 1))), (0, .ref (a 0)), (1, .ref (a2 0))]) [0, 1, 2] rfl ?_
          exact ih_17 v1 (i + 1) (by first | assumption | omega | (simp; done)) (by first | assumption | exact hsc2) (by first | exact hok2 | assumption) (by first | exact hci2 | assumption) (by omega)
        ·
          refine kw_aload_n C 1 dX4_readInto_36 rfl ?_
          refine kw_aload_n C 1 dX4_readInto_37 rfl ?_
          refine kw_get (v := .ref (a 1)) (T := TX4) C 0 0 rfl rfl (by decide) (fun w h => mT (fwX4 w h)) rfl (mT wd_135) rfl dX4_readInto_38 ?_
          refine kw_iload_n C 0 dX4_readInto_41 rfl ?_
          refine kw_cald (f := ltr) C 1 rfl (by omega) (by decide) dX4_readInto_42 ?_
          refine kw_top (show (ltr i) = (nI (lt i)) from by exact (hlt i (by omega)).1) ?_
          refine kw_aload_n C 2 dX4_readInto_43 rfl ?_
          refine kV_i (As := [.int (nI (lt i)), .ref (a2 0)]) (rest := []) (ws' := fun (u : CSt) => kText y a (nI n, nI u.1, nI u.2.1, ltr) ++ kWork y a2 (nI u.2.2.1, nI u.2.2.2.1, nI u.2.2.2.2.1, nI u.2.2.2.2.2.1, u.2.2.2.2.2.2.1, u.2.2.2.2.2.2.2.1, u.2.2.2.2.2.2.2.2.1, u.2.2.2.2.2.2.2.2.2.1, u.2.2.2.2.2.2.2.2.2.2.1, u.2.2.2.2.2.2.2.2.2.2.2.1, u.2.2.2.2.2.2.2.2.2.2.2.2)) C (c_X4_takes l G y t a n v1.1 v1.2.1 ltr a2 v1.2.2.1 v1.2.2.2.1 v1.2.2.2.2.1 v1.2.2.2.2.2.1 v1.2.2.2.2.2.2.1 v1.2.2.2.2.2.2.2.1 v1.2.2.2.2.2.2.2.2.1 v1.2.2.2.2.2.2.2.2.2.1 v1.2.2.2.2.2.2.2.2.2.2.1 v1.2.2.2.2.2.2.2.2.2.2.2.1 v1.2.2.2.2.2.2.2.2.2.2.2.2 (lt i) (by exact hok) (by exact hci) (by first | assumption | omega | decide)) (cwV 2 C.2.2.2.2.1 (goodV cT wd_284 wd_281 wd_283 wd_0 wd_44) rfl rfl rfl (by decide +kernel) ⟨by decide, by decide⟩) [0, 1, 2, 3, 4, 5, 6, 7] [] [0, 1, 2, 3, 4, 5, 6, 7] rfl (by decide) rfl (by decide) (by decide) (fun _ => rfl) (by decide) 0 rfl rfl rfl (Nat.le_of_ble_eq_true rfl) ⟨by decide, by decide⟩ dX4_readInto_44 (fun r u hr_3 => ?_)
          obtain ⟨u9, ehr_3⟩ : ∃ z, z = u := ⟨u, rfl⟩
          subst ehr_3
          obtain ⟨hq, hq1⟩ := hr_3
          subst hq
          refine kw_if_ne_B (tgt := 52) C dX4_readInto_47 (by decide) (fun c_47 => ?_) (fun c_47 => ?_)
          ·
            obtain ⟨w1, e1⟩ := Option.isSome_iff_exists.mp c_47
            have e1' : tkC (lt i) v1 = some w1 := e1
            have e9 : u9 = w1 := by rw [hq1, e1]; rfl
            subst e9
            have hsc2 : scan lt (n - (i + 1)) (i + 1) u9 = scan lt n 0 (32, 0, 0, 0, 0, 0, 0, 0, 0, col, od, blk, slp) := by rw [← hsc, hne]; simp only [scan]; rw [if_neg c_33, e1']
            have h2 := CSok_tk hl2 hok hci e1'
            have hok2 := h2.1
            have hci2 := h2.2
            refine kw_iinc (v := nI (i + 1)) C [(2, .int (nI (i + 1))), (0, .ref (a 0)), (1, .ref (a2 0))] 0 dX4_readInto_52 rfl (nI_1 _) (by decide) rfl ?_
            refine kw_goto (tgt := 17) C dX4_readInto_55 (by decide) ?_
            refine KW.loc (lv' := [(2, .int (nI (i + 1))), (0, .ref (a 0)), (1, .ref (a2 0))]) [0, 1, 2] rfl ?_
            exact ih_17 u9 (i + 1) (by first | assumption | omega | (simp; done)) (by first | assumption | exact hsc2) (by first | exact hok2 | assumption) (by first | exact hci2 | assumption) (by omega)
          ·
            refine kw_iload_n C 0 dX4_readInto_50 rfl ?_
            refine kR_i C (u9) dX4_readInto_51 ?_ rfl
            have e1 : tkC (lt i) v1 = none := by
              cases h : tkC (lt i) v1 with
              | none => rfl
              | some w => exact absurd (show (tkC (lt i) v1).isSome = false from c_47) (by rw [h]; simp)
            have e2 : scan lt (n - i) i v1 = (some i, v1) := by rw [hne]; simp only [scan]; rw [if_neg c_33, e1]
            rw [← hsc, e2]
            exact ⟨rfl, by rw [hq1]; show (tkC (lt i) v1).getD v1 = v1; rw [e1]; rfl⟩
  refine KW.loc (lv' := [(2, .int (nI 0)), (0, .ref (a 0)), (1, .ref (a2 0))]) [0, 1, 2] rfl ?_
  refine KW.asw (congrArg (fun zz => (kText y a (nI n, zz, nI 0, ltr) ++ kWork y a2 (nI 0, nI 0, nI 0, nI 0, 0, 0, 0, col, od, blk, slp) : va_W)) (show (nI 32) = (nI (32, 0, 0, 0, 0, 0, 0, 0, 0, col, od, blk, slp).1) from by rfl)) ?_
  refine KW.asw (congrArg (fun zz => (kText y a (nI n, nI (32, 0, 0, 0, 0, 0, 0, 0, 0, col, od, blk, slp).1, zz, ltr) ++ kWork y a2 (nI 0, nI 0, nI 0, nI 0, 0, 0, 0, col, od, blk, slp) : va_W)) (show (nI 0) = (nI (32, 0, 0, 0, 0, 0, 0, 0, 0, col, od, blk, slp).2.1) from by rfl)) ?_
  refine KW.asw (congrArg (fun zz => (kText y a (nI n, nI (32, 0, 0, 0, 0, 0, 0, 0, 0, col, od, blk, slp).1, nI (32, 0, 0, 0, 0, 0, 0, 0, 0, col, od, blk, slp).2.1, ltr) ++ kWork y a2 (zz, nI 0, nI 0, nI 0, 0, 0, 0, col, od, blk, slp) : va_W)) (show (nI 0) = (nI (32, 0, 0, 0, 0, 0, 0, 0, 0, col, od, blk, slp).2.2.1) from by rfl)) ?_
  refine KW.asw (congrArg (fun zz => (kText y a (nI n, nI (32, 0, 0, 0, 0, 0, 0, 0, 0, col, od, blk, slp).1, nI (32, 0, 0, 0, 0, 0, 0, 0, 0, col, od, blk, slp).2.1, ltr) ++ kWork y a2 (nI (32, 0, 0, 0, 0, 0, 0, 0, 0, col, od, blk, slp).2.2.1, zz, nI 0, nI 0, 0, 0, 0, col, od, blk, slp) : va_W)) (show (nI 0) = (nI (32, 0, 0, 0, 0, 0, 0, 0, 0, col, od, blk, slp).2.2.2.1) from by rfl)) ?_
  refine KW.asw (congrArg (fun zz => (kText y a (nI n, nI (32, 0, 0, 0, 0, 0, 0, 0, 0, col, od, blk, slp).1, nI (32, 0, 0, 0, 0, 0, 0, 0, 0, col, od, blk, slp).2.1, ltr) ++ kWork y a2 (nI (32, 0, 0, 0, 0, 0, 0, 0, 0, col, od, blk, slp).2.2.1, nI (32, 0, 0, 0, 0, 0, 0, 0, 0, col, od, blk, slp).2.2.2.1, zz, nI 0, 0, 0, 0, col, od, blk, slp) : va_W)) (show (nI 0) = (nI (32, 0, 0, 0, 0, 0, 0, 0, 0, col, od, blk, slp).2.2.2.2.1) from by rfl)) ?_
  refine KW.asw (congrArg (fun zz => (kText y a (nI n, nI (32, 0, 0, 0, 0, 0, 0, 0, 0, col, od, blk, slp).1, nI (32, 0, 0, 0, 0, 0, 0, 0, 0, col, od, blk, slp).2.1, ltr) ++ kWork y a2 (nI (32, 0, 0, 0, 0, 0, 0, 0, 0, col, od, blk, slp).2.2.1, nI (32, 0, 0, 0, 0, 0, 0, 0, 0, col, od, blk, slp).2.2.2.1, nI (32, 0, 0, 0, 0, 0, 0, 0, 0, col, od, blk, slp).2.2.2.2.1, zz, 0, 0, 0, col, od, blk, slp) : va_W)) (show (nI 0) = (nI (32, 0, 0, 0, 0, 0, 0, 0, 0, col, od, blk, slp).2.2.2.2.2.1) from by rfl)) ?_
  refine KW.asw (congrArg (fun zz => (kText y a (nI n, nI (32, 0, 0, 0, 0, 0, 0, 0, 0, col, od, blk, slp).1, nI (32, 0, 0, 0, 0, 0, 0, 0, 0, col, od, blk, slp).2.1, ltr) ++ kWork y a2 (nI (32, 0, 0, 0, 0, 0, 0, 0, 0, col, od, blk, slp).2.2.1, nI (32, 0, 0, 0, 0, 0, 0, 0, 0, col, od, blk, slp).2.2.2.1, nI (32, 0, 0, 0, 0, 0, 0, 0, 0, col, od, blk, slp).2.2.2.2.1, nI (32, 0, 0, 0, 0, 0, 0, 0, 0, col, od, blk, slp).2.2.2.2.2.1, zz, 0, 0, col, od, blk, slp) : va_W)) (show 0 = ((32, 0, 0, 0, 0, 0, 0, 0, 0, col, od, blk, slp).2.2.2.2.2.2.1) from by rfl)) ?_
  refine KW.asw (congrArg (fun zz => (kText y a (nI n, nI (32, 0, 0, 0, 0, 0, 0, 0, 0, col, od, blk, slp).1, nI (32, 0, 0, 0, 0, 0, 0, 0, 0, col, od, blk, slp).2.1, ltr) ++ kWork y a2 (nI (32, 0, 0, 0, 0, 0, 0, 0, 0, col, od, blk, slp).2.2.1, nI (32, 0, 0, 0, 0, 0, 0, 0, 0, col, od, blk, slp).2.2.2.1, nI (32, 0, 0, 0, 0, 0, 0, 0, 0, col, od, blk, slp).2.2.2.2.1, nI (32, 0, 0, 0, 0, 0, 0, 0, 0, col, od, blk, slp).2.2.2.2.2.1, (32, 0, 0, 0, 0, 0, 0, 0, 0, col, od, blk, slp).2.2.2.2.2.2.1, zz, 0, col, od, blk, slp) : va_W)) (show 0 = ((32, 0, 0, 0, 0, 0, 0, 0, 0, col, od, blk, slp).2.2.2.2.2.2.2.1) from by rfl)) ?_
  refine KW.asw (congrArg (fun zz => (kText y a (nI n, nI (32, 0, 0, 0, 0, 0, 0, 0, 0, col, od, blk, slp).1, nI (32, 0, 0, 0, 0, 0, 0, 0, 0, col, od, blk, slp).2.1, ltr) ++ kWork y a2 (nI (32, 0, 0, 0, 0, 0, 0, 0, 0, col, od, blk, slp).2.2.1, nI (32, 0, 0, 0, 0, 0, 0, 0, 0, col, od, blk, slp).2.2.2.1, nI (32, 0, 0, 0, 0, 0, 0, 0, 0, col, od, blk, slp).2.2.2.2.1, nI (32, 0, 0, 0, 0, 0, 0, 0, 0, col, od, blk, slp).2.2.2.2.2.1, (32, 0, 0, 0, 0, 0, 0, 0, 0, col, od, blk, slp).2.2.2.2.2.2.1, (32, 0, 0, 0, 0, 0, 0, 0, 0, col, od, blk, slp).2.2.2.2.2.2.2.1, zz, col, od, blk, slp) : va_W)) (show 0 = ((32, 0, 0, 0, 0, 0, 0, 0, 0, col, od, blk, slp).2.2.2.2.2.2.2.2.1) from by rfl)) ?_
  refine KW.asw (congrArg (fun zz => (kText y a (nI n, nI (32, 0, 0, 0, 0, 0, 0, 0, 0, col, od, blk, slp).1, nI (32, 0, 0, 0, 0, 0, 0, 0, 0, col, od, blk, slp).2.1, ltr) ++ kWork y a2 (nI (32, 0, 0, 0, 0, 0, 0, 0, 0, col, od, blk, slp).2.2.1, nI (32, 0, 0, 0, 0, 0, 0, 0, 0, col, od, blk, slp).2.2.2.1, nI (32, 0, 0, 0, 0, 0, 0, 0, 0, col, od, blk, slp).2.2.2.2.1, nI (32, 0, 0, 0, 0, 0, 0, 0, 0, col, od, blk, slp).2.2.2.2.2.1, (32, 0, 0, 0, 0, 0, 0, 0, 0, col, od, blk, slp).2.2.2.2.2.2.1, (32, 0, 0, 0, 0, 0, 0, 0, 0, col, od, blk, slp).2.2.2.2.2.2.2.1, (32, 0, 0, 0, 0, 0, 0, 0, 0, col, od, blk, slp).2.2.2.2.2.2.2.2.1, zz, od, blk, slp) : va_W)) (show col = ((32, 0, 0, 0, 0, 0, 0, 0, 0, col, od, blk, slp).2.2.2.2.2.2.2.2.2.1) from by rfl)) ?_
  refine KW.asw (congrArg (fun zz => (kText y a (nI n, nI (32, 0, 0, 0, 0, 0, 0, 0, 0, col, od, blk, slp).1, nI (32, 0, 0, 0, 0, 0, 0, 0, 0, col, od, blk, slp).2.1, ltr) ++ kWork y a2 (nI (32, 0, 0, 0, 0, 0, 0, 0, 0, col, od, blk, slp).2.2.1, nI (32, 0, 0, 0, 0, 0, 0, 0, 0, col, od, blk, slp).2.2.2.1, nI (32, 0, 0, 0, 0, 0, 0, 0, 0, col, od, blk, slp).2.2.2.2.1, nI (32, 0, 0, 0, 0, 0, 0, 0, 0, col, od, blk, slp).2.2.2.2.2.1, (32, 0, 0, 0, 0, 0, 0, 0, 0, col, od, blk, slp).2.2.2.2.2.2.1, (32, 0, 0, 0, 0, 0, 0, 0, 0, col, od, blk, slp).2.2.2.2.2.2.2.1, (32, 0, 0, 0, 0, 0, 0, 0, 0, col, od, blk, slp).2.2.2.2.2.2.2.2.1, (32, 0, 0, 0, 0, 0, 0, 0, 0, col, od, blk, slp).2.2.2.2.2.2.2.2.2.1, zz, blk, slp) : va_W)) (show od = ((32, 0, 0, 0, 0, 0, 0, 0, 0, col, od, blk, slp).2.2.2.2.2.2.2.2.2.2.1) from by rfl)) ?_
  refine KW.asw (congrArg (fun zz => (kText y a (nI n, nI (32, 0, 0, 0, 0, 0, 0, 0, 0, col, od, blk, slp).1, nI (32, 0, 0, 0, 0, 0, 0, 0, 0, col, od, blk, slp).2.1, ltr) ++ kWork y a2 (nI (32, 0, 0, 0, 0, 0, 0, 0, 0, col, od, blk, slp).2.2.1, nI (32, 0, 0, 0, 0, 0, 0, 0, 0, col, od, blk, slp).2.2.2.1, nI (32, 0, 0, 0, 0, 0, 0, 0, 0, col, od, blk, slp).2.2.2.2.1, nI (32, 0, 0, 0, 0, 0, 0, 0, 0, col, od, blk, slp).2.2.2.2.2.1, (32, 0, 0, 0, 0, 0, 0, 0, 0, col, od, blk, slp).2.2.2.2.2.2.1, (32, 0, 0, 0, 0, 0, 0, 0, 0, col, od, blk, slp).2.2.2.2.2.2.2.1, (32, 0, 0, 0, 0, 0, 0, 0, 0, col, od, blk, slp).2.2.2.2.2.2.2.2.1, (32, 0, 0, 0, 0, 0, 0, 0, 0, col, od, blk, slp).2.2.2.2.2.2.2.2.2.1, (32, 0, 0, 0, 0, 0, 0, 0, 0, col, od, blk, slp).2.2.2.2.2.2.2.2.2.2.1, zz, slp) : va_W)) (show blk = ((32, 0, 0, 0, 0, 0, 0, 0, 0, col, od, blk, slp).2.2.2.2.2.2.2.2.2.2.2.1) from by rfl)) ?_
  refine KW.asw (congrArg (fun zz => (kText y a (nI n, nI (32, 0, 0, 0, 0, 0, 0, 0, 0, col, od, blk, slp).1, nI (32, 0, 0, 0, 0, 0, 0, 0, 0, col, od, blk, slp).2.1, ltr) ++ kWork y a2 (nI (32, 0, 0, 0, 0, 0, 0, 0, 0, col, od, blk, slp).2.2.1, nI (32, 0, 0, 0, 0, 0, 0, 0, 0, col, od, blk, slp).2.2.2.1, nI (32, 0, 0, 0, 0, 0, 0, 0, 0, col, od, blk, slp).2.2.2.2.1, nI (32, 0, 0, 0, 0, 0, 0, 0, 0, col, od, blk, slp).2.2.2.2.2.1, (32, 0, 0, 0, 0, 0, 0, 0, 0, col, od, blk, slp).2.2.2.2.2.2.1, (32, 0, 0, 0, 0, 0, 0, 0, 0, col, od, blk, slp).2.2.2.2.2.2.2.1, (32, 0, 0, 0, 0, 0, 0, 0, 0, col, od, blk, slp).2.2.2.2.2.2.2.2.1, (32, 0, 0, 0, 0, 0, 0, 0, 0, col, od, blk, slp).2.2.2.2.2.2.2.2.2.1, (32, 0, 0, 0, 0, 0, 0, 0, 0, col, od, blk, slp).2.2.2.2.2.2.2.2.2.2.1, (32, 0, 0, 0, 0, 0, 0, 0, 0, col, od, blk, slp).2.2.2.2.2.2.2.2.2.2.2.1, zz) : va_W)) (show slp = ((32, 0, 0, 0, 0, 0, 0, 0, 0, col, od, blk, slp).2.2.2.2.2.2.2.2.2.2.2.2) from by rfl)) ?_
  exact L17_2 (n - 0 + 1) (32, 0, 0, 0, 0, 0, 0, 0, 0, col, od, blk, slp) 0 (by first | assumption | omega | (simp; done)) (by rfl) (by exact ⟨by decide, by decide, by decide, by decide, by decide, by decide, by omega, by omega⟩) (by exact Or.inl rfl) (Nat.lt_succ_self _)
