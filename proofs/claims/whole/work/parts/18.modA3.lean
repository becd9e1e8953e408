set_option maxHeartbeats 4000000 in
set_option maxRecDepth 100000 in
theorem c_X7_notes (l : Launch) (G : va_G) (y : Nat → ClassId) (t : Nat) (a : Nat → Nat) (th : Int32) (Sr : Nat → Int32) (dr : Nat → Int32) (pa : Nat → Int32) (im : Nat → Int32) (ikp : Nat → Int32) (tx : Nat → Int32) (ty : Int32) (sn : Nat → Int32) (sm : Int32) (at1 : Int32) (pl : Int32) (tk : Int32) (vl : Int32) (fa : Int32) (pf : Nat → Int32) (odr : Nat → Int32) (gv : Nat → Int32) (mk : Nat → Int32) (bo : Nat → Int32) (bq : Nat → Int32) (U : Nat) (hU : U ≤ 6) (sz : Nat) : Met l yX7_notes (Cond.code yX7_notes cX7_notes 2 (none) :: TG) ({ frames := 0, cells := 0, slots := 0, locals := 0 }) (va_Pc [.ref (a 0)] (PR G y t (kMod y a th Sr dr pa (nI U) im ikp tx ty sn sm at1 pl tk vl fa pf odr gv mk bo bq) sz)) (va_Qv (fun (u : (Nat → Int32) × Nat) => (U < 6 → u.2 = U + 1 ∧ (∀ j, j < 99 * U → u.1 j = pa j) ∧ (∀ j, j < 99 → u.1 (99 * U + j) = Sr j)) ∧ (U = 6 → u.2 = 6 ∧ (∀ j, j < 495 → u.1 j = pa (99 + j)) ∧ (∀ j, j < 99 → u.1 (495 + j) = Sr j))) (fun (u : (Nat → Int32) × Nat) t => PO G (va_A (kMod y a th Sr dr pa (nI U) im ikp tx ty sn sm at1 pl tk vl fa pf odr gv mk bo bq) sz) (kMod y a th Sr dr u.1 (nI u.2) im ikp tx ty sn sm at1 pl tk vl fa pf odr gv mk bo bq) t) (va_A (kMod y a th Sr dr pa (nI U) im ikp tx ty sn sm at1 pl tk vl fa pf odr gv mk bo bq) sz)) 0 0 (va_A (kMod y a th Sr dr pa (nI U) im ikp tx ty sn sm at1 pl tk vl fa pf odr gv mk bo bq) sz) := by
  refine kMet (cc := cX7_notes) (maxL := 2) (ret := none) (Qc := fun A => va_Qv (fun (u : (Nat → Int32) × Nat) => (U < 6 → u.2 = U + 1 ∧ (∀ j, j < 99 * U → u.1 j = pa j) ∧ (∀ j, j < 99 → u.1 (99 * U + j) = Sr j)) ∧ (U = 6 → u.2 = 6 ∧ (∀ j, j < 495 → u.1 j = pa (99 + j)) ∧ (∀ j, j < 99 → u.1 (495 + j) = Sr j))) (fun (u : (Nat → Int32) × Nat) t => PO G A (kMod y a th Sr dr u.1 (nI u.2) im ikp tx ty sn sm at1 pl tk vl fa pf odr gv mk bo bq) t) A) (by decide) rfl (Nat.le_of_ble_eq_true rfl) (fun p e s m below meth c A hsz C hin => ?_)
  refine KW.loc (lv' := [(0, .ref (a 0))]) [0] rfl ?_
  refine kw_aload_n C 0 dX7_notes_0 rfl ?_
  refine kw_get (v := .int (nI U)) (T := TX7) C 0 4 rfl rfl (by decide) (fun w h => mT (fwX7 w h)) rfl (mT wd_619) rfl dX7_notes_1 ?_
  refine kw_bipush (v := nI 6) C dX7_notes_4 (by decide) ?_
  have J49_1 : ∀ (V : Nat) (p2 : Nat → Int32) (hV : V ≤ 5) (hc : (U < 6 ∧ V = U ∧ p2 = pa) ∨ (U = 6 ∧ V = 5 ∧ ∀ j, j < 495 → p2 j = pa (99 + j))), KW p l e ({ frames := 0, cells := 0, slots := 0, locals := 0 }) s m ([.ref (a 0)] : List Value).toArray below meth c 0 0 (MQ below (va_Qv (fun (u : (Nat → Int32) × Nat) => (U < 6 → u.2 = U + 1 ∧ (∀ j, j < 99 * U → u.1 j = pa j) ∧ (∀ j, j < 99 → u.1 (99 * U + j) = Sr j)) ∧ (U = 6 → u.2 = 6 ∧ (∀ j, j < 495 → u.1 j = pa (99 + j)) ∧ (∀ j, j < 99 → u.1 (495 + j) = Sr j))) (fun (u : (Nat → Int32) × Nat) t => PO G A (kMod y a th Sr dr u.1 (nI u.2) im ikp tx ty sn sm at1 pl tk vl fa pf odr gv mk bo bq) t) A) ([.ref (a 0)] : List Value).toArray s 0 0 A) G A 2 (kMod y a th Sr dr p2 (nI V) im ikp tx ty sn sm at1 pl tk vl fa pf odr gv mk bo bq) [(0, .ref (a 0))] 49 [] := by
    intro V p2 hV hc
    refine kw_iconst (v := nI 0) C dX7_notes_49 (by decide) ?_
    refine kw_istore_n C [(1, .int (nI 0)), (0, .ref (a 0))] dX7_notes_50 rfl (by decide) rfl ?_
    have L51_2 : ∀ (nn : Nat) (i : Nat) (p3 : Nat → Int32) (hi : i ≤ 99) (hp3 : ∀ z, (z < 99 * V ∨ 99 * V + i ≤ z) → p3 z = p2 z) (hq3 : ∀ z, z < i → p3 (99 * V + z) = Sr z) (hms : 99 - i < nn), KW p l e ({ frames := 0, cells := 0, slots := 0, locals := 0 }) s m ([.ref (a 0)] : List Value).toArray below meth c 0 0 (MQ below (va_Qv (fun (u : (Nat → Int32) × Nat) => (U < 6 → u.2 = U + 1 ∧ (∀ j, j < 99 * U → u.1 j = pa j) ∧ (∀ j, j < 99 → u.1 (99 * U + j) = Sr j)) ∧ (U = 6 → u.2 = 6 ∧ (∀ j, j < 495 → u.1 j = pa (99 + j)) ∧ (∀ j, j < 99 → u.1 (495 + j) = Sr j))) (fun (u : (Nat → Int32) × Nat) t => PO G A (kMod y a th Sr dr u.1 (nI u.2) im ikp tx ty sn sm at1 pl tk vl fa pf odr gv mk bo bq) t) A) ([.ref (a 0)] : List Value).toArray s 0 0 A) G A 2 (kMod y a th Sr dr p3 (nI V) im ikp tx ty sn sm at1 pl tk vl fa pf odr gv mk bo bq) [(1, .int (nI i)), (0, .ref (a 0))] 51 [] := by
      intro nn
      induction nn with
      | zero => intro i p3 hi hp3 hq3 hms; exact absurd hms (Nat.not_lt_zero _)
      | succ nn ih_51 =>
        intro i p3 hi hp3 hq3 hms
        refine kw_iload_n C 0 dX7_notes_51 rfl ?_
        refine kw_bipush (v := nI 99) C dX7_notes_52 (by decide) ?_
        refine kw_icmp_ge_N (tgt := 83) C (by omega) (by omega) dX7_notes_54 (by decide) (fun c_54 => ?_) (fun c_54 => ?_)
        ·
          refine kw_aload_n C 1 dX7_notes_83 rfl ?_
          refine kw_dup C dX7_notes_84 rfl ?_
          refine kw_get (v := .int (nI V)) (T := TX7) C 0 4 rfl rfl (by decide) (fun w h => mT (fwX7 w h)) rfl (mT wd_619) rfl dX7_notes_85 ?_
          refine kw_iconst (v := nI 1) C dX7_notes_88 (by decide) ?_
          refine kw_iadd C dX7_notes_89 (kw_top (nI_add _ _) ?_)
          refine kw_put (T := TX7) (ty := .int) C 0 4 (kMod y a th Sr dr p3 (nI (V + 1)) im ikp tx ty sn sm at1 pl tk vl fa pf odr gv mk bo bq) rfl rfl (by decide) (fun w h => mT (fwX7 w h)) tyX7 tyX7_ok nmX7 rfl (mT wd_619) rfl (by decide +kernel) rfl rfl (Nat.le_of_ble_eq_true rfl) dX7_notes_90 rfl ?_
          refine kR_v C (p3, V + 1) dX7_notes_93 ?_ rfl
          have e99 : i = 99 := by omega
          subst e99
          rcases hc with ⟨h1, h2, h3⟩ | ⟨h1, h2, h3⟩
          · subst h2; subst h3
            exact ⟨fun _ => ⟨rfl, fun j hj => hp3 j (Or.inl hj), fun j hj => hq3 j hj⟩, fun h => absurd h (by omega)⟩
          · subst h2
            exact ⟨fun h => absurd h (by omega), fun _ => ⟨rfl, fun j hj => (hp3 j (Or.inl (by omega))).trans (h3 j hj), fun j hj => hq3 j hj⟩⟩
        ·
          refine kw_aload_n C 1 dX7_notes_57 rfl ?_
          refine kw_get (v := .ref (a 3)) (T := TX7) C 0 3 rfl rfl (by decide) (fun w h => mT (fwX7 w h)) rfl (mT wd_618) rfl dX7_notes_58 ?_
          refine kw_bipush (v := nI 99) C dX7_notes_61 (by decide) ?_
          refine kw_aload_n C 1 dX7_notes_63 rfl ?_
          refine kw_get (v := .int (nI V)) (T := TX7) C 0 4 rfl rfl (by decide) (fun w h => mT (fwX7 w h)) rfl (mT wd_619) rfl dX7_notes_64 ?_
          refine kw_imul C dX7_notes_67 (kw_top (pk_mul _ _) ?_)
          refine kw_iload_n C 0 dX7_notes_68 rfl ?_
          refine kw_iadd C dX7_notes_69 (kw_top (nI_add _ _) ?_)
          refine kw_aload_n C 1 dX7_notes_70 rfl ?_
          refine kw_get (v := .ref (a 1)) (T := TX7) C 0 1 rfl rfl (by decide) (fun w h => mT (fwX7 w h)) rfl (mT wd_616) rfl dX7_notes_71 ?_
          refine kw_iload_n C 0 dX7_notes_74 rfl ?_
          refine kw_iald (f := Sr) C 1 rfl (by omega) (by decide) dX7_notes_75 ?_
          refine kw_iast C 3 (kMod y a th Sr dr (upd p3 ((99 * V) + i) (Sr i)) (nI V) im ikp tx ty sn sm at1 pl tk vl fa pf odr gv mk bo bq) rfl (by omega) (by decide) dX7_notes_76 rfl ?_
          refine kw_iinc (v := nI (i + 1)) C [(1, .int (nI (i + 1))), (0, .ref (a 0))] 0 dX7_notes_77 rfl (nI_1 _) (by decide) rfl ?_
          refine kw_goto (tgt := 51) C dX7_notes_80 (by decide) ?_
          refine KW.loc (lv' := [(1, .int (nI (i + 1))), (0, .ref (a 0))]) [0, 1] rfl ?_
          exact ih_51 (i + 1) (upd p3 ((99 * V) + i) (Sr i)) (by first | assumption | omega | (simp; done)) (by intro z hz; rw [pk_un (by omega)]; exact hp3 z (by omega)) (by intro z hz; rcases Nat.lt_or_ge z i with h | h; rw [pk_un (by omega)]; exact hq3 z h; rw [show z = i from by omega]; exact pk_us) (by omega)
    refine KW.loc (lv' := [(1, .int (nI 0)), (0, .ref (a 0))]) [0, 1] rfl ?_
    exact L51_2 (99 - 0 + 1) 0 p2 (by first | assumption | omega | (simp; done)) (by intro z _; rfl) (by intro z hz; exact absurd hz (Nat.not_lt_zero _)) (Nat.lt_succ_self _)
  refine kw_icmp_ne_N (tgt := 49) C (by omega) (by omega) dX7_notes_6 (by decide) (fun c_6 => ?_) (fun c_6 => ?_)
  ·
    refine KW.loc (lv' := [(0, .ref (a 0))]) [0] rfl ?_
    exact J49_1 U pa (by omega) (by first | exact Or.inl ⟨by omega, rfl, rfl⟩ | exact Or.inr ⟨by omega, by omega, fun j hj => by rw [hp1, if_pos (by omega)]⟩)
  ·
    refine kw_iconst (v := nI 0) C dX7_notes_9 (by decide) ?_
    refine kw_istore_n C [(1, .int (nI 0)), (0, .ref (a 0))] dX7_notes_10 rfl (by decide) rfl ?_
    have L11_3 : ∀ (nn : Nat) (i : Nat) (p1 : Nat → Int32) (hi : i ≤ 495) (hp1 : ∀ j, p1 j = if j < i then pa (99 + j) else pa j) (hms : 495 - i < nn), KW p l e ({ frames := 0, cells := 0, slots := 0, locals := 0 }) s m ([.ref (a 0)] : List Value).toArray below meth c 0 0 (MQ below (va_Qv (fun (u : (Nat → Int32) × Nat) => (U < 6 → u.2 = U + 1 ∧ (∀ j, j < 99 * U → u.1 j = pa j) ∧ (∀ j, j < 99 → u.1 (99 * U + j) = Sr j)) ∧ (U = 6 → u.2 = 6 ∧ (∀ j, j < 495 → u.1 j = pa (99 + j)) ∧ (∀ j, j < 99 → u.1 (495 + j) = Sr j))) (fun (u : (Nat → Int32) × Nat) t => PO G A (kMod y a th Sr dr u.1 (nI u.2) im ikp tx ty sn sm at1 pl tk vl fa pf odr gv mk bo bq) t) A) ([.ref (a 0)] : List Value).toArray s 0 0 A) G A 2 (kMod y a th Sr dr p1 (nI U) im ikp tx ty sn sm at1 pl tk vl fa pf odr gv mk bo bq) [(1, .int (nI i)), (0, .ref (a 0))] 11 [] := by
      intro nn
      induction nn with
      | zero => intro i p1 hi hp1 hms; exact absurd hms (Nat.not_lt_zero _)
      | succ nn ih_11 =>
        intro i p1 hi hp1 hms
        refine kw_iload_n C 0 dX7_notes_11 rfl ?_
        refine kw_sipush (v := nI 495) C dX7_notes_12 (by decide) ?_
        refine kw_icmp_ge_N (tgt := 39) C (by omega) (by omega) dX7_notes_15 (by decide) (fun c_15 => ?_) (fun c_15 => ?_)
        ·
          refine kw_aload_n C 1 dX7_notes_39 rfl ?_
          refine kw_dup C dX7_notes_40 rfl ?_
          refine kw_get (v := .int (nI U)) (T := TX7) C 0 4 rfl rfl (by decide) (fun w h => mT (fwX7 w h)) rfl (mT wd_619) rfl dX7_notes_41 ?_
          refine kw_iconst (v := nI 1) C dX7_notes_44 (by decide) ?_
          refine kw_isub C dX7_notes_45 (kw_top (pk_sub (by omega)) ?_)
          refine kw_put (T := TX7) (ty := .int) C 0 4 (kMod y a th Sr dr p1 (nI (U - 1)) im ikp tx ty sn sm at1 pl tk vl fa pf odr gv mk bo bq) rfl rfl (by decide) (fun w h => mT (fwX7 w h)) tyX7 tyX7_ok nmX7 rfl (mT wd_619) rfl (by decide +kernel) rfl rfl (Nat.le_of_ble_eq_true rfl) dX7_notes_46 rfl ?_
          refine KW.loc (lv' := [(0, .ref (a 0))]) [1] rfl ?_
          exact J49_1 (U - 1) p1 (by omega) (by first | exact Or.inl ⟨by omega, rfl, rfl⟩ | exact Or.inr ⟨by omega, by omega, fun j hj => by rw [hp1, if_pos (by omega)]⟩)
        ·
          refine kw_aload_n C 1 dX7_notes_18 rfl ?_
          refine kw_get (v := .ref (a 3)) (T := TX7) C 0 3 rfl rfl (by decide) (fun w h => mT (fwX7 w h)) rfl (mT wd_618) rfl dX7_notes_19 ?_
          refine kw_iload_n C 0 dX7_notes_22 rfl ?_
          refine kw_aload_n C 1 dX7_notes_23 rfl ?_
          refine kw_get (v := .ref (a 3)) (T := TX7) C 0 3 rfl rfl (by decide) (fun w h => mT (fwX7 w h)) rfl (mT wd_618) rfl dX7_notes_24 ?_
          refine kw_bipush (v := nI 99) C dX7_notes_27 (by decide) ?_
          refine kw_iload_n C 0 dX7_notes_29 rfl ?_
          refine kw_iadd C dX7_notes_30 (kw_top (nI_add _ _) ?_)
          refine kw_iald (f := p1) C 3 rfl (by omega) (by decide) dX7_notes_31 ?_
          refine kw_iast C 3 (kMod y a th Sr dr (upd p1 i (p1 (99 + i))) (nI U) im ikp tx ty sn sm at1 pl tk vl fa pf odr gv mk bo bq) rfl (by omega) (by decide) dX7_notes_32 rfl ?_
          refine kw_iinc (v := nI (i + 1)) C [(1, .int (nI (i + 1))), (0, .ref (a 0))] 0 dX7_notes_33 rfl (nI_1 _) (by decide) rfl ?_
          refine kw_goto (tgt := 11) C dX7_notes_36 (by decide) ?_
          refine KW.loc (lv' := [(1, .int (nI (i + 1))), (0, .ref (a 0))]) [0, 1] rfl ?_
          exact ih_11 (i + 1) (upd p1 i (p1 (99 + i))) (by first | assumption | omega | (simp; done)) (by exact nt_step hp1) (by omega)
    refine KW.loc (lv' := [(1, .int (nI 0)), (0, .ref (a 0))]) [0, 1] rfl ?_
    exact L11_3 (495 - 0 + 1) 0 pa (by first | assumption | omega | (simp; done)) (by intro j; rfl) (Nat.lt_succ_self _)
