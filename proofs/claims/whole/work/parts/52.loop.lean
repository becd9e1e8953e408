/-! the law's loop -/
set_option maxHeartbeats 4000000 in
set_option maxRecDepth 100000 in
theorem law_loop {p : Program} {l : Launch} {e : Env} {s : State} {m : MethodId} {below : List Frame} {meth : Method} {c : Code} {G : va_G} {A : Nat → Prop} {y : Nat → ClassId} {t b L : Nat} {zs : Nat → Int32} {q a : Nat → Nat} (C : Cx p s m #[Value.ref b] meth c code 4 R_law lw_tbl ret A G y t) (hA : ∀ q, A q → s.heap.size ≤ q) (hX : va_X b L zs s s.heap ∧ b < s.heap.size ∧ ¬ A b ∧ L ≤ 2048) : ∀ (nn i : Nat) (kp : Nat → Int32) (W : Nat) (H : Nat) (N : Nat) (D : Nat) (p1 : Int64) (p2 : Int64) (p3 : Int64) (col : Nat → Int32) (od : Nat → Int32) (blk : Nat → Int64) (slp : Nat → Int32) (wt : TWork) (n : Nat) (it : Nat) (fg : Nat) (ltr : Nat → Int32) (k : Nat) (mm : Nat) (wp : Nat → TWork) (wi : Nat → TWork) (M : Nat) (g1 : Int64) (g2 : Int64) (g3 : Int64) (xs : Nat → Int32) (ys : Nat → Int32) (cs : Nat → Int32) (tal : Nat → Int32) (pal : Int32) (fnd : Bool) (few : Int32) (bst : Int32) (srw : Nat → Int32) (r1 : Int64) (r2 : Int64) (r3 : Int64) (th : Int32) (Sr : Nat → Int32) (dr : Nat → Int32) (pa : Nat → Int32) (im : Nat → Int32) (ikp : Nat → Int32) (tx : Nat → Int32) (sn : Nat → Int32) (at1 : Int32) (pl : Int32) (tk : Int32) (vl : Int32) (fa : Int32) (pf : Nat → Int32) (odr : Nat → Int32) (gv : Nat → Int32) (mk : Nat → Int32) (bo : Nat → Int32) (bq : Nat → Int32), L - i < nn → i ≤ L → Inv W H N D p1 p2 p3 col od blk slp n ltr k mm wp kp wi M xs ys cs Sr pa im ikp tx sn → KW p l e room_1 s m #[Value.ref b] below meth c 90 2411 (lw_Z below #[Value.ref b] s) G A 4 (LL y q a kp W H N D p1 p2 p3 col od blk slp wt n it fg ltr k mm wp wi M g1 g2 g3 xs ys cs tal pal fnd few bst srw r1 r2 r3 th Sr dr pa im ikp tx sn at1 pl tk vl fa pf odr gv mk bo bq).flatten [(3, .int (nI i)), (2, .ref (a 0)), (1, .ref (q 0)), (0, .ref b)] 18 [] := by
  have hL := hX.2.2.2
  intro nn
  induction nn with
  | zero => intro i kp W H N D p1 p2 p3 col od blk slp wt n it fg ltr k mm wp wi M g1 g2 g3 xs ys cs tal pal fnd few bst srw r1 r2 r3 th Sr dr pa im ikp tx sn at1 pl tk vl fa pf odr gv mk bo bq hn; exact absurd hn (Nat.not_lt_zero _)
  | succ nn ih =>
    intro i kp W H N D p1 p2 p3 col od blk slp wt n it fg ltr k mm wp wi M g1 g2 g3 xs ys cs tal pal fnd few bst srw r1 r2 r3 th Sr dr pa im ikp tx sn at1 pl tk vl fa pf odr gv mk bo bq hn hiL hI
    refine kw_iload_n C 0 dL_law_18 rfl ?_
    refine kw_aload_n C 3 dL_law_19 rfl ?_
    refine kw_slen C hX dL_law_20 ?_
    refine kw_iconst (v := nI 4) C dL_law_21 (by decide) ?_
    refine kw_isub C dL_law_22 ?_
    refine kw_icmp_gt (tgt := 678) C dL_law_23 (by decide) (fun _ => ?_) (fun hc => ?_)
    · refine kw_iconst (v := 1) C dL_law_678 (by decide) ?_
      exact law_end C hA
    · have hi : i + 3 < L := by
          have h1 := pk_sub_toInt (a := L) (b := 4) (by omega) (by decide)
          have h2 := nI_toInt (n := i) (by omega)
          have h3 : ¬ (nI L - nI 4).toInt < (nI i).toInt := fun z => hc (Int32.lt_iff_toInt_lt.mpr z)
          rw [h1, h2] at h3
          omega
      have hk : Nx p l e s m below meth c G A y b i q a := by
          intro kp W H N D p1 p2 p3 col od blk slp wt n it fg ltr k mm wp wi M g1 g2 g3 xs ys cs tal pal fnd few bst srw r1 r2 r3 th Sr dr pa im ikp tx sn at1 pl tk vl fa pf odr gv mk bo bq hI
          refine kw_iinc (v := nI (i + 4)) C [(3, .int (nI (i + 4))), (2, .ref (a 0)), (1, .ref (q 0)), (0, .ref b)] 0 dL_law_672 rfl (nI_inc i 4) (by decide) rfl ?_
          refine kw_goto (tgt := 18) C dL_law_675 (by decide) ?_
          exact ih (i + 4) kp W H N D p1 p2 p3 col od blk slp wt n it fg ltr k mm wp wi M g1 g2 g3 xs ys cs tal pal fnd few bst srw r1 r2 r3 th Sr dr pa im ikp tx sn at1 pl tk vl fa pf odr gv mk bo bq (by omega) (by omega) hI
      refine kw_aload_n C 3 dL_law_26 rfl ?_
      refine kw_iload_n C 0 dL_law_27 rfl ?_
      refine kw_sld C hX (by omega) dL_law_28 ?_
      refine kw_bipush (v := nI 31) C dL_law_29 (by decide) ?_
      refine kw_iand C dL_law_31 ?_
      obtain ⟨v, ev⟩ : ∃ v, v = zs i &&& nI 31 := ⟨_, rfl⟩
      rw [← ev]
      by_cases hsw_0 : v = 0
      · refine kw_tabIn (off := 104) (tgt := 136) C hsw_0 dL_law_32 (by decide) (by decide) (by decide) (by decide) ?_
        exact law_type C hX hi hI hk
      by_cases hsw_1 : v = 1
      · refine kw_tabIn (off := 127) (tgt := 159) C hsw_1 dL_law_32 (by decide) (by decide) (by decide) (by decide) ?_
        exact law_clear C hX hi hI hk
      by_cases hsw_2 : v = 2
      · refine kw_tabIn (off := 140) (tgt := 172) C hsw_2 dL_law_32 (by decide) (by decide) (by decide) (by decide) ?_
        exact law_tells C hX hi hI hk
      by_cases hsw_3 : v = 3
      · refine kw_tabIn (off := 153) (tgt := 185) C hsw_3 dL_law_32 (by decide) (by decide) (by decide) (by decide) ?_
        exact law_cuts C hX hi hI hk
      by_cases hsw_4 : v = 4
      · refine kw_tabIn (off := 166) (tgt := 198) C hsw_4 dL_law_32 (by decide) (by decide) (by decide) (by decide) ?_
        exact law_carves C hX hi hI hk
      by_cases hsw_5 : v = 5
      · refine kw_tabIn (off := 209) (tgt := 241) C hsw_5 dL_law_32 (by decide) (by decide) (by decide) (by decide) ?_
        exact law_slips C hX hi hI hk
      by_cases hsw_6 : v = 6
      · refine kw_tabIn (off := 252) (tgt := 284) C hsw_6 dL_law_32 (by decide) (by decide) (by decide) (by decide) ?_
        exact law_swaps C hX hi hI hk
      by_cases hsw_7 : v = 7
      · refine kw_tabIn (off := 285) (tgt := 317) C hsw_7 dL_law_32 (by decide) (by decide) (by decide) (by decide) ?_
        exact law_undo C hX hi hI hk
      by_cases hsw_8 : v = 8
      · refine kw_tabIn (off := 298) (tgt := 330) C hsw_8 dL_law_32 (by decide) (by decide) (by decide) (by decide) ?_
        exact law_cell C hX hi hI hk
      by_cases hsw_9 : v = 9
      · refine kw_tabIn (off := 341) (tgt := 373) C hsw_9 dL_law_32 (by decide) (by decide) (by decide) (by decide) ?_
        exact law_ink C hX hi hI hk
      by_cases hsw_10 : v = 10
      · refine kw_tabIn (off := 374) (tgt := 406) C hsw_10 dL_law_32 (by decide) (by decide) (by decide) (by decide) ?_
        exact law_made C hX hi hI hk
      by_cases hsw_11 : v = 11
      · refine kw_tabIn (off := 397) (tgt := 429) C hsw_11 dL_law_32 (by decide) (by decide) (by decide) (by decide) ?_
        exact law_least C hX hi hI hk
      by_cases hsw_12 : v = 12
      · refine kw_tabIn (off := 420) (tgt := 452) C hsw_12 dL_law_32 (by decide) (by decide) (by decide) (by decide) ?_
        exact law_order C hX hi hI hk
      by_cases hsw_13 : v = 13
      · refine kw_tabIn (off := 443) (tgt := 475) C hsw_13 dL_law_32 (by decide) (by decide) (by decide) (by decide) ?_
        exact law_wrong C hX hi hI hk
      by_cases hsw_14 : v = 14
      · refine kw_tabIn (off := 456) (tgt := 488) C hsw_14 dL_law_32 (by decide) (by decide) (by decide) (by decide) ?_
        exact law_hurt C hX hi hI hk
      by_cases hsw_15 : v = 15
      · refine kw_tabIn (off := 479) (tgt := 511) C hsw_15 dL_law_32 (by decide) (by decide) (by decide) (by decide) ?_
        exact law_sees C hX hi hI hk
      by_cases hsw_16 : v = 16
      · refine kw_tabIn (off := 522) (tgt := 554) C hsw_16 dL_law_32 (by decide) (by decide) (by decide) (by decide) ?_
        exact law_forget C hX hi hI hk
      by_cases hsw_17 : v = 17
      · refine kw_tabIn (off := 535) (tgt := 567) C hsw_17 dL_law_32 (by decide) (by decide) (by decide) (by decide) ?_
        exact law_which C hX hi hI hk
      by_cases hsw_18 : v = 18
      · refine kw_tabIn (off := 558) (tgt := 590) C hsw_18 dL_law_32 (by decide) (by decide) (by decide) (by decide) ?_
        exact law_ask C hX hi hI hk
      by_cases hsw_19 : v = 19
      · refine kw_tabIn (off := 571) (tgt := 603) C hsw_19 dL_law_32 (by decide) (by decide) (by decide) (by decide) ?_
        exact law_keep C hX hi hI hk
      by_cases hsw_20 : v = 20
      · refine kw_tabIn (off := 594) (tgt := 626) C hsw_20 dL_law_32 (by decide) (by decide) (by decide) (by decide) ?_
        exact law_back C hX hi hI hk
      by_cases hsw_21 : v = 21
      · refine kw_tabIn (off := 617) (tgt := 649) C hsw_21 dL_law_32 (by decide) (by decide) (by decide) (by decide) ?_
        exact law_count C hX hi hI hk
      refine kw_tabOut (tgt := 672) C dL_law_32 (sw_out22 hsw_0 hsw_1 hsw_2 hsw_3 hsw_4 hsw_5 hsw_6 hsw_7 hsw_8 hsw_9 hsw_10 hsw_11 hsw_12 hsw_13 hsw_14 hsw_15 hsw_16 hsw_17 hsw_18 hsw_19 hsw_20 hsw_21) (by decide) ?_
      exact hk kp W H N D p1 p2 p3 col od blk slp wt n it fg ltr k mm wp wi M g1 g2 g3 xs ys cs tal pal fnd few bst srw r1 r2 r3 th Sr dr pa im ikp tx sn at1 pl tk vl fa pf odr gv mk bo bq hI
