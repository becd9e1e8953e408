set_option maxHeartbeats 4000000 in
set_option maxRecDepth 100000 in
theorem c_X7_mixes (l : Launch) (G : va_G) (y : Nat → ClassId) (t : Nat) (a : Nat → Nat) (th : Int32) (Sr : Nat → Int32) (dr : Nat → Int32) (pa : Nat → Int32) (um : Int32) (im : Nat → Int32) (ikp : Nat → Int32) (tx : Nat → Int32) (ty : Int32) (sn : Nat → Int32) (sm : Int32) (at1 : Int32) (pl : Int32) (tk : Int32) (vl : Int32) (fa : Int32) (pf : Nat → Int32) (odr : Nat → Int32) (gv : Nat → Int32) (mk : Nat → Int32) (bo : Nat → Int32) (bq : Nat → Int32) (oo : Nat → Nat) (W : Nat) (H : Nat) (N : Nat) (pcl : Nat → Nat) (ik : Nat → Nat) (o : Nat → Nat) (bk : Nat → Nat) (kk : Nat → Nat) (hR : RowOk Sr W H N pcl ik o bk kk) (hoo : ∀ q, q < N → odr q = nI (oo q) ∧ oo q < N) (sz : Nat) : Met l yX7_mixes (Cond.code yX7_mixes cX7_mixes 4 (none) :: TG) ({ frames := 1, cells := 0, slots := 0, locals := 21 }) (va_Pc [.ref (a 0)] (PR G y t (kMod y a th Sr dr pa um im ikp tx ty sn sm at1 pl tk vl fa pf odr gv mk bo bq) sz)) (va_Qv (fun (u : (Nat → Int32) × (Nat → Int32)) => (∀ set, set < 2 ^ N → u.1 set = nI (gvF oo ik set N)) ∧ (∀ set, set < 2 ^ N → u.2 set = nI (mkP (fun z => gvF oo ik z N) set (set + 1)))) (fun (u : (Nat → Int32) × (Nat → Int32)) t => PO G (va_A (kMod y a th Sr dr pa um im ikp tx ty sn sm at1 pl tk vl fa pf odr gv mk bo bq) sz) (kMod y a th Sr dr pa um im ikp tx ty sn sm at1 pl tk vl fa pf odr u.1 u.2 bo bq) t) (va_A (kMod y a th Sr dr pa um im ikp tx ty sn sm at1 pl tk vl fa pf odr gv mk bo bq) sz)) 0 0 (va_A (kMod y a th Sr dr pa um im ikp tx ty sn sm at1 pl tk vl fa pf odr gv mk bo bq) sz) := by
  refine kMet (cc := cX7_mixes) (maxL := 4) (ret := none) (Qc := fun A => va_Qv (fun (u : (Nat → Int32) × (Nat → Int32)) => (∀ set, set < 2 ^ N → u.1 set = nI (gvF oo ik set N)) ∧ (∀ set, set < 2 ^ N → u.2 set = nI (mkP (fun z => gvF oo ik z N) set (set + 1)))) (fun (u : (Nat → Int32) × (Nat → Int32)) t => PO G A (kMod y a th Sr dr pa um im ikp tx ty sn sm at1 pl tk vl fa pf odr u.1 u.2 bo bq) t) A) (by decide) rfl (Nat.le_of_ble_eq_true rfl) (fun p e s m below meth c A hsz C hin => ?_)
  obtain ⟨hS0, hS1, hS2, hW, hH, hN, hpic, hink, hord, hblk, hdx⟩ := id hR
  have h64 := pow6 hN
  refine KW.loc (lv' := [(0, .ref (a 0))]) [0] rfl ?_
  refine kw_iconst (v := nI 0) C dX7_mixes_0 (by decide) ?_
  refine kw_istore_n C [(1, .int (nI 0)), (0, .ref (a 0))] dX7_mixes_1 rfl (by decide) rfl ?_
  have L2_1 : ∀ (nn : Nat) (set : Nat) (g0 : Nat → Int32) (hset : set ≤ 2 ^ N) (hg0 : ∀ z, z < set → g0 z = nI (gvF oo ik z N)) (hms : 2 ^ N - set < nn), KW p l e ({ frames := 1, cells := 0, slots := 0, locals := 21 }) s m ([.ref (a 0)] : List Value).toArray below meth c 0 0 (MQ below (va_Qv (fun (u : (Nat → Int32) × (Nat → Int32)) => (∀ set, set < 2 ^ N → u.1 set = nI (gvF oo ik set N)) ∧ (∀ set, set < 2 ^ N → u.2 set = nI (mkP (fun z => gvF oo ik z N) set (set + 1)))) (fun (u : (Nat → Int32) × (Nat → Int32)) t => PO G A (kMod y a th Sr dr pa um im ikp tx ty sn sm at1 pl tk vl fa pf odr u.1 u.2 bo bq) t) A) ([.ref (a 0)] : List Value).toArray s 0 0 A) G A 4 (kMod y a th Sr dr pa um im ikp tx ty sn sm at1 pl tk vl fa pf odr g0 mk bo bq) [(1, .int (nI set)), (0, .ref (a 0))] 2 [] := by
    intro nn
    induction nn with
    | zero => intro set g0 hset hg0 hms; exact absurd hms (Nat.not_lt_zero _)
    | succ nn ih_2 =>
      intro set g0 hset hg0 hms
      refine kw_iload_n C 0 dX7_mixes_2 rfl ?_
      refine kw_iconst (v := nI 1) C dX7_mixes_3 (by decide) ?_
      refine kw_aload_n C 1 dX7_mixes_4 rfl ?_
      refine kw_get (v := .ref (a 1)) (T := TX7) C 0 1 rfl rfl (by decide) (fun w h => mT (fwX7 w h)) rfl (mT wd_616) rfl dX7_mixes_5 ?_
      refine kw_iconst (v := nI 2) C dX7_mixes_8 (by decide) ?_
      refine kw_iald (f := Sr) C 1 rfl (by omega) (by decide) dX7_mixes_9 ?_
      refine kw_top (show (Sr 2) = (nI N) from by exact hS2) ?_
      refine kw_ishl C dX7_mixes_10 (kw_top (n_shl1 (by omega)) ?_)
      refine kw_icmp_ge_N (tgt := 84) C (by omega) (by omega) dX7_mixes_11 (by decide) (fun c_11 => ?_) (fun c_11 => ?_)
      ·
        refine kw_iconst (v := nI 0) C dX7_mixes_84 (by decide) ?_
        refine kw_istore_n C [(1, .int (nI 0)), (0, .ref (a 0))] dX7_mixes_85 rfl (by decide) rfl ?_
        have L86_2 : ∀ (nn : Nat) (s2 : Nat) (m0 : Nat → Int32) (hs2 : s2 ≤ 2 ^ N) (hm0 : ∀ z, z < s2 → m0 z = nI (mkP (fun z => gvF oo ik z N) z (z + 1))) (hms : 2 ^ N - s2 < nn), KW p l e ({ frames := 1, cells := 0, slots := 0, locals := 21 }) s m ([.ref (a 0)] : List Value).toArray below meth c 0 0 (MQ below (va_Qv (fun (u : (Nat → Int32) × (Nat → Int32)) => (∀ set, set < 2 ^ N → u.1 set = nI (gvF oo ik set N)) ∧ (∀ set, set < 2 ^ N → u.2 set = nI (mkP (fun z => gvF oo ik z N) set (set + 1)))) (fun (u : (Nat → Int32) × (Nat → Int32)) t => PO G A (kMod y a th Sr dr pa um im ikp tx ty sn sm at1 pl tk vl fa pf odr u.1 u.2 bo bq) t) A) ([.ref (a 0)] : List Value).toArray s 0 0 A) G A 4 (kMod y a th Sr dr pa um im ikp tx ty sn sm at1 pl tk vl fa pf odr g0 m0 bo bq) [(1, .int (nI s2)), (0, .ref (a 0))] 86 [] := by
          intro nn
          induction nn with
          | zero => intro s2 m0 hs2 hm0 hms; exact absurd hms (Nat.not_lt_zero _)
          | succ nn ih_86 =>
            intro s2 m0 hs2 hm0 hms
            refine kw_iload_n C 0 dX7_mixes_86 rfl ?_
            refine kw_iconst (v := nI 1) C dX7_mixes_87 (by decide) ?_
            refine kw_aload_n C 1 dX7_mixes_88 rfl ?_
            refine kw_get (v := .ref (a 1)) (T := TX7) C 0 1 rfl rfl (by decide) (fun w h => mT (fwX7 w h)) rfl (mT wd_616) rfl dX7_mixes_89 ?_
            refine kw_iconst (v := nI 2) C dX7_mixes_92 (by decide) ?_
            refine kw_iald (f := Sr) C 1 rfl (by omega) (by decide) dX7_mixes_93 ?_
            refine kw_top (show (Sr 2) = (nI N) from by exact hS2) ?_
            refine kw_ishl C dX7_mixes_94 (kw_top (n_shl1 (by omega)) ?_)
            refine kw_icmp_ge_N (tgt := 153) C (by omega) (by omega) dX7_mixes_95 (by decide) (fun c_95 => ?_) (fun c_95 => ?_)
            ·
              refine kR_v C (g0, m0) dX7_mixes_153 ?_ rfl
              exact ⟨fun z hz => hg0 z (by omega), fun z hz => hm0 z (by omega)⟩
            ·
              refine kw_aload_n C 1 dX7_mixes_98 rfl ?_
              refine kw_get (v := .ref (a 11)) (T := TX7) C 0 19 rfl rfl (by decide) (fun w h => mT (fwX7 w h)) rfl (mT wd_634) rfl dX7_mixes_99 ?_
              refine kw_iload_n C 0 dX7_mixes_102 rfl ?_
              refine kw_iconst (v := nI 0) C dX7_mixes_103 (by decide) ?_
              refine kw_iast C 11 (kMod y a th Sr dr pa um im ikp tx ty sn sm at1 pl tk vl fa pf odr g0 (upd m0 s2 (nI 0)) bo bq) rfl (by omega) (by decide) dX7_mixes_104 rfl ?_
              refine kw_iconst (v := nI 0) C dX7_mixes_105 (by decide) ?_
              refine kw_istore_n C [(2, .int (nI 0)), (1, .int (nI s2)), (0, .ref (a 0))] dX7_mixes_106 rfl (by decide) rfl ?_
              have L107_3 : ∀ (nn : Nat) (p0 : Nat) (m1 : Nat → Int32) (hp0 : p0 ≤ s2 + 1) (hm1 : ∀ z, z ≠ s2 → m1 z = m0 z) (hm2 : m1 s2 = nI (mkP (fun z => gvF oo ik z N) s2 p0)) (hms : s2 + 1 - p0 < nn), KW p l e ({ frames := 1, cells := 0, slots := 0, locals := 21 }) s m ([.ref (a 0)] : List Value).toArray below meth c 0 0 (MQ below (va_Qv (fun (u : (Nat → Int32) × (Nat → Int32)) => (∀ set, set < 2 ^ N → u.1 set = nI (gvF oo ik set N)) ∧ (∀ set, set < 2 ^ N → u.2 set = nI (mkP (fun z => gvF oo ik z N) set (set + 1)))) (fun (u : (Nat → Int32) × (Nat → Int32)) t => PO G A (kMod y a th Sr dr pa um im ikp tx ty sn sm at1 pl tk vl fa pf odr u.1 u.2 bo bq) t) A) ([.ref (a 0)] : List Value).toArray s 0 0 A) G A 4 (kMod y a th Sr dr pa um im ikp tx ty sn sm at1 pl tk vl fa pf odr g0 m1 bo bq) [(2, .int (nI p0)), (1, .int (nI s2)), (0, .ref (a 0))] 107 [] := by
                intro nn
                induction nn with
                | zero => intro p0 m1 hp0 hm1 hm2 hms; exact absurd hms (Nat.not_lt_zero _)
                | succ nn ih_107 =>
                  intro p0 m1 hp0 hm1 hm2 hms
                  refine kw_iload_n C 0 dX7_mixes_107 rfl ?_
                  refine kw_iload_n C 1 dX7_mixes_108 rfl ?_
                  refine kw_icmp_gt_N (tgt := 147) C (by omega) (by omega) dX7_mixes_109 (by decide) (fun c_109 => ?_) (fun c_109 => ?_)
                  ·
                    refine kw_iinc (v := nI (s2 + 1)) C [(1, .int (nI (s2 + 1))), (2, .int (nI p0)), (0, .ref (a 0))] 1 dX7_mixes_147 rfl (nI_1 _) (by decide) rfl ?_
                    refine kw_goto (tgt := 86) C dX7_mixes_150 (by decide) ?_
                    refine KW.loc (lv' := [(1, .int (nI (s2 + 1))), (0, .ref (a 0))]) [0, 2] rfl ?_
                    exact ih_86 (s2 + 1) m1 (by first | assumption | omega | (simp; done)) (by intro z hz; rcases Nat.lt_or_ge z s2 with h | h; rw [hm1 z (by omega)]; exact hm0 z h; rw [show z = s2 from by omega, hm2, show p0 = s2 + 1 from by omega]) (by omega)
                  ·
                    refine kw_aload_n C 2 dX7_mixes_112 rfl ?_
                    refine kw_get (v := .ref (a 11)) (T := TX7) C 0 19 rfl rfl (by decide) (fun w h => mT (fwX7 w h)) rfl (mT wd_634) rfl dX7_mixes_113 ?_
                    refine kw_iload_n C 1 dX7_mixes_116 rfl ?_
                    refine kw_dup2_11 C dX7_mixes_117 rfl rfl ?_
                    refine kw_iald (f := m1) C 11 rfl (by omega) (by decide) dX7_mixes_118 ?_
                    refine kw_top (show (m1 s2) = (nI (mkP (fun z => gvF oo ik z N) s2 p0)) from by exact hm2) ?_
                    refine kw_iload_n C 0 dX7_mixes_119 rfl ?_
                    refine kw_iload_n C 1 dX7_mixes_120 rfl ?_
                    refine kw_iconst (v := (-1)) C dX7_mixes_121 (by decide) ?_
                    refine kw_ixor C dX7_mixes_122 ?_
                    refine kw_iand C dX7_mixes_123 ?_
                    refine kw_if_ne (tgt := 138) C dX7_mixes_124 (by decide) (fun c_124 => ?_) (fun c_124 => ?_)
                    ·
                      refine kw_iconst (v := nI 0) C dX7_mixes_138 (by decide) ?_
                      refine kw_ior C dX7_mixes_139 (kw_top (n_or _ _) ?_)
                      refine kw_iast C 11 (kMod y a th Sr dr pa um im ikp tx ty sn sm at1 pl tk vl fa pf odr g0 (upd m1 s2 (nI ((mkP (fun z => gvF oo ik z N) s2 p0) ||| 0))) bo bq) rfl (by omega) (by decide) dX7_mixes_140 rfl ?_
                      refine kw_iinc (v := nI (p0 + 1)) C [(2, .int (nI (p0 + 1))), (1, .int (nI s2)), (0, .ref (a 0))] 0 dX7_mixes_141 rfl (nI_1 _) (by decide) rfl ?_
                      refine kw_goto (tgt := 107) C dX7_mixes_144 (by decide) ?_
                      refine KW.loc (lv' := [(2, .int (nI (p0 + 1))), (1, .int (nI s2)), (0, .ref (a 0))]) [0, 1, 2] rfl ?_
                      exact ih_107 (p0 + 1) (upd m1 s2 (nI ((mkP (fun z => gvF oo ik z N) s2 p0) ||| 0))) (by first | assumption | omega | (simp; done)) (by intro z hz; rw [pk_un hz]; exact hm1 z hz) (by rw [pk_us]; first | (simp only [mkP]; rw [if_pos c_124]; done) | (simp only [mkP]; rw [if_neg c_124, Nat.or_zero]; done)) (by omega)
                    ·
                      refine kw_iconst (v := nI 1) C dX7_mixes_127 (by decide) ?_
                      refine kw_aload_n C 2 dX7_mixes_128 rfl ?_
                      refine kw_get (v := .ref (a 10)) (T := TX7) C 0 18 rfl rfl (by decide) (fun w h => mT (fwX7 w h)) rfl (mT wd_633) rfl dX7_mixes_129 ?_
                      refine kw_iload_n C 0 dX7_mixes_132 rfl ?_
                      refine kw_iald (f := g0) C 10 rfl (by omega) (by decide) dX7_mixes_133 ?_
                      refine kw_top (show (g0 p0) = (nI (gvF oo ik p0 N)) from by exact hg0 p0 (by omega)) ?_
                      have hg8 := gvF_lt p0 (fun q h => (hoo q h).2) (fun q h => (hink q h).2) N (Nat.le_refl N)
                      refine kw_ishl C dX7_mixes_134 (kw_top (n_shl1 (by omega)) ?_)
                      refine kw_goto (tgt := 139) C dX7_mixes_135 (by decide) ?_
                      refine kw_ior C dX7_mixes_139 (kw_top (n_or _ _) ?_)
                      refine kw_iast C 11 (kMod y a th Sr dr pa um im ikp tx ty sn sm at1 pl tk vl fa pf odr g0 (upd m1 s2 (nI ((mkP (fun z => gvF oo ik z N) s2 p0) ||| (2 ^ (gvF oo ik p0 N))))) bo bq) rfl (by omega) (by decide) dX7_mixes_140 rfl ?_
                      refine kw_iinc (v := nI (p0 + 1)) C [(2, .int (nI (p0 + 1))), (1, .int (nI s2)), (0, .ref (a 0))] 0 dX7_mixes_141 rfl (nI_1 _) (by decide) rfl ?_
                      refine kw_goto (tgt := 107) C dX7_mixes_144 (by decide) ?_
                      refine KW.loc (lv' := [(2, .int (nI (p0 + 1))), (1, .int (nI s2)), (0, .ref (a 0))]) [0, 1, 2] rfl ?_
                      exact ih_107 (p0 + 1) (upd m1 s2 (nI ((mkP (fun z => gvF oo ik z N) s2 p0) ||| (2 ^ (gvF oo ik p0 N))))) (by first | assumption | omega | (simp; done)) (by intro z hz; rw [pk_un hz]; exact hm1 z hz) (by rw [pk_us]; first | (simp only [mkP]; rw [if_pos c_124]; done) | (simp only [mkP]; rw [if_neg c_124, Nat.or_zero]; done)) (by omega)
              refine KW.loc (lv' := [(2, .int (nI 0)), (1, .int (nI s2)), (0, .ref (a 0))]) [0, 1, 2] rfl ?_
              exact L107_3 (s2 + 1 - 0 + 1) 0 (upd m0 s2 (nI 0)) (by first | assumption | omega | (simp; done)) (by intro z hz; exact pk_un hz) (by exact pk_us) (Nat.lt_succ_self _)
        refine KW.loc (lv' := [(1, .int (nI 0)), (0, .ref (a 0))]) [0, 1] rfl ?_
        exact L86_2 (2 ^ N - 0 + 1) 0 mk (by first | assumption | omega | (simp; done)) (by intro z hz; exact absurd hz (Nat.not_lt_zero _)) (Nat.lt_succ_self _)
      ·
        refine kw_iconst (v := nI 0) C dX7_mixes_14 (by decide) ?_
        refine kw_istore_n C [(2, .int (nI 0)), (1, .int (nI set)), (0, .ref (a 0))] dX7_mixes_15 rfl (by decide) rfl ?_
        refine kw_iconst (v := nI 0) C dX7_mixes_16 (by decide) ?_
        refine kw_istore_n C [(3, .int (nI 0)), (2, .int (nI 0)), (1, .int (nI set)), (0, .ref (a 0))] dX7_mixes_17 rfl (by decide) rfl ?_
        have L18_4 : ∀ (nn : Nat) (q0 : Nat) (hq0 : q0 ≤ N) (hms : N - q0 < nn), KW p l e ({ frames := 1, cells := 0, slots := 0, locals := 21 }) s m ([.ref (a 0)] : List Value).toArray below meth c 0 0 (MQ below (va_Qv (fun (u : (Nat → Int32) × (Nat → Int32)) => (∀ set, set < 2 ^ N → u.1 set = nI (gvF oo ik set N)) ∧ (∀ set, set < 2 ^ N → u.2 set = nI (mkP (fun z => gvF oo ik z N) set (set + 1)))) (fun (u : (Nat → Int32) × (Nat → Int32)) t => PO G A (kMod y a th Sr dr pa um im ikp tx ty sn sm at1 pl tk vl fa pf odr u.1 u.2 bo bq) t) A) ([.ref (a 0)] : List Value).toArray s 0 0 A) G A 4 (kMod y a th Sr dr pa um im ikp tx ty sn sm at1 pl tk vl fa pf odr g0 mk bo bq) [(3, .int (nI q0)), (2, .int (nI (gvF oo ik set q0))), (1, .int (nI set)), (0, .ref (a 0))] 18 [] := by
          intro nn
          induction nn with
          | zero => intro q0 hq0 hms; exact absurd hms (Nat.not_lt_zero _)
          | succ nn ih_18 =>
            intro q0 hq0 hms
            refine kw_iload_n C 0 dX7_mixes_18 rfl ?_
            refine kw_aload_n C 3 dX7_mixes_19 rfl ?_
            refine kw_get (v := .ref (a 1)) (T := TX7) C 0 1 rfl rfl (by decide) (fun w h => mT (fwX7 w h)) rfl (mT wd_616) rfl dX7_mixes_20 ?_
            refine kw_iconst (v := nI 2) C dX7_mixes_23 (by decide) ?_
            refine kw_iald (f := Sr) C 1 rfl (by omega) (by decide) dX7_mixes_24 ?_
            refine kw_top (show (Sr 2) = (nI N) from by exact hS2) ?_
            refine kw_icmp_ge_N (tgt := 71) C (by omega) (by omega) dX7_mixes_25 (by decide) (fun c_25 => ?_) (fun c_25 => ?_)
            ·
              refine kw_aload_n C 3 dX7_mixes_71 rfl ?_
              refine kw_get (v := .ref (a 10)) (T := TX7) C 0 18 rfl rfl (by decide) (fun w h => mT (fwX7 w h)) rfl (mT wd_633) rfl dX7_mixes_72 ?_
              refine kw_iload_n C 2 dX7_mixes_75 rfl ?_
              refine kw_iload_n C 1 dX7_mixes_76 rfl ?_
              refine kw_iast C 10 (kMod y a th Sr dr pa um im ikp tx ty sn sm at1 pl tk vl fa pf odr (upd g0 set (nI (gvF oo ik set q0))) mk bo bq) rfl (by omega) (by decide) dX7_mixes_77 rfl ?_
              refine kw_iinc (v := nI (set + 1)) C [(1, .int (nI (set + 1))), (3, .int (nI q0)), (2, .int (nI (gvF oo ik set q0))), (0, .ref (a 0))] 2 dX7_mixes_78 rfl (nI_1 _) (by decide) rfl ?_
              refine kw_goto (tgt := 2) C dX7_mixes_81 (by decide) ?_
              refine KW.loc (lv' := [(1, .int (nI (set + 1))), (0, .ref (a 0))]) [0, 3] rfl ?_
              exact ih_2 (set + 1) (upd g0 set (nI (gvF oo ik set q0))) (by first | assumption | omega | (simp; done)) (by intro z hz; rcases Nat.lt_or_ge z set with h | h; rw [pk_un (by omega)]; exact hg0 z h; rw [show z = set from by omega, pk_us, show q0 = N from by omega]) (by omega)
            ·
              refine kw_iload_n C 2 dX7_mixes_28 rfl ?_
              refine kw_aload_n C 3 dX7_mixes_29 rfl ?_
              refine kw_get (v := .ref (a 9)) (T := TX7) C 0 17 rfl rfl (by decide) (fun w h => mT (fwX7 w h)) rfl (mT wd_632) rfl dX7_mixes_30 ?_
              refine kw_iload_n C 0 dX7_mixes_33 rfl ?_
              refine kw_iald (f := odr) C 9 rfl (by omega) (by decide) dX7_mixes_34 ?_
              refine kw_top (show (odr q0) = (nI (oo (q0))) from by exact (hoo (q0) (by first | assumption | omega)).1) ?_
              have hl_34 := (hoo (q0) (by first | assumption | omega)).2
              refine kw_ishr C dX7_mixes_35 (kw_top (n_shr (by omega) (by omega)) ?_)
              refine kw_iconst (v := nI 1) C dX7_mixes_36 (by decide) ?_
              refine kw_iand C dX7_mixes_37 (kw_top (n_and _ _) ?_)
              refine kw_iconst (v := nI 1) C dX7_mixes_38 (by decide) ?_
              refine kw_icmp_ne_N (tgt := 63) C (by first | decide | exact Nat.lt_of_le_of_lt Nat.and_le_right (by decide)) (by first | decide | exact Nat.lt_of_le_of_lt Nat.and_le_right (by decide)) dX7_mixes_39 (by decide) (fun c_39 => ?_) (fun c_39 => ?_)
              ·
                refine kw_iload_n C 1 dX7_mixes_63 rfl ?_
                refine kw_istore_n C [(2, .int (nI (gvF oo ik set q0))), (3, .int (nI q0)), (1, .int (nI set)), (0, .ref (a 0))] dX7_mixes_64 rfl (by decide) rfl ?_
                refine kw_iinc (v := nI (q0 + 1)) C [(3, .int (nI (q0 + 1))), (2, .int (nI (gvF oo ik set q0))), (1, .int (nI set)), (0, .ref (a 0))] 1 dX7_mixes_65 rfl (nI_1 _) (by decide) rfl ?_
                refine kw_goto (tgt := 18) C dX7_mixes_68 (by decide) ?_
                refine KW.loc (lv' := [(3, .int (nI (q0 + 1))), (2, .int (nI (gvF oo ik set q0))), (1, .int (nI set)), (0, .ref (a 0))]) [0, 1, 2, 3] rfl ?_
                refine KW.asl (congrArg (fun zz => ([(3, .int (nI (q0 + 1))), (2, .int zz), (1, .int (nI set)), (0, .ref (a 0))] : List (Nat × Value))) (show (nI (gvF oo ik set q0)) = (nI (gvF oo ik set (q0 + 1))) from by first | (simp only [gvF]; rw [if_pos (tbm_t c_39)]; done) | (simp only [gvF]; rw [if_neg (by rw [tbm_f c_39]; decide)]; done))) ?_
                exact ih_18 (q0 + 1) (by first | assumption | omega | (simp; done)) (by omega)
              ·
                refine kw_aload_n C 3 dX7_mixes_42 rfl ?_
                refine kw_get (v := .ref (a 1)) (T := TX7) C 0 1 rfl rfl (by decide) (fun w h => mT (fwX7 w h)) rfl (mT wd_616) rfl dX7_mixes_43 ?_
                refine kw_bipush (v := nI 39) C dX7_mixes_46 (by decide) ?_
                refine kw_aload_n C 3 dX7_mixes_48 rfl ?_
                refine kw_get (v := .ref (a 9)) (T := TX7) C 0 17 rfl rfl (by decide) (fun w h => mT (fwX7 w h)) rfl (mT wd_632) rfl dX7_mixes_49 ?_
                refine kw_iload_n C 0 dX7_mixes_52 rfl ?_
                refine kw_iald (f := odr) C 9 rfl (by omega) (by decide) dX7_mixes_53 ?_
                refine kw_top (show (odr q0) = (nI (oo (q0))) from by exact (hoo (q0) (by first | assumption | omega)).1) ?_
                have hl_53 := (hoo (q0) (by first | assumption | omega)).2
                refine kw_iadd C dX7_mixes_54 (kw_top (nI_add _ _) ?_)
                refine kw_iald (f := Sr) C 1 rfl (by omega) (by decide) dX7_mixes_55 ?_
                refine kw_top (show (Sr (39 + (oo (q0)))) = (nI (ik (oo q0))) from by exact (hink (oo q0) (by first | assumption | omega)).1) ?_
                have hl_55 := (hink (oo q0) (by first | assumption | omega)).2
                refine kw_iload_n C 1 dX7_mixes_56 rfl ?_
                refine kS_i (As := [.int (nI (ik (oo q0))), .int (nI (gvF oo ik set q0))]) (rest := []) (ws' := fun (u : Unit) => kMod y a th Sr dr pa um im ikp tx ty sn sm at1 pl tk vl fa pf odr g0 mk bo bq) C (c_X7_printed l G y t (ik (oo q0)) (gvF oo ik set q0) (by first | assumption | omega | decide)) (va_cwS 2 C.2.2.2.2.1 (goodS cT wd_747 wd_745 wd_746 wd_48) rfl rfl rfl (by decide +kernel) ⟨by decide, by decide⟩) [] [0, 1, 2, 3, 4, 5, 6, 7, 8, 9, 10, 11, 12, 13] [0, 1, 2, 3, 4, 5, 6, 7, 8, 9, 10, 11, 12, 13] rfl (by decide) rfl (by decide) (by decide) (fun _ => rfl) (by decide) rfl (Nat.le_of_ble_eq_true rfl) ⟨by decide, by decide⟩ dX7_mixes_57 (fun r u hr_5 => ?_)
                subst hr_5
                
                refine kw_goto (tgt := 64) C dX7_mixes_60 (by decide) ?_
                refine kw_istore_n C [(2, .int (nI (prN (ik (oo q0)) (gvF oo ik set q0)))), (3, .int (nI q0)), (1, .int (nI set)), (0, .ref (a 0))] dX7_mixes_64 rfl (by decide) rfl ?_
                refine kw_iinc (v := nI (q0 + 1)) C [(3, .int (nI (q0 + 1))), (2, .int (nI (prN (ik (oo q0)) (gvF oo ik set q0)))), (1, .int (nI set)), (0, .ref (a 0))] 1 dX7_mixes_65 rfl (nI_1 _) (by decide) rfl ?_
                refine kw_goto (tgt := 18) C dX7_mixes_68 (by decide) ?_
                refine KW.loc (lv' := [(3, .int (nI (q0 + 1))), (2, .int (nI (prN (ik (oo q0)) (gvF oo ik set q0)))), (1, .int (nI set)), (0, .ref (a 0))]) [0, 1, 2, 3] rfl ?_
                refine KW.asl (congrArg (fun zz => ([(3, .int (nI (q0 + 1))), (2, .int zz), (1, .int (nI set)), (0, .ref (a 0))] : List (Nat × Value))) (show (nI (prN (ik (oo q0)) (gvF oo ik set q0))) = (nI (gvF oo ik set (q0 + 1))) from by first | (simp only [gvF]; rw [if_pos (tbm_t c_39)]; done) | (simp only [gvF]; rw [if_neg (by rw [tbm_f c_39]; decide)]; done))) ?_
                exact ih_18 (q0 + 1) (by first | assumption | omega | (simp; done)) (by omega)
        refine KW.loc (lv' := [(3, .int (nI 0)), (2, .int (nI 0)), (1, .int (nI set)), (0, .ref (a 0))]) [0, 1, 2, 3] rfl ?_
        refine KW.asl (congrArg (fun zz => ([(3, .int (nI 0)), (2, .int zz), (1, .int (nI set)), (0, .ref (a 0))] : List (Nat × Value))) (show (nI 0) = (nI (gvF oo ik set 0)) from by rfl)) ?_
        exact L18_4 (N - 0 + 1) 0 (by first | assumption | omega | (simp; done)) (Nat.lt_succ_self _)
  refine KW.loc (lv' := [(1, .int (nI 0)), (0, .ref (a 0))]) [0, 1] rfl ?_
  exact L2_1 (2 ^ N - 0 + 1) 0 gv (by first | assumption | omega | (simp; done)) (by intro z hz; exact absurd hz (Nat.not_lt_zero _)) (Nat.lt_succ_self _)
