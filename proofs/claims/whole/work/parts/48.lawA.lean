/-! the law: its world and what it keeps -/
def LL (y : Nat → ClassId) (q a : Nat → Nat) (kp : Nat → Int32) (W H N D : Nat) (p1 p2 p3 : Int64) (col od : Nat → Int32) (blk : Nat → Int64) (slp : Nat → Int32) (wt : TWork) (n it fg : Nat) (ltr : Nat → Int32) (k mm : Nat) (wp wi : Nat → TWork) (M : Nat) (g1 g2 g3 : Int64) (xs ys cs tal : Nat → Int32) (pal : Int32) (fnd : Bool) (few bst : Int32) (srw : Nat → Int32) (r1 r2 r3 : Int64)
    (th : Int32) (Sr dr pa im ikp tx sn : Nat → Int32) (at1 pl tk vl fa : Int32) (pf odr gv mk bo bq : Nat → Int32) : List va_W :=
  [kMain y q ((fun i => some (q (55 + 6 * i))), kp), kWork y (fun i => q (3 + i)) (nI W, nI H, nI N, nI D, p1, p2, p3, col, od, blk, slp), kWork y (fun i => q (9 + i)) wt, kText y (fun i => q (15 + i)) (nI n, nI it, nI fg, ltr), kPast y (fun i => q (17 + i)) (nI k, nI mm, (fun i => some (q (19 + 6 * i)))),
   kWork y (fun i => q (19 + i)) (wp 0), kWork y (fun i => q (25 + i)) (wp 1), kWork y (fun i => q (31 + i)) (wp 2), kWork y (fun i => q (37 + i)) (wp 3), kWork y (fun i => q (43 + i)) (wp 4), kWork y (fun i => q (49 + i)) (wp 5), kWork y (fun i => q (55 + i)) (wi 0), kWork y (fun i => q (61 + i)) (wi 1),
   kSight y (fun i => q (67 + i)) (nI M, g1, g2, g3, xs, ys, cs, tal), kSearch y (fun i => q (73 + i)) (pal, bI fnd, few, bst, srw), kSheet (q 75) (r1, r2, r3), kMod y a th Sr dr pa (nI mm) im ikp tx (nI n) sn (nI M) at1 pl tk vl fa pf odr gv mk bo bq]
def Inv (W H N D : Nat) (p1 p2 p3 : Int64) (col od : Nat → Int32) (blk : Nat → Int64) (slp : Nat → Int32) (n : Nat) (ltr : Nat → Int32) (k mm : Nat) (wp : Nat → TWork) (kp : Nat → Int32) (wi : Nat → TWork) (M : Nat) (xs ys cs : Nat → Int32) (Sr pa im ikp tx sn : Nat → Int32) : Prop :=
  (∃ pcl ik o bk kk : Nat → Nat, WRel W H N D p1 p2 p3 col od blk slp Sr pcl ik o bk kk) ∧ TRl n ltr tx ∧ PRl k mm wp pa ∧ IRl kp ikp wi im ∧ SRl M xs ys cs sn
theorem WRel_pre {W H N D : Nat} {p1 p2 p3 : Int64} {col od : Nat → Int32} {blk : Nat → Int64} {slp Sr : Nat → Int32} {pcl ik o bk kk : Nat → Nat} (h : WRel W H N D p1 p2 p3 col od blk slp Sr pcl ik o bk kk) : W ≤ 6 ∧ H ≤ 6 ∧ N ≤ 6 ∧ D < 64 ∧ (∀ q, q < N → od q = nI (o q) ∧ o q < N) ∧ (∀ i, i < N → col i = nI (ik i % 8) ∧ ik i % 8 < 8) ∧ (∀ i, i < N → slp i = nI (kk i) ∧ kk i < 9) := by
  obtain ⟨⟨_, _, _, hW, hH, hN, hpc, hik, hor, hbk, hsl⟩, hD, hcol, hod, hinj, hslp, hb, hp⟩ := h
  exact ⟨hW, hH, hN, Nat.lt_of_lt_of_le hD (pow6 hN), fun q hq => ⟨hod q hq, (hor q hq).2⟩, fun i hi => ⟨(hcol i hi).1, Nat.mod_lt _ (by decide)⟩, fun i hi => ⟨hslp i hi, (hsl i hi).2.2⟩⟩
theorem fl1 (a : va_W) : [a].flatten = a := by simp
theorem fl2 (a b : va_W) : [a, b].flatten = a ++ b := by simp
theorem fl3 (a b c : va_W) : [a, b, c].flatten = a ++ (b ++ c) := by simp
theorem fl4 (a b c d : va_W) : [a, b, c, d].flatten = a ++ (b ++ (c ++ d)) := by simp
theorem fl9 (a b c d e f g h i : va_W) : [a, b, c, d, e, f, g, h, i].flatten = a ++ (b ++ (c ++ (d ++ (e ++ (f ++ (g ++ (h ++ i))))))) := by simp
theorem fl10 (a b c d e f g h i j : va_W) : [a, b, c, d, e, f, g, h, i, j].flatten = a ++ (b ++ (c ++ (d ++ (e ++ (f ++ (g ++ (h ++ (i ++ j)))))))) := by simp
theorem fl12 (a b c d e f g h i j k l : va_W) : [a, b, c, d, e, f, g, h, i, j, k, l].flatten = a ++ (b ++ (c ++ (d ++ (e ++ (f ++ (g ++ (h ++ (i ++ (j ++ (k ++ l)))))))))) := by simp
theorem nin2 {x : Int32} (h0 : ¬ x = 0) (h1 : ¬ x = 1) : ¬ inR x 2 := fun h => by
  obtain ⟨k, hk, e⟩ := inR_nI h
  rcases (show k = 0 ∨ k = 1 by omega) with rfl | rfl
  · exact h0 e
  · exact h1 e
theorem nin3 {x : Int32} (h0 : ¬ x = 0) (h1 : ¬ x = 1) (h2 : ¬ x = 2) : ¬ inR x 3 := fun h => by
  obtain ⟨k, hk, e⟩ := inR_nI h
  rcases (show k = 0 ∨ k = 1 ∨ k = 2 by omega) with rfl | rfl | rfl
  · exact h0 e
  · exact h1 e
  · exact h2 e
theorem nin6 {x : Int32} (h0 : ¬ x = 0) (h1 : ¬ x = 1) (h2 : ¬ x = 2) (h3 : ¬ x = 3) (h4 : ¬ x = 4) (h5 : ¬ x = 5) : ¬ inR x 6 := fun h => by
  obtain ⟨k, hk, e⟩ := inR_nI h
  rcases (show k = 0 ∨ k = 1 ∨ k = 2 ∨ k = 3 ∨ k = 4 ∨ k = 5 by omega) with rfl | rfl | rfl | rfl | rfl | rfl
  · exact h0 e
  · exact h1 e
  · exact h2 e
  · exact h3 e
  · exact h4 e
  · exact h5 e
/-- -1 and on: a guess' number -/
theorem gs_ex {x : Int32} {N : Nat} (hN : N < 2 ^ 30) (h : ¬ x < -1) (h2 : ¬ nI N ≤ x) : ∃ g, g ≤ N ∧ x = gs g := by
  have a : ¬ x.toInt < (-1 : Int32).toInt := fun q => h (Int32.lt_iff_toInt_lt.mpr q)
  have b : ¬ (nI N).toInt ≤ x.toInt := fun q => h2 (Int32.le_iff_toInt_le.mpr q)
  rw [nI_toInt (by omega)] at b
  have z : (-1 : Int32).toInt = -1 := by decide
  rcases Int.lt_or_le x.toInt 0 with g | g
  · exact ⟨0, Nat.zero_le _, by rw [gs_0]; exact Int32.toInt_inj.mp (by omega)⟩
  · refine ⟨x.toInt.toNat + 1, by omega, ?_⟩
    rw [gs_s]
    apply Int32.toInt_inj.mp
    rw [nI_toInt (by omega)]; omega
/-- where an ink stands -/
theorem place_ex {N : Nat} {o : Nat → Nat} (ho : ∀ q, q < N → o q < N) (hinj : ∀ q z, q < N → z < N → o q = o z → q = z) {i : Nat} (hi : i < N) : ∃ q, q < N ∧ o q = i ∧ ∀ z, z < q → o z ≠ i := by
  have hl : ((List.range N).map o).Nodup := by
    refine List.pairwise_map.mpr (List.Pairwise.imp_of_mem ?_ List.nodup_range)
    intro a b ha hb hab e
    exact hab (hinj a b (List.mem_range.mp ha) (List.mem_range.mp hb) e)
  have hm : i ∈ (List.range N).map o := by
    refine Classical.byContradiction (fun h => ?_)
    have h1 : (i :: (List.range N).map o).Nodup := List.nodup_cons.mpr ⟨h, hl⟩
    have h2 := List.Nodup.length_le_of_subset h1 (l₂ := List.range N) (fun x hx => by
      rcases List.mem_cons.mp hx with rfl | hx
      · exact List.mem_range.mpr hi
      · obtain ⟨z, hz, rfl⟩ := List.mem_map.mp hx
        exact List.mem_range.mpr (ho z (List.mem_range.mp hz)))
    rw [List.length_cons, List.length_map, List.length_range] at h2
    omega
  obtain ⟨q0, hq0, e0⟩ := List.mem_map.mp hm
  obtain ⟨q, h1, h2, h3⟩ := least_of (P := fun q => o q = i) q0 e0
  exact ⟨q, Nat.lt_of_le_of_lt h1 (List.mem_range.mp hq0), h2, h3⟩
section LAW
variable {p : Program} {l : Launch} {e : Env} {R : Room} {s : State} {m : MethodId} {args : Array Value} {below : List Frame} {meth : Method} {c : Code} {cells slots : Nat} {Q : State → Prop}
variable {G : va_G} {A : Nat → Prop} {nL : Nat} {cc : ByteArray} {own : String} {Ts : List Cond} {ret : Option FieldType} {y : Nat → ClassId} {t : Nat} {ws : va_W} {lv : List (Nat × Value)} {pc : Nat} {rest : List Value}
theorem kw_sld (C : Cx p s m args meth c cc nL own Ts ret A G y t) {b L : Nat} {zs : Nat → Int32} (hX : va_X b L zs s s.heap ∧ b < s.heap.size ∧ ¬ A b ∧ L ≤ 2048) {j : Nat} (hj : j < L) (hdg : decode cc pc = .ok (.iaload, 1)) (kk : KW p l e R s m args below meth c cells slots Q G A nL ws lv (pc + 1) (.int (zs j) :: rest)) : KW p l e R s m args below meth c cells slots Q G A nL ws lv pc (.int (nI j) :: .ref b :: rest) := fun H locs ls hP hD hS hl => va_sld C.1 C.2.1 hX.1 hX.2.1 hX.2.2.1 hS (vp_in_nI hj (by have := hX.2.2.2; omega)) hdg (by rw [nI_clamp (by have := hX.2.2.2; omega)]; exact kk H locs ls hP hD hS hl)
/-- an int of the script -/
theorem kw_arg (C : Cx p s m args meth c cc nL own Ts ret A G y t) {b L i : Nat} {zs : Nat → Int32} (hX : va_X b L zs s s.heap ∧ b < s.heap.size ∧ ¬ A b ∧ L ≤ 2048) (hi : i + 3 < L) (j : Nat) {jj : Int} {v : Int32} (hv : zs (i + j) = v) (hj : j ≤ 3) (hjj : Int32.ofInt jj = nI j) (hlv0 : lv[3]? = some (0, .ref b)) (hlv3 : lv[0]? = some (3, .int (nI i))) (d0 : decode cc pc = .ok (.aload_n 0, 1)) (d1 : decode cc (pc + 1) = .ok (.iload_n 3, 1)) (d2 : decode cc (pc + 2) = .ok (.iconst jj, 1)) (d3 : decode cc (pc + 3) = .ok (.iadd, 1)) (d4 : decode cc (pc + 4) = .ok (.iaload, 1)) (kk : KW p l e R s m args below meth c cells slots Q G A nL ws lv (pc + 5) (.int v :: rest)) : KW p l e R s m args below meth c cells slots Q G A nL ws lv pc rest := by
  refine kw_aload_n C 3 d0 hlv0 ?_
  refine kw_iload_n C 0 d1 hlv3 ?_
  refine kw_iconst C d2 hjj ?_
  refine kw_iadd C d3 ?_
  refine kw_top (x' := nI (i + j)) (nI_add i j) ?_
  refine kw_sld C hX (by omega) d4 ?_
  exact kw_top hv kk
end LAW
