/-! answers that are alike -/
theorem carve_eq {W H N D : Nat} {p1 p2 p3 : Int64} {blk : Nat → Int64} {pcl ik o bk kk : Nat → Nat} (h : BR W H N D p1 p2 p3 blk pcl ik o bk kk) {ii xx zz : Nat} (hii : ii < N) (hxx : xx < W) (hzz : zz < H) : tl (blk ii ^^^ cbL (8 * zz + xx)) (8 * zz + xx) = (bk (6 * ii + zz) ^^^ 2 ^ xx).testBit xx := by
  obtain ⟨hW, hH, hN, ho, hinj, hi, hk, hb, hbk, hp, h8⟩ := h
  rw [tl_b (by omega), bL_xor, bL_cb _ (by omega) _ (by omega), hb ii zz xx hii (by omega) (by omega), decide_eq_true (show xx < 6 ∧ zz < 6 by omega), Bool.true_and, decide_eq_true rfl, Nat.testBit_xor, Nat.testBit_two_pow_self]
theorem dens_t : ∀ v, v < 16 → bI (decide (8 ≤ v)) = nI (v / 8) := by decide
theorem least_eq {W H N D : Nat} {p1 p2 p3 : Int64} {blk : Nat → Int64} {pcl ik o bk kk : Nat → Nat} (h : BR W H N D p1 p2 p3 blk pcl ik o bk kk) : (if lsF (palN p1 p2 p3 (papL W H) 8) (fun set => cbyF D o (fun i => ik i % 8) set N) (2 ^ N) = -9 then lsF (palN p1 p2 p3 (papL W H) 8) (fun set => cbyF D o (fun i => ik i % 8) set N) (2 ^ N) else pcI (lsF (palN p1 p2 p3 (papL W H) 8) (fun set => cbyF D o (fun i => ik i % 8) set N) (2 ^ N))) = if lsM (wtY pcl W H) (fun z => mkP (fun z => gvF o ik z N) z (z + 1)) (2 ^ N) = -9 then lsM (wtY pcl W H) (fun z => mkP (fun z => gvF o ik z N) z (z + 1)) (2 ^ N) else onI (lsM (wtY pcl W H) (fun z => mkP (fun z => gvF o ik z N) z (z + 1)) (2 ^ N)) 8 := by
  have h64 := pow6 h.2.2.1
  obtain ⟨e, k⟩ := h.least
  rw [e]
  rcases k with k | ⟨j, hj, k, _⟩
  · rw [if_pos k, if_pos k]
  · rw [k, if_neg (nI_ne9 (by omega)), if_neg (nI_ne9 (by omega))]; exact pc_on j (by omega)
theorem ord_res {W H N D : Nat} {p1 p2 p3 : Int64} {blk : Nat → Int64} {pcl ik o bk kk : Nat → Nat} (h : BR W H N D p1 p2 p3 blk pcl ik o bk kk) {g : Nat} (hg : g ≤ N) : (if (grF N D (palN p1 p2 p3 (papL W H) 8) (fun i => ik i % 8) 6 [] 0 1 (false, 0, nI 0)).1 = false then (-9) else if g = 0 then nI (grF N D (palN p1 p2 p3 (papL W H) 8) (fun i => ik i % 8) 6 [] 0 1 (false, 0, nI 0)).2.1 else ((grF N D (palN p1 p2 p3 (papL W H) 8) (fun i => ik i % 8) 6 [] 0 1 (false, 0, nI 0)).2.2 >>> (nI (3 * (N - 1 - (g - 1))) &&& 31)) &&& nI 7) = if (fbF (lsK W H N pcl ik) (PL N).length).1 = -9 then (-9) else if g = 0 then (fbF (lsK W H N pcl ik) (PL N).length).1 else nI (pfO N (fbF (lsK W H N pcl ik) (PL N).length).2 (g - 1)) := by
  rw [h.pal]
  rcases order_eq (W := W) (H := H) (pcl := pcl) h.2.2.1 h.2.2.2.2.2.1 with ⟨a, b⟩ | ⟨a, b, c, d⟩
  · rw [if_pos a, if_pos b]
  · rw [if_neg (by rw [a]; decide), if_neg b]
    by_cases g0 : g = 0
    · rw [if_pos g0, if_pos g0, c]
    · rw [if_neg g0, if_neg g0]; exact d (g - 1) (by omega)
theorem N_ne {N : Nat} {x : Int32} (hN : N < 2 ^ 30) (h : nI N ≤ x) : x ≠ -1 := fun e => by
  rw [e] at h
  have h1 := Int32.le_iff_toInt_le.mp h
  rw [nI_toInt (by omega)] at h1
  have h2 : (-1 : Int32).toInt = -1 := by decide
  omega
