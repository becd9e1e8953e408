/-- a work of the class and a row of the reference say the same -/
def WRel (W H N D : Nat) (p1 p2 p3 : Int64) (col od : Nat → Int32) (blk : Nat → Int64) (slp : Nat → Int32) (Sr : Nat → Int32) (pcl ik o bk kk : Nat → Nat) : Prop :=
  RowOk Sr W H N pcl ik o bk kk ∧ D < 2 ^ N ∧ (∀ i, i < N → col i = nI (ik i % 8) ∧ D.testBit i = decide (8 ≤ ik i) ∧ 0 < ik i % 8) ∧ (∀ q, q < N → od q = nI (o q)) ∧ (∀ q z, q < N → z < N → o q = o z → q = z) ∧ (∀ i, i < N → slp i = nI (kk i)) ∧
  (∀ i yy xx, i < N → yy < 8 → xx < 8 → bL (blk i) (8 * yy + xx) = (decide (xx < 6 ∧ yy < 6) && (bk (6 * i + yy)).testBit xx)) ∧
  (∀ yy xx, yy < 8 → xx < 8 → bL p1 (8 * yy + xx) = (decide (xx < W ∧ yy < H) && (pcl (6 * yy + xx)).testBit 0) ∧ bL p2 (8 * yy + xx) = (decide (xx < W ∧ yy < H) && (pcl (6 * yy + xx)).testBit 1) ∧ bL p3 (8 * yy + xx) = (decide (xx < W ∧ yy < H) && (pcl (6 * yy + xx)).testBit 2))
theorem pl_cut {pl : Int64} {b W H fg : Nat} {pcf : Nat → Nat} (h : plR pl b pcf) (hW : W ≤ 6) (hH : H ≤ 6) (hz : ∀ yy xx, xx < 6 → pcf (6 * yy + xx) < 8 ∧ (pcf (6 * yy + xx) ≠ 0 → (yy < H ∧ xx < W) ∨ (32 = 114 ∧ yy = H ∧ xx < fg))) {yy xx : Nat} (hy : yy < 8) (hx : xx < 8) : bL pl (8 * yy + xx) = (decide (xx < W ∧ yy < H) && (pcf (6 * yy + xx)).testBit b) := by
  rw [h yy xx hy hx]
  by_cases g : xx < W ∧ yy < H
  · rw [decide_eq_true g, decide_eq_true (show xx < 6 ∧ yy < 6 from by omega)]
  · rw [decide_eq_false g, Bool.false_and]
    by_cases f : xx < 6 ∧ yy < 6
    · have : pcf (6 * yy + xx) = 0 := Decidable.byContradiction (fun q => by have := (hz yy xx f.1).2 q; omega)
      rw [this, Nat.zero_testBit, Bool.and_false]
    · rw [decide_eq_false f, Bool.false_and]
/-- after a text that is well -/
theorem WRel_told {fg W H N D fg' W' H' N' : Nat} {p1 p2 p3 : Int64} {col od : Nat → Int32} {blk : Nat → Int64} {slp : Nat → Int32} {ikf pcf : Nat → Nat} (h : CM (32, fg, W, H, N, D, p1, p2, p3, col, od, blk, slp) (32, fg', W', H', N', ikf, pcf)) (hm : MI (32, fg', W', H', N', ikf, pcf)) (hH : H ≤ 6) (hN : N ≤ 6) : W = W' ∧ H = H' ∧ N = N' ∧ WRel W H N D p1 p2 p3 col od blk slp (drP 6 W H N ikf pcf) pcf ikf (fun i => i) (fun _ => 0) (fun _ => 4) := by
  obtain ⟨_, rfl, rfl, rfl, rfl, hD, hI, h1, h2, h3⟩ := h
  obtain ⟨_, hW, hz⟩ := hm
  have dr : ∀ z, ¬ (45 ≤ z ∧ z < 51) → drP 6 W H N ikf pcf z = drF W H N ikf pcf z := fun z q => by unfold drP; rw [if_neg (by omega)]
  refine ⟨rfl, rfl, rfl, ⟨rfl, rfl, rfl, hW, hH, hN, ?_, ?_, ?_, ?_, ?_⟩, hD, ?_, ?_, fun _ _ _ _ e => e, ?_, ?_, ?_⟩
  · intro yy xx hy hx
    refine ⟨?_, (hz yy xx (by omega)).1⟩
    rw [dr _ (by omega)]; unfold drF
    rw [if_neg (by omega), if_neg (by omega), if_neg (by omega), if_pos (by omega), show 3 + 6 * yy + xx - 3 = 6 * yy + xx from by omega]
  · intro i hi
    refine ⟨?_, (hI i hi).2.2.2.1⟩
    rw [dr _ (by omega)]; unfold drF
    rw [if_neg (by omega), if_neg (by omega), if_neg (by omega), if_neg (by omega), if_pos (by omega), show 39 + i - 39 = i from by omega]
  · intro q hq
    refine ⟨?_, hq⟩
    unfold drP; rw [if_pos (by omega), show 45 + q - 45 = q from by omega]
  · intro i yy hi hy
    refine ⟨?_, show 0 < 64 from by decide⟩
    rw [dr _ (by omega)]; unfold drF
    rw [if_neg (by omega), if_neg (by omega), if_neg (by omega), if_neg (by omega), if_neg (by omega)]
  · intro i hi
    refine ⟨?_, ?_, show 4 < 9 from by decide⟩
    · rw [dr _ (by omega)]; unfold drF
      rw [if_neg (by omega), if_neg (by omega), if_neg (by omega), if_neg (by omega), if_neg (by omega)]; show nI 0 = dI (4 % 3); decide
    · rw [dr _ (by omega)]; unfold drF
      rw [if_neg (by omega), if_neg (by omega), if_neg (by omega), if_neg (by omega), if_neg (by omega)]; show nI 0 = dI (4 / 3); decide
  · intro i hi; have := hI i hi; exact ⟨this.1, this.2.1, this.2.2.1⟩
  · intro q hq; exact (hI q hq).2.2.2.2.1
  · intro i hi; exact (hI i hi).2.2.2.2.2.2
  · intro i yy xx hi hy hx; rw [(hI i hi).2.2.2.2.2.1, bL_0, Nat.zero_testBit, Bool.and_false]
  · intro yy xx hy hx; exact ⟨pl_cut h1 hW hH hz hy hx, pl_cut h2 hW hH hz hy hx, pl_cut h3 hW hH hz hy hx⟩
