/-! bits of a long -/
def bL (x : Int64) (k : Nat) : Bool := x.toBitVec.getLsbD k
theorem bL_ext {x z : Int64} (h : ∀ k, k < 64 → bL x k = bL z k) : x = z := by
  apply Int64.toBitVec_inj.mp
  apply BitVec.eq_of_getLsbD_eq
  intro i hi; exact h i hi
theorem bL_or (x z : Int64) (k : Nat) : bL (x ||| z) k = (bL x k || bL z k) := by
  unfold bL; rw [Int64.toBitVec_or, BitVec.getLsbD_or]
theorem bL_and (x z : Int64) (k : Nat) : bL (x &&& z) k = (bL x k && bL z k) := by
  unfold bL; rw [Int64.toBitVec_and, BitVec.getLsbD_and]
theorem bL_xor (x z : Int64) (k : Nat) : bL (x ^^^ z) k = (bL x k ^^ bL z k) := by
  unfold bL; rw [Int64.toBitVec_xor, BitVec.getLsbD_xor]
theorem bL_0 (k : Nat) : bL 0 k = false := by
  unfold bL; exact BitVec.getLsbD_zero
theorem bL_m1 {k : Nat} (h : k < 64) : bL (-1) k = true := by
  revert k; decide +kernel
theorem bL_n {k : Nat} (h : k < 64) (x : Int64) : bL (x ^^^ (-1)) k = !bL x k := by
  rw [bL_xor, bL_m1 h, Bool.xor_true]
theorem bL_cb : ∀ k, k < 64 → ∀ i, i < 64 → bL (cbL k) i = decide (i = k) := by decide +kernel
theorem tl_b {k : Nat} (h : k < 64) (x : Int64) : tl x k = bL x k := by
  unfold tl
  cases e : bL x k with
  | true =>
    refine decide_eq_true (fun q => ?_)
    have := congrArg (bL · k) q
    replace this : bL (x &&& cbL k) k = bL 0 k := this
    rw [bL_and, e, bL_cb k h k h, bL_0] at this
    simp at this
  | false =>
    refine decide_eq_false (fun q => q (bL_ext (fun i hi => ?_)))
    rw [bL_and, bL_cb k h i hi, bL_0]
    by_cases f : i = k
    · rw [f, e]; rfl
    · rw [decide_eq_false f, Bool.and_false]
theorem bL_pr {k : Nat} (h : k < 64) (pl : Int64) (b : Bool) {i : Nat} (hi : i < 64) : bL (prL pl (cbL k) b true) i = if i = k then b else bL pl i := by
  unfold prL
  cases b with
  | true =>
    rw [if_pos rfl, bL_or, bL_cb k h i hi]
    by_cases f : i = k
    · rw [if_pos f, decide_eq_true f, Bool.or_true]
    · rw [if_neg f, decide_eq_false f, Bool.or_false]
  | false =>
    rw [if_neg (by decide), if_pos rfl, bL_and, bL_n hi, bL_cb k h i hi]
    by_cases f : i = k
    · rw [if_pos f, decide_eq_true f]; exact Bool.and_false _
    · rw [if_neg f, decide_eq_false f]; exact Bool.and_true _
