/-- the least set by the k-th order -/
def lsK (W H N : Nat) (pcl ik : Nat → Nat) (k : Nat) : Int32 := lsM (wtY pcl W H) (fun z => mkP (fun z => gvF (pfO N k) ik z N) z (z + 1)) (2 ^ N)
theorem ak_1 {f : Nat → Int32} {W H k : Nat} (h : k % 6 < W ∧ k / 6 < H) : (if mxM f k 8 < (akM f W H k).2 then nI k else (akM f W H k).1) = (akM f W H (k + 1)).1 := by
  simp only [akM]
  by_cases q : mxM f k 8 < (akM f W H k).2
  · rw [if_pos q, if_pos (And.intro h q)]
  · rw [if_neg q, if_neg (fun z => q z.2)]
theorem ak_2 {f : Nat → Int32} {W H k : Nat} (h : k % 6 < W ∧ k / 6 < H) : (if mxM f k 8 < (akM f W H k).2 then mxM f k 8 else (akM f W H k).2) = (akM f W H (k + 1)).2 := by
  simp only [akM]
  by_cases q : mxM f k 8 < (akM f W H k).2
  · rw [if_pos q, if_pos (And.intro h q)]
  · rw [if_neg q, if_neg (fun z => q z.2)]
theorem ak_0 {f : Nat → Int32} {W H k : Nat} (h : ¬ (k % 6 < W ∧ k / 6 < H)) : (akM f W H k).1 = (akM f W H (k + 1)).1 := by
  simp only [akM]; rw [if_neg (fun z => h z.1)]
theorem ak_02 {f : Nat → Int32} {W H k : Nat} (h : ¬ (k % 6 < W ∧ k / 6 < H)) : (akM f W H k).2 = (akM f W H (k + 1)).2 := by
  simp only [akM]; rw [if_neg (fun z => h z.1)]
