/-! the search for the best order: rows as lists -/
def octI (L : List Nat) : Int32 := L.foldl (fun a d => (a <<< (nI 3 &&& 31)) ||| nI d) (nI 0)
theorem octI_app (L : List Nat) (d : Nat) : octI (L ++ [d]) = (octI L <<< (nI 3 &&& 31)) ||| nI d := by
  unfold octI; rw [List.foldl_append]; rfl
def erS (i : Nat) (K : List Nat → List Nat) : List Nat → List Nat
  | [] => i :: K []
  | x :: r => if x < i then x :: erS i K r else i :: K (x :: r)
/-- the first row of all inks in which the inks of a short row stand one behind another -/
def erL (U : Nat) : Nat → Nat → List Nat → List Nat
  | 0, _, s => s
  | k + 1, i, s => if U.testBit i then erL U k (i + 1) s else erS i (erL U k (i + 1)) s
theorem drop_cons {s : List Nat} {k : Nat} (h : k < s.length) : s.drop k = s.getD k 0 :: s.drop (k + 1) := by
  rw [List.drop_eq_getElem_cons h]; simp [List.getD, h]
theorem app_cons (L : List Nat) (x : Nat) (r : List Nat) : L ++ x :: r = (L ++ [x]) ++ r := by simp
abbrev SrS : Type := Bool × Nat × Int32
def stlF (σ : SrS) (len : Nat) (row : Int32) : SrS := if σ.1 = false ∨ len < σ.2.1 ∨ (len = σ.2.1 ∧ row < σ.2.2) then (true, len, row) else σ
def grF (N D P : Nat) (cl : Nat → Nat) : Nat → List Nat → Nat → Nat → SrS → SrS
  | 0, r, U, cs, σ => if (nI P &&& (nI cs ^^^ (-1))) = 0 then stlF σ r.length (octI (erL U N 0 r)) else σ
  | k + 1, r, U, cs, σ => if (nI P &&& (nI cs ^^^ (-1))) = 0 then stlF σ r.length (octI (erL U N 0 r)) else if N ≤ r.length ∨ (σ.1 = true ∧ σ.2.1 ≤ r.length) then σ else
      (List.range N).foldl (fun σ ink => if U.testBit ink then σ else grF N D P cl k (r ++ [ink]) (U ||| 2 ^ ink) (cs ||| overN D cl cs ink) σ) σ
/-- one ink of the loop of grF -/
def grS (N D P : Nat) (cl : Nat → Nat) (k : Nat) (r : List Nat) (U cs : Nat) (σ : SrS) (ink : Nat) : SrS := if U.testBit ink then σ else grF N D P cl k (r ++ [ink]) (U ||| 2 ^ ink) (cs ||| overN D cl cs ink) σ
theorem grF_done {N D P : Nat} {cl : Nat → Nat} {d : Nat} {r : List Nat} {U cs : Nat} {σ : SrS} (h : (nI P &&& (nI cs ^^^ (-1))) = 0) : grF N D P cl d r U cs σ = stlF σ r.length (octI (erL U N 0 r)) := by
  cases d <;> (unfold grF; rw [if_pos h])
theorem grF_stop {N D P : Nat} {cl : Nat → Nat} {d : Nat} {r : List Nat} {U cs : Nat} {σ : SrS} (h : ¬ (nI P &&& (nI cs ^^^ (-1))) = 0) (h2 : N ≤ r.length ∨ (σ.1 = true ∧ σ.2.1 ≤ r.length)) : grF N D P cl d r U cs σ = σ := by
  cases d with
  | zero => unfold grF; rw [if_neg h]
  | succ d => unfold grF; rw [if_neg h, if_pos h2]
theorem grF_loop {N D P : Nat} {cl : Nat → Nat} {d : Nat} {r : List Nat} {U cs : Nat} {σ : SrS} (h : ¬ (nI P &&& (nI cs ^^^ (-1))) = 0) (h2 : ¬ (N ≤ r.length ∨ (σ.1 = true ∧ σ.2.1 ≤ r.length))) : grF N D P cl (d + 1) r U cs σ = (List.range N).foldl (grS N D P cl d r U cs) σ := by
  conv => lhs; unfold grF
  rw [if_neg h, if_neg h2]
  rfl
theorem fold_s {α : Type} (f : α → Nat → α) (a : α) (i : Nat) : (List.range (i + 1)).foldl f a = f ((List.range i).foldl f a) i := by
  rw [List.range_succ, List.foldl_append]; rfl
theorem gD_l {s : List Nat} {x j : Nat} (h : j < s.length) : (s ++ [x]).getD j 0 = s.getD j 0 := by
  simp [List.getD, List.getElem?_append_left h]
theorem gD_r {s : List Nat} {x : Nat} : (s ++ [x]).getD s.length 0 = x := by
  simp [List.getD]
theorem pw2lt {i : Nat} (h : i < 6) : 2 ^ i < 2 ^ 6 := Nat.pow_lt_pow_right (by decide) h
theorem stlF_le {σ : SrS} {len : Nat} {row : Int32} (h : σ.2.1 ≤ 6) (hl : len ≤ 6) : (stlF σ len row).2.1 ≤ 6 := by
  unfold stlF; split
  · exact hl
  · exact h
