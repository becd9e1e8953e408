/-- the colour of a set of inks: both ways -/
theorem col_gv {N D : Nat} {o ik : Nat → Nat} (set : Nat) (ho : ∀ q, q < N → o q < N) (hi : ∀ i, i < N → D.testBit i = decide (8 ≤ ik i) ∧ ik i < 16) : ∀ q, q ≤ N → colF D o (fun i => ik i % 8) set q = gvF o ik set q
  | 0, _ => rfl
  | q + 1, hq => by
    have ih := col_gv set ho hi q (by omega)
    have h := hi (o q) (ho q (by omega))
    unfold colF gvF
    rw [ih, h.1]
    split
    · unfold prN
      by_cases g : 8 ≤ ik (o q)
      · rw [if_pos (decide_eq_true g), if_neg (by omega)]; omega
      · rw [if_neg (by rw [decide_eq_false g]; decide), if_pos (by omega)]; rw [Nat.mod_eq_of_lt (by omega)]
    · rfl
