/-! the class's reading and the reference's reading are one -/
def inkR (N D : Nat) (col od : Nat → Int32) (blk : Nat → Int64) (slp : Nat → Int32) (ikf : Nat → Nat) : Prop := ∀ i, i < N → col i = nI (ikf i % 8) ∧ D.testBit i = decide (8 ≤ ikf i) ∧ 0 < ikf i % 8 ∧ ikf i < 16 ∧ od i = nI i ∧ blk i = 0 ∧ slp i = nI 4
def plR (pl : Int64) (b : Nat) (pcf : Nat → Nat) : Prop := ∀ yy xx, yy < 8 → xx < 8 → bL pl (8 * yy + xx) = (decide (xx < 6 ∧ yy < 6) && (pcf (6 * yy + xx)).testBit b)
theorem plR_up {pl : Int64} {b : Nat} {pcf : Nat → Nat} (h : plR pl b pcf) {H fg : Nat} (hH : H < 6) (hf : fg < 6) (q : Nat) : plR (prL pl (cbL (8 * H + fg)) (q.testBit b) true) b (va_up pcf (6 * H + fg) q) := by
  intro yy xx hy hx
  rw [bL_pr (by omega) _ _ (by omega)]
  by_cases e : yy = H ∧ xx = fg
  · obtain ⟨rfl, rfl⟩ := e
    rw [if_pos rfl, decide_eq_true (And.intro hf hH)]
    unfold va_up; rw [if_pos rfl, Bool.true_and]
  · rw [if_neg (by omega), h yy xx hy hx]
    by_cases g : xx < 6 ∧ yy < 6
    · unfold va_up; rw [if_neg (by omega)]
    · rw [decide_eq_false g, Bool.false_and, Bool.false_and]
theorem inkR_up {N D q it : Nat} {col od : Nat → Int32} {blk : Nat → Int64} {slp : Nat → Int32} {ikf : Nat → Nat} (h : inkR N D col od blk slp ikf) (hD : D < 2 ^ N) (hq : 0 < q) (hq8 : q < 8) : inkR (N + 1) (if decide (it = 100) then D ||| 2 ^ N else D) (upd col N (nI q)) (upd od N (nI N)) (vp_updL blk N 0) (upd slp N (nI 4)) (va_up ikf N (if it = 100 then 8 + q else q)) := by
  intro i hi
  by_cases e : i = N
  · subst e
    refine ⟨?_, ?_, ?_, ?_, pk_us, ?_, pk_us⟩
    · rw [pk_us]; unfold va_up; rw [if_pos rfl]; congr 1; split <;> omega
    · unfold va_up; rw [if_pos rfl]
      by_cases f : it = 100
      · rw [if_pos (decide_eq_true f), if_pos f, Nat.testBit_or, Nat.testBit_two_pow_self, Bool.or_true]; exact (decide_eq_true (by omega)).symm
      · rw [if_neg (by rw [decide_eq_false f]; decide), if_neg f, Nat.testBit_lt_two_pow hD]; exact (decide_eq_false (by omega)).symm
    · unfold va_up; rw [if_pos rfl]; split <;> omega
    · unfold va_up; rw [if_pos rfl]; split <;> omega
    · simp [vp_updL]
  · obtain ⟨a1, a2, a3, a4, a5, a6, a7⟩ := h i (by omega)
    have ev : va_up ikf N (if it = 100 then 8 + q else q) i = ikf i := by unfold va_up; rw [if_neg e]
    rw [ev, pk_un e, pk_un e, pk_un e]
    refine ⟨a1, ?_, a3, a4, a5, ?_, a7⟩
    · split
      · rw [Nat.testBit_or, Nat.testBit_two_pow_of_ne (fun z => e z.symm), Bool.or_false]; exact a2
      · exact a2
    · simp [vp_updL, e, a6]
