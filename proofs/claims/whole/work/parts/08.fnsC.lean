/-! the text: the class' reading, letter by letter -/
abbrev CSt : Type := Nat × Nat × Nat × Nat × Nat × Nat × Int64 × Int64 × Int64 × (Nat → Int32) × (Nat → Int32) × (Nat → Int64) × (Nat → Int32)
def endC : CSt → Option CSt
  | (it, fg, W, H, N, D, p1, p2, p3, col, od, blk, slp) => if it = 32 ∨ fg = 0 then none else if it = 114 then (if 0 < H ∧ fg ≠ W then none else some (32, fg, fg, H + 1, N, D, p1, p2, p3, col, od, blk, slp)) else some (32, fg, W, H, N, D, p1, p2, p3, col, od, blk, slp)
def cellC (q : Nat) : CSt → Option CSt
  | (it, fg, W, H, N, D, p1, p2, p3, col, od, blk, slp) => if fg < (if H = 0 then 6 else W) then some (it, fg + 1, W, H, N, D, prL p1 (cbL (8 * H + fg)) (q.testBit 0) true, prL p2 (cbL (8 * H + fg)) (q.testBit 1) true, prL p3 (cbL (8 * H + fg)) (q.testBit 2) true, col, od, blk, slp) else none
def inkC (q : Nat) : CSt → Option CSt
  | (it, fg, W, H, N, D, p1, p2, p3, col, od, blk, slp) => if it = 32 ∨ fg ≠ 0 ∨ q = 0 then none else some (it, 1, W, H, N + 1, (if decide (it = 100) then D ||| 2 ^ N else D), p1, p2, p3, upd col N (nI q), upd od N (nI N), vp_updL blk N 0, upd slp N (nI 4))
def begC (ch : Nat) : CSt → Option CSt
  | (it, fg, W, H, N, D, p1, p2, p3, col, od, blk, slp) => if it = 32 ∧ (((ch = 99 ∨ ch = 100) ∧ N < 6) ∨ (ch = 114 ∧ H < 6)) then some (ch, 0, W, H, N, D, p1, p2, p3, col, od, blk, slp) else none
def tkC (ch : Nat) (u : CSt) : Option CSt := if ch = 59 then endC u else if 48 ≤ ch ∧ ch ≤ 55 then (if u.1 = 114 then cellC (ch - 48) u else inkC (ch - 48) u) else begC ch u
def CSok : CSt → Prop
  | (it, fg, W, H, N, D, _, _, _, _, _, _, _) => it < 256 ∧ fg ≤ 6 ∧ W ≤ 6 ∧ H ≤ 6 ∧ N ≤ 6 ∧ D < 2 ^ N ∧ ((it = 99 ∨ it = 100) → fg = 0 → N < 6) ∧ (it = 114 → H < 6)
theorem CSok_end {u v : CSt} (h : CSok u) (e : endC u = some v) : CSok v := by
  obtain ⟨it, fg, W, H, N, D, p1, p2, p3, col, od, blk, slp⟩ := u
  obtain ⟨h1, h2, h3, h4, h5, h6, h7, h8⟩ := h
  simp only [endC] at e
  split at e
  · cases e
  · split at e
    · split at e
      · cases e
      · cases e; exact ⟨by decide, h2, h2, by have := h8 (by assumption); omega, h5, h6, by omega, by omega⟩
    · cases e; exact ⟨by decide, h2, h3, h4, h5, h6, by omega, by omega⟩
theorem CSok_cell {q : Nat} {u v : CSt} (h : CSok u) (ht : u.1 = 114) (e : cellC q u = some v) : CSok v := by
  obtain ⟨it, fg, W, H, N, D, p1, p2, p3, col, od, blk, slp⟩ := u
  obtain ⟨h1, h2, h3, h4, h5, h6, h7, h8⟩ := h
  simp only at ht
  simp only [cellC] at e
  by_cases hl : fg < (if H = 0 then 6 else W)
  · rw [if_pos hl] at e
    cases e
    refine ⟨h1, ?_, h3, h4, h5, h6, by omega, h8⟩
    split at hl <;> omega
  · rw [if_neg hl] at e
    cases e
theorem CSok_ink {q : Nat} {u v : CSt} (h : CSok u) (ht : u.1 = 99 ∨ u.1 = 100 ∨ u.1 = 32) (e : inkC q u = some v) : CSok v := by
  obtain ⟨it, fg, W, H, N, D, p1, p2, p3, col, od, blk, slp⟩ := u
  obtain ⟨h1, h2, h3, h4, h5, h6, h7, h8⟩ := h
  simp only at ht
  simp only [inkC] at e
  split at e
  · cases e
  · cases e
    have hN : N < 6 := h7 (by omega) (by omega)
    refine ⟨h1, by omega, h3, h4, by omega, ?_, by omega, h8⟩
    have h9 : D < 2 ^ (N + 1) := Nat.lt_trans h6 (Nat.pow_lt_pow_right (by decide) (Nat.lt_succ_self N))
    split
    · exact Nat.or_lt_two_pow h9 (Nat.pow_lt_pow_right (by decide) (Nat.lt_succ_self N))
    · exact h9
theorem CSok_beg {ch : Nat} {u v : CSt} (hc : ch < 256) (h : CSok u) (e : begC ch u = some v) : CSok v ∧ (v.1 = 99 ∨ v.1 = 100 ∨ v.1 = 114) := by
  obtain ⟨it, fg, W, H, N, D, p1, p2, p3, col, od, blk, slp⟩ := u
  obtain ⟨h1, h2, h3, h4, h5, h6, h7, h8⟩ := h
  simp only [begC] at e
  split at e
  · cases e
    refine ⟨⟨hc, by omega, h3, h4, h5, h6, by omega, by omega⟩, by show ch = 99 ∨ ch = 100 ∨ ch = 114; omega⟩
  · cases e
/-- the item is one that begins can begin, or none -/
def CSit (u : CSt) : Prop := u.1 = 32 ∨ u.1 = 99 ∨ u.1 = 100 ∨ u.1 = 114
theorem CSok_tk {ch : Nat} {u v : CSt} (hc : ch < 256) (h : CSok u) (hi : CSit u) (e : tkC ch u = some v) : CSok v ∧ CSit v := by
  unfold tkC at e
  split at e
  · refine ⟨CSok_end h e, ?_⟩
    obtain ⟨it, fg, W, H, N, D, p1, p2, p3, col, od, blk, slp⟩ := u
    simp only [endC] at e
    split at e
    · cases e
    · split at e
      · split at e
        · cases e
        · cases e; exact Or.inl rfl
      · cases e; exact Or.inl rfl
  · split at e
    · split at e
      · rename_i ht
        refine ⟨CSok_cell h ht e, ?_⟩
        obtain ⟨it, fg, W, H, N, D, p1, p2, p3, col, od, blk, slp⟩ := u
        simp only [cellC] at e
        by_cases hl : fg < (if H = 0 then 6 else W)
        · rw [if_pos hl] at e; cases e; exact Or.inr (Or.inr (Or.inr ht))
        · rw [if_neg hl] at e; cases e
      · rename_i ht
        have hk : u.1 = 99 ∨ u.1 = 100 ∨ u.1 = 32 := by rcases hi with h | h | h | h <;> omega
        refine ⟨CSok_ink h hk e, ?_⟩
        obtain ⟨it, fg, W, H, N, D, p1, p2, p3, col, od, blk, slp⟩ := u
        simp only [inkC] at e
        split at e
        · cases e
        · cases e; simp only [CSit] at *; omega
    · obtain ⟨h1, h2⟩ := CSok_beg hc h e
      exact ⟨h1, Or.inr h2⟩
/-- the reading, from a place on: where it stops (none: nowhere), and the state there -/
def scan (lt : Nat → Nat) : Nat → Nat → CSt → Option Nat × CSt
  | 0, _, u => (none, u)
  | k + 1, i, u => if lt i = 32 then scan lt k (i + 1) u else match tkC (lt i) u with
    | none => (some i, u)
    | some v => scan lt k (i + 1) v
def rdC (n : Nat) (x : Option Nat × CSt) : Int32 := match x.1 with
  | some i => nI i
  | none => if x.2.1 = 32 ∧ 0 < x.2.2.2.2.1 then (-9) else nI n
theorem chr_i2c : ∀ c, c < 256 → ((nI c).toUInt32 % 65536).toInt32 = nI c := by decide +kernel
theorem chr_nar : ∀ c, c < 256 → vp_nar .char (nI c) = nI c := by decide +kernel
theorem chr_nr : ∀ c, c < 256 → narrow .char (.int (nI c)) = .int (nI c) := by decide +kernel
theorem chr_fit : ∀ c, c < 256 → fits .char (.int (nI c)) = true := by decide +kernel
