/-! what was seen: guesses by number (0: no block; g + 1: the number g of the document) -/
theorem min_nI {a b : Nat} (ha : a < 2 ^ 31) (hb : b < 2 ^ 31) : (if nI b < nI a then nI b else nI a) = nI (min a b) := by
  by_cases h : b < a
  · rw [if_pos (nI_lt h ha), Nat.min_eq_right (by omega)]
  · rw [if_neg (nI_nlt (by omega) hb), Nat.min_eq_left (by omega)]
def gs (g : Nat) : Int32 := nI g + (-1)
theorem gs_0 : gs 0 = -1 := by decide
theorem gs_s (g : Nat) : gs (g + 1) = nI g := pk_m1 g
theorem gs_inc (g : Nat) : gs g + Int32.ofInt 1 = gs (g + 1) := by
  rw [gs_s]
  show nI g + (-1) + 1 = nI g
  rw [Int32.add_assoc]
  show nI g + 0 = nI g
  exact Int32.add_zero _
theorem gs_ge {g n : Nat} (hg : g < 2 ^ 31) (hn : n < 2 ^ 31) : nI n ≤ gs g ↔ n + 1 ≤ g := by
  cases g with
  | zero =>
    rw [gs_0]
    constructor
    · intro h
      have h1 := Int32.le_iff_toInt_le.mp h
      rw [nI_toInt hn] at h1
      have h2 : (-1 : Int32).toInt = -1 := by decide
      omega
    · omega
  | succ g => rw [gs_s, nI_leI hn (by omega)]; omega
theorem gs_pos {g : Nat} (hg : g < 2 ^ 31) : 0 ≤ gs g ↔ 0 < g := by
  rw [← nI_0, gs_ge hg (by decide)]; omega
def oxG (g : Nat) : Int32 := if g = 0 then -1 else nI ((g - 1) / 9)
def skG (g : Nat) : Nat := if g = 0 then 4 else (g - 1) % 9
theorem skG_lt (g : Nat) : skG g < 9 := by unfold skG; split <;> omega
def PG (W H N D : Nat) (blk : Nat → Int64) (o cl kk : Nat → Nat) (b g : Nat) : Int64 := pfP W H D blk o cl kk (oxG g) (skG g) b N
def seenB (p1 p2 p3 : Int64) (W H : Nat) (sx sy sc : Nat → Nat) : Nat → Bool
  | 0 => true
  | i + 1 => seenB p1 p2 p3 W H sx sy sc i && decide (sx i < W ∧ sy i < H ∧ atL p1 p2 p3 (8 * sy i + sx i) = sc i)
theorem seenB_f {p1 p2 p3 : Int64} {W H : Nat} {sx sy sc : Nat → Nat} {i : Nat} (h : ¬ (sx i < W ∧ sy i < H ∧ atL p1 p2 p3 (8 * sy i + sx i) = sc i)) : ∀ {M : Nat}, i < M → seenB p1 p2 p3 W H sx sy sc M = false
  | M + 1, hm => by
    unfold seenB
    rcases Nat.lt_or_ge i M with q | q
    · rw [seenB_f h q]; rfl
    · rw [show M = i from by omega, decide_eq_false h]; simp
def exB (W H N D : Nat) (blk : Nat → Int64) (o cl kk : Nat → Nat) (M : Nat) (sx sy sc : Nat → Nat) (g : Nat) : Bool := !decide (g ≠ 0 ∧ kk ((g - 1) / 9) = (g - 1) % 9) && seenB (PG W H N D blk o cl kk 0 g) (PG W H N D blk o cl kk 1 g) (PG W H N D blk o cl kk 2 g) W H sx sy sc M
theorem inR_iff {k n : Nat} (hk : k < 2 ^ 31) : inR (nI k) n ↔ k < n := by
  unfold inR
  rw [nI_toInt hk]
  omega
theorem atL_lt (p1 p2 p3 : Int64) (k : Nat) : atL p1 p2 p3 k < 8 := by
  unfold atL
  split <;> split <;> split <;> decide
def frG (P : Nat → Bool) : Nat → Nat → Int32
  | 0, _ => -2000000
  | k + 1, g => if P g then gs g else frG P k (g + 1)
def cntG (P : Nat → Bool) : Nat → Nat
  | 0 => 0
  | g + 1 => if P g then cntG P g + 1 else cntG P g
theorem cntG_le (P : Nat → Bool) (n : Nat) : cntG P n ≤ n := by
  induction n with
  | zero => exact Nat.le_refl _
  | succ n ih => unfold cntG; split <;> omega
def talX (p1 p2 p3 : Int64) (yy : Nat) : Nat → (Nat → Int32) → Nat → Int32
  | 0, f => f
  | x + 1, f => upd (talX p1 p2 p3 yy x f) ((6 * yy + x) * 8 + atL p1 p2 p3 (8 * yy + x)) (talX p1 p2 p3 yy x f ((6 * yy + x) * 8 + atL p1 p2 p3 (8 * yy + x)) + nI 1)
def talY (p1 p2 p3 : Int64) (W : Nat) : Nat → (Nat → Int32) → Nat → Int32
  | 0, f => f
  | yy + 1, f => talX p1 p2 p3 yy W (talY p1 p2 p3 W yy f)
def talG (P : Nat → Bool) (pl : Nat → Nat → Int64) (W H : Nat) : Nat → Nat → Int32
  | 0 => fun _ => nI 0
  | g + 1 => if P g then talY (pl 0 g) (pl 1 g) (pl 2 g) W H (talG P pl W H g) else talG P pl W H g
def gtF (f : Nat → Int32) (k : Nat) : Nat → Int32
  | 0 => nI 0
  | c + 1 => if gtF f k c < f (k * 8 + c) then f (k * 8 + c) else gtF f k c
def mtX (f : Nat → Int32) (yy : Nat) : Nat → Int32 × Int32 → Int32 × Int32
  | 0, b => b
  | x + 1, b => if (mtX f yy x b).1 = -9 ∨ gtF f (6 * yy + x) 8 < (mtX f yy x b).2 then (nI (6 * yy + x), gtF f (6 * yy + x) 8) else mtX f yy x b
def mtY (f : Nat → Int32) (W : Nat) : Nat → Int32 × Int32
  | 0 => (-9, nI 0)
  | yy + 1 => mtX f yy W (mtY f W yy)
