/-! the class' functions, Work -/
def pc1 (x : Int32) : Int32 := x - ((x.toUInt32 >>> ((nI 1).toUInt32 &&& Int32.toUInt32 31)).toInt32 &&& 1431655765)
def pc2 (x : Int32) : Int32 := (x &&& 858993459) + ((x.toUInt32 >>> ((nI 2).toUInt32 &&& Int32.toUInt32 31)).toInt32 &&& 858993459)
def pc3 (x : Int32) : Int32 := (x + (x.toUInt32 >>> ((nI 4).toUInt32 &&& Int32.toUInt32 31)).toInt32) &&& 252645135
def pc4 (x : Int32) : Int32 := x + (x.toUInt32 >>> ((nI 8).toUInt32 &&& Int32.toUInt32 31)).toInt32
def pc5 (x : Int32) : Int32 := x + (x.toUInt32 >>> ((nI 16).toUInt32 &&& Int32.toUInt32 31)).toInt32
def pcI (x : Int32) : Int32 := pc5 (pc4 (pc3 (pc2 (pc1 x)))) &&& nI 63
def pl1 (x : Int64) : Int64 := x - ((x.toUInt64 >>> ((nI 1).toInt64.toUInt64 &&& Int64.toUInt64 63)).toInt64 &&& 6148914691236517205)
def pl2 (x : Int64) : Int64 := (x &&& 3689348814741910323) + ((x.toUInt64 >>> ((nI 2).toInt64.toUInt64 &&& Int64.toUInt64 63)).toInt64 &&& 3689348814741910323)
def pl3 (x : Int64) : Int64 := (x + (x.toUInt64 >>> ((nI 4).toInt64.toUInt64 &&& Int64.toUInt64 63)).toInt64) &&& 1085102592571150095
def pl4 (x : Int64) : Int64 := x + (x.toUInt64 >>> ((nI 8).toInt64.toUInt64 &&& Int64.toUInt64 63)).toInt64
def pl5 (x : Int64) : Int64 := x + (x.toUInt64 >>> ((nI 16).toInt64.toUInt64 &&& Int64.toUInt64 63)).toInt64
def pl6 (x : Int64) : Int64 := x + (x.toUInt64 >>> ((nI 32).toInt64.toUInt64 &&& Int64.toUInt64 63)).toInt64
def pcL (x : Int64) : Int32 := (pl6 (pl5 (pl4 (pl3 (pl2 (pl1 x)))))).toInt32 &&& nI 127
theorem tbd_f {D k : Nat} (h : D / 2 ^ k &&& 1 = 0) : D.testBit k = false := by
  rw [Nat.testBit, Nat.shiftRight_eq_div_pow, Nat.and_comm, h]; rfl
theorem tbd_t {D k : Nat} (h : ¬ D / 2 ^ k &&& 1 = 0) : D.testBit k = true := by
  rw [Nat.testBit, Nat.shiftRight_eq_div_pow, Nat.and_comm]; simpa using h
theorem cpy6 {α : Type} (f g : Nat → α) : ∀ j, j < 6 → va_cpy f g 0 0 6 j = f j := fun j hj => by
  rw [pk_cpy_in (Nat.zero_le _) (by omega)]; congr 1; omega
/-- the inks of whose blocks the cell k is -/
def inkS (blk : Nat → Int64) (k : Nat) : Nat → Nat
  | 0 => 0
  | i + 1 => if tl (blk i) k then inkS blk k i ||| 2 ^ i else inkS blk k i
def cntB (blk : Nat → Int64) : Nat → Int32
  | 0 => nI 0
  | i + 1 => cntB blk i + pcL (blk i)
def cntS (slp : Nat → Int32) : Nat → Nat
  | 0 => 0
  | i + 1 => if slp i = nI 4 then cntS slp i else cntS slp i + 1
theorem cntS_le (slp : Nat → Int32) (n : Nat) : cntS slp n ≤ n := by
  induction n with
  | zero => exact Nat.le_refl _
  | succ n ih => unfold cntS; split <;> omega
/-- the slip that a block is printed with -/
def slOf (ox : Int32) (sk : Nat) (kk : Nat → Nat) (j : Nat) : Nat := if nI j = ox then sk else kk j
/-- a plane of the proof, behind some places of the order -/
def pfP (W H D : Nat) (blk : Nat → Int64) (o cl kk : Nat → Nat) (ox : Int32) (sk bit : Nat) : Nat → Int64
  | 0 => 0
  | q + 1 => prL (pfP W H D blk o cl kk ox sk bit q) (slipL (blk (o q)) (slOf ox sk kk (o q)) &&& papL W H) ((cl (o q)).testBit bit) (D.testBit (o q))
def palN (p1 p2 p3 pa : Int64) : Nat → Nat
  | 0 => 0
  | c + 1 => if ofL p1 p2 p3 c &&& pa = 0 then palN p1 p2 p3 pa c else palN p1 p2 p3 pa c ||| 2 ^ c
theorem palN_lt (p1 p2 p3 pa : Int64) (n : Nat) : palN p1 p2 p3 pa n < 2 ^ n := by
  induction n with
  | zero => show 0 < 1; decide
  | succ n ih =>
    unfold palN
    have h1 : palN p1 p2 p3 pa n < 2 ^ (n + 1) := Nat.lt_trans ih (Nat.pow_lt_pow_right (by decide) (Nat.lt_succ_self n))
    split
    · exact h1
    · exact Nat.or_lt_two_pow h1 (Nat.pow_lt_pow_right (by decide) (Nat.lt_succ_self n))
def hvN (k : Nat) : Nat := if k = 0 then 170 else if k = 1 then 204 else 240
def ov1 (v k : Nat) : Nat := (v &&& hvN k) ||| ((v &&& (255 - hvN k)) * 2 ^ (2 ^ k))
theorem ov1_eq : ∀ k, k < 3 → ∀ v, v < 256 → ((nI v &&& hvF k) ||| ((nI v &&& (hvF k ^^^ (-1))) <<< (nI (2 ^ k) &&& 31))) = nI (ov1 v k) := by decide +kernel
theorem ov1_lt : ∀ k, k < 3 → ∀ v, v < 256 → ov1 v k < 256 := by decide +kernel
def ovF (s c : Nat) : Nat → Nat
  | 0 => s
  | k + 1 => if c.testBit k then ov1 (ovF s c k) k else ovF s c k
theorem ovF_lt {s : Nat} (c : Nat) (hs : s < 256) : ∀ k, k ≤ 3 → ovF s c k < 256
  | 0, _ => hs
  | k + 1, hk => by
    unfold ovF
    split
    · exact ov1_lt k (by omega) _ (ovF_lt c hs k (by omega))
    · exact ovF_lt c hs k (by omega)
/-- what an ink gives, printed on colours -/
def overN (D : Nat) (cl : Nat → Nat) (s i : Nat) : Nat := if D.testBit i then 2 ^ cl i else ovF s (cl i) 3
theorem overN_lt {D : Nat} {cl : Nat → Nat} {s i : Nat} (hs : s < 256) (hc : cl i < 8) : overN D cl s i < 256 := by
  unfold overN
  split
  · exact Nat.lt_of_lt_of_le (Nat.pow_lt_pow_right (a := 2) (by decide) hc) (Nat.le_refl 256)
  · exact ovF_lt _ hs 3 (by decide)
def cbyF (D : Nat) (o cl : Nat → Nat) (set : Nat) : Nat → Nat
  | 0 => 1
  | q + 1 => if set.testBit (o q) then cbyF D o cl set q ||| overN D cl (cbyF D o cl set q) (o q) else cbyF D o cl set q
theorem cbyF_lt {N D : Nat} {o cl : Nat → Nat} (set : Nat) (ho : ∀ p, p < N → o p < N) (hc : ∀ i, i < N → cl i < 8) : ∀ q, q ≤ N → cbyF D o cl set q < 256
  | 0, _ => by show 1 < 256; decide
  | q + 1, hq => by
    unfold cbyF
    have ih := cbyF_lt (D := D) set ho hc q (by omega)
    split
    · exact Nat.or_lt_two_pow (n := 8) ih (overN_lt ih (hc _ (ho q (by omega))))
    · exact ih
def lsF (pal : Nat) (cov : Nat → Nat) : Nat → Int32
  | 0 => -9
  | i + 1 => if (lsF pal cov i = -9 ∨ pcI (nI i) < pcI (lsF pal cov i)) ∧ (nI pal &&& (nI (cov i) ^^^ (-1))) = 0 then nI i else lsF pal cov i
def colF (D : Nat) (o cl : Nat → Nat) (set : Nat) : Nat → Nat
  | 0 => 0
  | q + 1 => if set.testBit (o q) then (if D.testBit (o q) then cl (o q) else colF D o cl set q ||| cl (o q)) else colF D o cl set q
theorem colF_lt {N D : Nat} {o cl : Nat → Nat} (set : Nat) (ho : ∀ p, p < N → o p < N) (hc : ∀ i, i < N → cl i < 8) : ∀ q, q ≤ N → colF D o cl set q < 8
  | 0, _ => by show 0 < 8; decide
  | q + 1, hq => by
    unfold colF
    have ih := colF_lt (D := D) set ho hc q (by omega)
    have h2 := hc _ (ho q (by omega))
    split
    · split
      · exact h2
      · exact Nat.or_lt_two_pow (n := 3) ih h2
    · exact ih
def addB (s : Nat) (ce : Int64) (blk : Nat → Int64) : Nat → Nat → Int64
  | 0 => blk
  | i + 1 => if s.testBit i then vp_updL (addB s ce blk i) i (addB s ce blk i i ||| ce) else addB s ce blk i
def zB (blk : Nat → Int64) : Nat → Nat → Int64
  | 0 => blk
  | i + 1 => vp_updL (zB blk i) i 0
def zS (slp : Nat → Int32) : Nat → Nat → Int32
  | 0 => slp
  | i + 1 => upd (zS slp i) i (nI 4)
def cutB (p1 p2 p3 pa : Int64) (N : Nat) (fs : Nat → Nat) (blk : Nat → Int64) : Nat → Nat → Int64
  | 0 => zB blk N
  | c + 1 => if ofL p1 p2 p3 c &&& pa = 0 then cutB p1 p2 p3 pa N fs blk c else addB (fs c) (ofL p1 p2 p3 c &&& pa) (cutB p1 p2 p3 pa N fs blk c) N
theorem nI_ne9 {s : Nat} (h : s < 2 ^ 31) : ¬ nI s = -9 := fun e => by
  have h1 := congrArg Int32.toInt e
  rw [nI_toInt h] at h1
  have h2 : (-9 : Int32).toInt = -9 := by decide
  omega
theorem not_le32 {x z : Int32} (h : ¬ x ≤ z) : z < x := Int32.not_le.mp h
theorem pow6 {N : Nat} (h : N ≤ 6) : 2 ^ N ≤ 64 := Nat.pow_le_pow_right (n := 2) (by decide) h
