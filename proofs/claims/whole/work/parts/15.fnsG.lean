/-! the face: its world, and numbers for its cases -/
abbrev TMain : Type := (Nat → Option Nat) × (Nat → Int32)
def kMain (y : Nat → ClassId) (a : Nat → Nat) (w : TMain) : va_W := [((a 0), .inr (6, [.ref (a 3), .ref (a 9), .ref (a 15), .ref (a 17), .ref (a 1), .ref (a 2), .ref (a 67), .ref (a 73), .ref (a 75)])), ((a 1), .inl (y 4, 2, .inr (.inr (.inr (.inr w.1))))), ((a 2), .inl (y 3, 2, .inl w.2))]
theorem ir4 {x : Int32} {n : Nat} (hn : n < 2 ^ 31) (h0 : ¬ x < 0) (h1 : x ≤ nI n) : inR x (n + 1) := by
  have a : ¬ x.toInt < (0 : Int32).toInt := fun q => h0 (Int32.lt_iff_toInt_lt.mpr q)
  have b := Int32.le_iff_toInt_le.mp h1
  rw [nI_toInt hn] at b
  have z : (0 : Int32).toInt = 0 := rfl
  omega
theorem ir5 {x : Int32} {n : Nat} (hn : n < 2 ^ 31) (h0 : ¬ x < 0) (h1 : x < nI n) : inR x n := by
  have a : ¬ x.toInt < (0 : Int32).toInt := fun q => h0 (Int32.lt_iff_toInt_lt.mpr q)
  have b := Int32.lt_iff_toInt_lt.mp h1
  rw [nI_toInt hn] at b
  have z : (0 : Int32).toInt = 0 := rfl
  omega
/-- -1, 0, 1 -/
def dI (a : Nat) : Int32 := nI a - nI 1
theorem dI_ok : ∀ a, a < 3 → ¬ dI a < -1 ∧ ¬ nI 1 < dI a ∧ dI a ≤ nI 1 := by decide
theorem dI_slip : ∀ a, a < 3 → ∀ b, b < 3 → nI 3 * (dI b + nI 1) + dI a + nI 1 = nI (3 * b + a) := by decide
abbrev inD (x : Int32) : Prop := ¬ x < -1 ∧ ¬ nI 1 < x
theorem inD_dI {x : Int32} (h : inD x) : ∃ a : Nat, a < 3 ∧ x = dI a := by
  have a : ¬ x.toInt < (-1 : Int32).toInt := fun q => h.1 (Int32.lt_iff_toInt_lt.mpr q)
  have b : ¬ (nI 1).toInt < x.toInt := fun q => h.2 (Int32.lt_iff_toInt_lt.mpr q)
  have z : (-1 : Int32).toInt = -1 := by decide
  have z1 : (nI 1).toInt = 1 := by decide
  rcases (show x.toInt = -1 ∨ x.toInt = 0 ∨ x.toInt = 1 by omega) with q | q | q
  · exact ⟨0, by decide, Int32.toInt_inj.mp (q.trans (by decide))⟩
  · exact ⟨1, by decide, Int32.toInt_inj.mp (q.trans (by decide))⟩
  · exact ⟨2, by decide, Int32.toInt_inj.mp (q.trans (by decide))⟩
/-- the slip further by one column -/
def fur (k : Nat) : Nat := 3 * (k / 3) + (if k % 3 = 2 then 1 else k % 3 + 1)
theorem fur_eq : ∀ k, k < 9 → nI 3 * ((nI (k / 3) - nI 1) + nI 1) + (if nI (k % 3) - nI 1 = nI 1 then nI 0 else (nI (k % 3) - nI 1) + nI 1) + nI 1 = nI (fur k) := by decide
theorem fur_lt : ∀ k, k < 9 → fur k < 9 := by decide
/-- how many cells are wrong, as the class counts them -/
def wrL (W H N D : Nat) (p1 p2 p3 : Int64) (blk : Nat → Int64) (o cl kk : Nat → Nat) (ox : Int32) (sk : Nat) : Int32 := pcL (((p1 ^^^ pfP W H D blk o cl kk ox sk 0 N) ||| (p2 ^^^ pfP W H D blk o cl kk ox sk 1 N)) ||| (p3 ^^^ pfP W H D blk o cl kk ox sk 2 N))
def swO (o : Nat → Nat) (q r0 i j : Nat) : Nat → Nat := fun z => if z = r0 then i else if z = q then j else o z
theorem swO_ok {N : Nat} {od : Nat → Int32} {o : Nat → Nat} {q r0 i j : Nat} (hod : ∀ z, z < N → od z = nI (o z) ∧ o z < N) (hi : i < N) (hj : j < N) : ∀ z, z < N → upd (upd od q (nI j)) r0 (nI i) z = nI (swO o q r0 i j z) ∧ swO o q r0 i j z < N := by
  intro z hz
  unfold swO
  by_cases h : z = r0
  · rw [if_pos h, h, pk_us]; exact ⟨rfl, hi⟩
  · rw [if_neg h, pk_un h]
    by_cases h2 : z = q
    · rw [if_pos h2, h2, pk_us]; exact ⟨rfl, hj⟩
    · rw [if_neg h2, pk_un h2]; exact hod z hz
theorem gs_m1 {g : Nat} (hg : g < 2 ^ 31) : gs g = -1 ↔ g = 0 := by
  cases g with
  | zero => exact ⟨fun _ => rfl, fun _ => gs_0⟩
  | succ g =>
    rw [gs_s]
    constructor
    · intro h
      have h1 := congrArg Int32.toInt h
      rw [nI_toInt (by omega)] at h1
      have h2 : (-1 : Int32).toInt = -1 := by decide
      omega
    · intro h; omega
theorem gs_le {g : Nat} (hg : g < 2 ^ 31) : (-1 : Int32) ≤ gs g := by
  cases g with
  | zero => rw [gs_0]; decide
  | succ g => rw [gs_s]; exact Int32.le_trans (by decide) (nI_pos' (by omega))
theorem look_out {x : Int32} (h0 : ¬ x = 0) (h1 : ¬ x = 1) : Op.lookupswitch.offset [(0, 27), (1, 39)] 51 x.toInt = 51 := by
  have a : ¬ (0 : Int) = x.toInt := fun q => h0 (Int32.toInt_inj.mp (q.symm.trans (by decide)))
  have b : ¬ (1 : Int) = x.toInt := fun q => h1 (Int32.toInt_inj.mp (q.symm.trans (by decide)))
  simp [Op.lookupswitch.offset, a, b, Ne.symm a, Ne.symm b]
