/-! longs as numbers (rows wb_ of the kit, laws/BITS), slips, the paper, how many bits -/
theorem wb_tb (n : Nat) : (lN n).toBitVec = BitVec.ofNat 64 n := rfl
theorem wb_inj {a b : Int64} (h : a.toBitVec = b.toBitVec) : a = b := Int64.toBitVec_inj.mp h
theorem wb_tn {n : Nat} (h : n < 2 ^ 64) : (lN n).toBitVec.toNat = n := by rw [wb_tb, BitVec.toNat_ofNat, Nat.mod_eq_of_lt h]
theorem wb_of (x : Int64) : ∃ n, n < 2 ^ 64 ∧ x = lN n := ⟨x.toBitVec.toNat, x.toBitVec.isLt, wb_inj (by rw [wb_tb]; simp)⟩
theorem wb_of32 (x : Int32) : ∃ n, n < 2 ^ 32 ∧ x = nI n := ⟨x.toBitVec.toNat, x.toBitVec.isLt, Int32.toBitVec_inj.mp (by show _ = BitVec.ofNat 32 _; simp)⟩
theorem wb_c : ∀ k, k < 64 → ((nI k).toInt64 &&& 63) = lN k := by decide +kernel
theorem wb_cu : ∀ k, k < 64 → ((nI k).toInt64.toUInt64 &&& Int64.toUInt64 63) = UInt64.ofNat k := by decide +kernel
theorem wb_sm : ∀ k, k < 64 → (BitVec.ofNat 64 k).smod 64 = BitVec.ofNat 64 k := by decide +kernel
theorem wb_pw {a b : Nat} (h : a ≤ b) : 2 ^ b = 2 ^ a * 2 ^ (b - a) := by rw [← Nat.pow_add]; (congr 1 <;> omega)
theorem wb_lt2 {a b : Nat} (h : a < b) : 2 ^ a < 2 ^ b := Nat.pow_lt_pow_right (by decide) h
theorem wb_mod (n : Nat) : lN n = lN (n % 2 ^ 64) := wb_inj (by rw [wb_tb, wb_tb]; apply BitVec.eq_of_toNat_eq; rw [BitVec.toNat_ofNat, BitVec.toNat_ofNat, Nat.mod_mod])
theorem wb_shr {n k : Nat} (hn : n < 2 ^ 64) (hk : k < 64) : ((lN n).toUInt64 >>> ((nI k).toInt64.toUInt64 &&& Int64.toUInt64 63)).toInt64 = lN (n / 2 ^ k) := by
  rw [wb_cu k hk]
  apply wb_inj
  apply BitVec.eq_of_toNat_eq
  show ((lN n).toUInt64 >>> UInt64.ofNat k).toNat = (BitVec.ofNat 64 _).toNat
  have h1 : (UInt64.ofNat k).toNat = k := by
    show (BitVec.ofNat 64 k).toNat = k
    rw [BitVec.toNat_ofNat, Nat.mod_eq_of_lt (by omega)]
  have h2 : (lN n).toUInt64.toNat = n := wb_tn hn
  rw [UInt64.toNat_shiftRight, h1, h2, Nat.mod_eq_of_lt hk, Nat.shiftRight_eq_div_pow, BitVec.toNat_ofNat, Nat.mod_eq_of_lt (Nat.lt_of_le_of_lt (Nat.div_le_self _ _) hn)]
theorem wb_shl (n : Nat) {k : Nat} (hk : k < 64) : lN n <<< ((nI k).toInt64 &&& 63) = lN (n * 2 ^ k) := by
  rw [wb_c k hk]
  apply wb_inj
  rw [Int64.toBitVec_shiftLeft, wb_tb, wb_tb, wb_tb, wb_sm k hk]
  apply BitVec.eq_of_toNat_eq
  rw [BitVec.shiftLeft_eq', BitVec.toNat_shiftLeft, BitVec.toNat_ofNat, BitVec.toNat_ofNat, BitVec.toNat_ofNat, Nat.mod_eq_of_lt (show k < 2 ^ 64 by omega), Nat.shiftLeft_eq, Nat.mul_mod, Nat.mod_mod, ← Nat.mul_mod]
theorem wb_and {a b : Nat} (ha : a < 2 ^ 64) (hb : b < 2 ^ 64) : lN a &&& lN b = lN (a &&& b) := by
  apply wb_inj
  rw [Int64.toBitVec_and, wb_tb, wb_tb, wb_tb]
  apply BitVec.eq_of_toNat_eq
  rw [BitVec.toNat_and, BitVec.toNat_ofNat, BitVec.toNat_ofNat, BitVec.toNat_ofNat, Nat.mod_eq_of_lt ha, Nat.mod_eq_of_lt hb, Nat.mod_eq_of_lt (Nat.and_lt_two_pow _ hb)]
theorem wb_or {a b : Nat} (ha : a < 2 ^ 64) (hb : b < 2 ^ 64) : lN a ||| lN b = lN (a ||| b) := by
  apply wb_inj
  rw [Int64.toBitVec_or, wb_tb, wb_tb, wb_tb]
  apply BitVec.eq_of_toNat_eq
  rw [BitVec.toNat_or, BitVec.toNat_ofNat, BitVec.toNat_ofNat, BitVec.toNat_ofNat, Nat.mod_eq_of_lt ha, Nat.mod_eq_of_lt hb, Nat.mod_eq_of_lt (Nat.or_lt_two_pow ha hb)]
theorem wb_mask {n k : Nat} (hn : n < 2 ^ 64) (hk : k < 64) : lN n &&& lN (2 ^ k - 1) = lN (n % 2 ^ k) := by
  rw [wb_and hn (by have := wb_lt2 hk; omega), Nat.and_two_pow_sub_one_eq_mod]
theorem wb_a1 {n : Nat} (hn : n < 2 ^ 64) : lN n &&& 1 = lN (n % 2) := wb_mask (k := 1) hn (by decide)
theorem bL_lN {k : Nat} (h : k < 64) (n : Nat) : bL (lN n) k = n.testBit k := by
  unfold bL; rw [wb_tb, BitVec.getLsbD_ofNat, decide_eq_true h, Bool.true_and]
theorem bL_slip {c : Int64} {s yy xx : Nat} (hs : s < 9) (hc : ∀ z, z < 8 → bL c (8 * z + 7) = false) (hy : yy < 6) (hx : xx < 6) : bL (slipL c s) (8 * yy + xx) = (decide (s % 3 ≤ xx + 1 ∧ s / 3 ≤ yy + 1) && bL c (8 * (yy + 1 - s / 3) + (xx + 1 - s % 3))) := by
  obtain ⟨n, hn, rfl⟩ := wb_of c
  have h7 : ∀ z, z < 8 → n.testBit (8 * z + 7) = false := fun z h => by rw [← bL_lN (by omega)]; exact hc z h
  have R : ∀ d, d < 64 → bL ((lN n).toUInt64 >>> ((nI d).toInt64.toUInt64 &&& Int64.toUInt64 63)).toInt64 (8 * yy + xx) = n.testBit (8 * yy + xx + d) := fun d hd => by
    rw [wb_shr hn hd, bL_lN (by omega), Nat.testBit_div_two_pow]
  have L : ∀ d, d < 64 → bL (lN n <<< ((nI d).toInt64 &&& 63)) (8 * yy + xx) = (decide (d ≤ 8 * yy + xx) && n.testBit (8 * yy + xx - d)) := fun d hd => by
    rw [wb_shl n hd, bL_lN (by omega), Nat.testBit_mul_two_pow]
  rw [bL_lN (by omega)]
  unfold slipL
  match s, hs with
  | 0, _ =>
    rw [if_pos (by decide), show -byS 0 = nI 9 from by decide, R 9 (by decide), decide_eq_true (by omega), Bool.true_and]
    (congr 1 <;> omega)
  | 1, _ =>
    rw [if_pos (by decide), show -byS 1 = nI 8 from by decide, R 8 (by decide), decide_eq_true (by omega), Bool.true_and]
    (congr 1 <;> omega)
  | 2, _ =>
    rw [if_pos (by decide), show -byS 2 = nI 7 from by decide, R 7 (by decide)]
    by_cases g : xx = 0
    · rw [decide_eq_false (by omega), Bool.false_and, g]; exact h7 yy (by omega)
    · rw [decide_eq_true (by omega), Bool.true_and]; (congr 1 <;> omega)
  | 3, _ =>
    rw [if_pos (by decide), show -byS 3 = nI 1 from by decide, R 1 (by decide), decide_eq_true (by omega), Bool.true_and]
    (congr 1 <;> omega)
  | 4, _ =>
    rw [if_neg (by decide), show byS 4 = nI 0 from by decide, L 0 (by decide), decide_eq_true (by omega), decide_eq_true (by omega)]
    (congr 2 <;> omega)
  | 5, _ =>
    rw [if_neg (by decide), show byS 5 = nI 1 from by decide, L 1 (by decide)]
    by_cases g : xx = 0
    · rw [decide_eq_false (p := 5 % 3 ≤ xx + 1 ∧ 5 / 3 ≤ yy + 1) (by omega), Bool.false_and]
      by_cases f : yy = 0
      · rw [decide_eq_false (by omega), Bool.false_and]
      · have := h7 (yy - 1) (by omega)
        rw [show 8 * yy + xx - 1 = 8 * (yy - 1) + 7 from by omega, this, Bool.and_false]
    · rw [decide_eq_true (by omega), decide_eq_true (by omega)]; (congr 2 <;> omega)
  | 6, _ =>
    rw [if_neg (by decide), show byS 6 = nI 7 from by decide, L 7 (by decide)]
    by_cases f : yy = 0
    · rw [decide_eq_false (by omega), decide_eq_false (by omega), Bool.false_and, Bool.false_and]
    · rw [decide_eq_true (by omega), decide_eq_true (by omega)]; (congr 2 <;> omega)
  | 7, _ =>
    rw [if_neg (by decide), show byS 7 = nI 8 from by decide, L 8 (by decide)]
    by_cases f : yy = 0
    · rw [decide_eq_false (by omega), decide_eq_false (by omega), Bool.false_and, Bool.false_and]
    · rw [decide_eq_true (by omega), decide_eq_true (by omega)]; (congr 2 <;> omega)
  | 8, _ =>
    rw [if_neg (by decide), show byS 8 = nI 9 from by decide, L 9 (by decide)]
    by_cases f : yy = 0
    · rw [decide_eq_false (by omega), decide_eq_false (by omega), Bool.false_and, Bool.false_and]
    · by_cases g : xx = 0
      · rw [decide_eq_false (p := 8 % 3 ≤ xx + 1 ∧ 8 / 3 ≤ yy + 1) (by omega), Bool.false_and]
        by_cases k : yy = 1
        · rw [decide_eq_false (by omega), Bool.false_and]
        · have := h7 (yy - 2) (by omega)
          rw [show 8 * yy + xx - 9 = 8 * (yy - 2) + 7 from by omega, this, Bool.and_false]
      · rw [decide_eq_true (by omega), decide_eq_true (by omega)]; (congr 2 <;> omega)
theorem rowL_eq : ∀ W, W < 7 → rowL W = lN (2 ^ W - 1) := by decide +kernel
theorem bL_pap : ∀ W, W < 7 → ∀ H, H < 7 → ∀ yy, yy < 8 → ∀ xx, xx < 8 → bL (papL W H) (8 * yy + xx) = decide (xx < W ∧ yy < H) := by
  intro W hW H
  induction H with
  | zero => intro _ yy _ xx _; rw [decide_eq_false (by omega)]; exact bL_0 _
  | succ H ih =>
    intro hH yy hy xx hx
    unfold papL
    rw [bL_or, ih (by omega) yy hy xx hx, rowL_eq W hW, wb_shl _ (show 8 * H < 64 by omega), bL_lN (by omega), Nat.testBit_mul_two_pow, Nat.testBit_two_pow_sub_one, Bool.eq_iff_iff]
    simp only [Bool.or_eq_true, Bool.and_eq_true, decide_eq_true_eq]
    omega
theorem bL_prL {k : Nat} (h : k < 64) (pl ce : Int64) (has dn : Bool) : bL (prL pl ce has dn) k = if bL ce k then (has || (bL pl k && !dn)) else bL pl k := by
  unfold prL
  cases has with
  | true => rw [if_pos rfl, bL_or]; cases bL ce k <;> simp
  | false =>
    rw [if_neg (by decide)]
    cases dn with
    | true => rw [if_pos rfl, bL_and, bL_n h]; cases bL ce k <;> simp
    | false => rw [if_neg (by decide)]; cases bL ce k <;> simp
