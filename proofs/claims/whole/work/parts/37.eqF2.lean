/-! how many bits -/
def cX (p : Nat → Bool) : Nat → Nat
  | 0 => 0
  | k + 1 => cX p k + (if p k then 1 else 0)
def cY (p : Nat → Nat → Bool) : Nat → Nat
  | 0 => 0
  | k + 1 => cY p k + cX (p k) 8
theorem cX_cong {p q : Nat → Bool} : ∀ n, (∀ k, k < n → p k = q k) → cX p n = cX q n
  | 0, _ => rfl
  | n + 1, h => by unfold cX; rw [cX_cong n (fun k hk => h k (by omega)), h n (by omega)]
theorem cX_le (p : Nat → Bool) : ∀ n, cX p n ≤ n
  | 0 => Nat.le_refl _
  | n + 1 => by unfold cX; have := cX_le p n; split <;> omega
theorem cX_ext {p : Nat → Bool} {n : Nat} : ∀ d, (∀ k, n ≤ k → k < n + d → p k = false) → cX p (n + d) = cX p n
  | 0, _ => rfl
  | d + 1, h => by
    show cX p (n + d) + (if p (n + d) then 1 else 0) = cX p n
    rw [h (n + d) (by omega) (by omega), cX_ext d (fun k h1 h2 => h k h1 (by omega))]; rfl
theorem cY_cong {p q : Nat → Nat → Bool} : ∀ n, (∀ k, k < n → ∀ j, j < 8 → p k j = q k j) → cY p n = cY q n
  | 0, _ => rfl
  | n + 1, h => by unfold cY; rw [cY_cong n (fun k hk => h k (by omega)), cX_cong 8 (h n (by omega))]
def vb : List Nat → Nat
  | [] => 0
  | b :: l => b + 256 * vb l
theorem a256 {b m v w : Nat} (hb : b < 256) (hm : m < 256) : (b + 256 * v) &&& (m + 256 * w) = (b &&& m) + 256 * (v &&& w) := by
  have hbm : b &&& m < 2 ^ 8 := Nat.and_lt_two_pow _ hm
  apply Nat.eq_of_testBit_eq
  intro j
  rw [Nat.add_comm b, Nat.add_comm m, Nat.add_comm (b &&& m), Nat.testBit_and, show (256 : Nat) = 2 ^ 8 from rfl, Nat.testBit_two_pow_mul_add v hb, Nat.testBit_two_pow_mul_add w hm, Nat.testBit_two_pow_mul_add _ hbm]
  split
  · rw [Nat.testBit_and]
  · rw [Nat.testBit_and]
theorem v_t1 : ∀ b, b < 256 → ∀ e, e < 2 → (b / 2 + 128 * e) &&& 85 = b / 2 &&& 85 := by decide +kernel
theorem v_t2 : ∀ b, b < 256 → ∀ e, e < 4 → (b / 4 + 64 * e) &&& 51 = b / 4 &&& 51 := by decide +kernel
theorem vb_1 : ∀ l : List Nat, (∀ b ∈ l, b < 256) → vb l / 2 &&& vb (l.map fun _ => 85) = vb (l.map fun b => b / 2 &&& 85)
  | [], _ => rfl
  | b :: l, h => by
    have hb := h b List.mem_cons_self
    have ih := vb_1 l (fun x hx => h x (List.mem_cons_of_mem _ hx))
    show (b + 256 * vb l) / 2 &&& (85 + 256 * vb (l.map fun _ => 85)) = (b / 2 &&& 85) + 256 * vb (l.map fun b => b / 2 &&& 85)
    rw [show (b + 256 * vb l) / 2 = (b / 2 + 128 * (vb l % 2)) + 256 * (vb l / 2) from by omega, a256 (by omega) (by omega), ih, v_t1 b hb _ (by omega)]
theorem vb_2 : ∀ l : List Nat, (∀ b ∈ l, b < 256) → vb l / 4 &&& vb (l.map fun _ => 51) = vb (l.map fun b => b / 4 &&& 51)
  | [], _ => rfl
  | b :: l, h => by
    have hb := h b List.mem_cons_self
    have ih := vb_2 l (fun x hx => h x (List.mem_cons_of_mem _ hx))
    show (b + 256 * vb l) / 4 &&& (51 + 256 * vb (l.map fun _ => 51)) = (b / 4 &&& 51) + 256 * vb (l.map fun b => b / 4 &&& 51)
    rw [show (b + 256 * vb l) / 4 = (b / 4 + 64 * (vb l % 4)) + 256 * (vb l / 4) from by omega, a256 (by omega) (by omega), ih, v_t2 b hb _ (by omega)]
theorem vb_3 : ∀ l : List Nat, (∀ b ∈ l, b < 256) → vb l &&& vb (l.map fun _ => 51) = vb (l.map fun b => b &&& 51)
  | [], _ => rfl
  | b :: l, h => by
    have hb := h b List.mem_cons_self
    have ih := vb_3 l (fun x hx => h x (List.mem_cons_of_mem _ hx))
    show (b + 256 * vb l) &&& (51 + 256 * vb (l.map fun _ => 51)) = (b &&& 51) + 256 * vb (l.map fun b => b &&& 51)
    rw [a256 hb (by omega), ih]
theorem vb_sub (f : Nat → Nat) (hf : ∀ b, f b ≤ b) : ∀ l : List Nat, vb (l.map f) ≤ vb l ∧ vb l - vb (l.map f) = vb (l.map fun b => b - f b)
  | [] => ⟨Nat.le_refl _, rfl⟩
  | b :: l => by
    have ih := vb_sub f hf l
    have h := hf b
    show f b + 256 * vb (l.map f) ≤ b + 256 * vb l ∧ (b + 256 * vb l) - (f b + 256 * vb (l.map f)) = (b - f b) + 256 * vb (l.map fun b => b - f b)
    omega
theorem vb_add (f g : Nat → Nat) : ∀ l : List Nat, vb (l.map f) + vb (l.map g) = vb (l.map fun b => f b + g b)
  | [] => rfl
  | b :: l => by
    have ih := vb_add f g l
    show (f b + 256 * vb (l.map f)) + (g b + 256 * vb (l.map g)) = (f b + g b) + 256 * vb (l.map fun b => f b + g b)
    omega
theorem vb_low : ∀ l : List Nat, (∀ b ∈ l, b % 16 ≤ 4 ∧ b / 16 ≤ 4) → vb l % 16 ≤ 4
  | [], _ => by decide
  | b :: l, h => by
    have hb := h b List.mem_cons_self
    show (b + 256 * vb l) % 16 ≤ 4
    omega
theorem vb_5 : ∀ l : List Nat, (∀ b ∈ l, b % 16 ≤ 4 ∧ b / 16 ≤ 4) → (vb l + vb l / 16) &&& vb (l.map fun _ => 15) = vb (l.map fun b => (b + b / 16) &&& 15)
  | [], _ => rfl
  | b :: l, h => by
    have hb := h b List.mem_cons_self
    have ht := fun x hx => h x (List.mem_cons_of_mem b hx)
    have ih := vb_5 l ht
    have hl := vb_low l ht
    show ((b + 256 * vb l) + (b + 256 * vb l) / 16) &&& (15 + 256 * vb (l.map fun _ => 15)) = ((b + b / 16) &&& 15) + 256 * vb (l.map fun b => (b + b / 16) &&& 15)
    rw [show (b + 256 * vb l) + (b + 256 * vb l) / 16 = (b + b / 16 + 16 * (vb l % 16)) + 256 * (vb l + vb l / 16) from by omega, a256 (by omega) (by omega), ih]
    congr 1
    have e1 := Nat.and_two_pow_sub_one_eq_mod (b + b / 16 + 16 * (vb l % 16)) 4
    have e2 := Nat.and_two_pow_sub_one_eq_mod (b + b / 16) 4
    have e1 : (b + b / 16 + 16 * (vb l % 16)) &&& 15 = (b + b / 16 + 16 * (vb l % 16)) % 16 := e1
    have e2 : (b + b / 16) &&& 15 = (b + b / 16) % 16 := e2
    rw [e1, e2]; omega
def g1B (b : Nat) : Nat := b - (b / 2 &&& 85)
def g2B (b : Nat) : Nat := (b &&& 51) + (b / 4 &&& 51)
def g3B (b : Nat) : Nat := (b + b / 16) &&& 15
theorem v_t3 : ∀ b, b < 256 → g1B b < 256 ∧ (g2B (g1B b) % 16 ≤ 4 ∧ g2B (g1B b) / 16 ≤ 4) ∧ g3B (g2B (g1B b)) = cX (b.testBit ·) 8 := by decide +kernel
theorem v_le (b : Nat) : b / 2 &&& 85 ≤ b := Nat.le_trans Nat.and_le_left (Nat.div_le_self _ _)
def btB : Nat → Nat → List Nat
  | 0, _ => []
  | k + 1, n => n % 256 :: btB k (n / 256)
theorem vb_bt : ∀ k n, vb (btB k n) = n % 256 ^ k
  | 0, n => by show 0 = n % 1; omega
  | k + 1, n => by
    show n % 256 + 256 * vb (btB k (n / 256)) = _
    rw [vb_bt k, Nat.pow_succ, Nat.mul_comm (256 ^ k), Nat.mod_mul]
theorem bt_lt : ∀ k n, ∀ b ∈ btB k n, b < 256
  | 0, n, b, h => absurd h List.not_mem_nil
  | k + 1, n, b, h => by
    rcases List.mem_cons.mp h with rfl | h
    · exact Nat.mod_lt _ (by decide)
    · exact bt_lt k _ b h
