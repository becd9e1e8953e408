theorem dvL {n a b m : Nat} (h : n = a + m * b) (ha : a < m) : n / m = b := by
  subst h
  rw [Nat.add_mul_div_left _ _ (by omega), Nat.div_eq_of_lt ha, Nat.zero_add]
theorem s8A {c0 c1 c2 c3 c4 c5 c6 c7 : Nat} : (c0 + 256 * (c1 + 256 * (c2 + 256 * (c3 + 256 * (c4 + 256 * (c5 + 256 * (c6 + 256 * (c7 + 256 * 0)))))))) + (c1 + 256 * (c2 + 256 * (c3 + 256 * (c4 + 256 * (c5 + 256 * (c6 + 256 * (c7 + 256 * 0))))))) = ((c0 + c1) + 256 * (c1 + c2)) + 65536 * ((c2 + c3) + 256 * ((c3 + c4) + 256 * ((c4 + c5) + 256 * ((c5 + c6) + 256 * ((c6 + c7) + 256 * c7))))) := by omega
theorem s8B {c0 c1 c2 c3 c4 c5 c6 c7 : Nat} : (((c0 + c1) + 256 * (c1 + c2)) + 65536 * ((c2 + c3) + 256 * ((c3 + c4) + 256 * ((c4 + c5) + 256 * ((c5 + c6) + 256 * ((c6 + c7) + 256 * c7)))))) + ((c2 + c3) + 256 * ((c3 + c4) + 256 * ((c4 + c5) + 256 * ((c5 + c6) + 256 * ((c6 + c7) + 256 * c7))))) = ((c0 + c1 + c2 + c3) + 256 * ((c1 + c2 + c3 + c4) + 256 * ((c2 + c3 + c4 + c5) + 256 * (c3 + c4 + c5 + c6)))) + 4294967296 * ((c4 + c5 + c6 + c7) + 256 * ((c5 + c6 + c7) + 256 * ((c6 + c7) + 256 * c7))) := by omega
theorem s8C {c0 c1 c2 c3 c4 c5 c6 c7 : Nat} : (((c0 + c1 + c2 + c3) + 256 * ((c1 + c2 + c3 + c4) + 256 * ((c2 + c3 + c4 + c5) + 256 * (c3 + c4 + c5 + c6)))) + 4294967296 * ((c4 + c5 + c6 + c7) + 256 * ((c5 + c6 + c7) + 256 * ((c6 + c7) + 256 * c7)))) + ((c4 + c5 + c6 + c7) + 256 * ((c5 + c6 + c7) + 256 * ((c6 + c7) + 256 * c7))) = (c0 + c1 + c2 + c3 + c4 + c5 + c6 + c7) + 128 * (2 * ((c1 + c2 + c3 + c4 + c5 + c6 + c7) + 256 * ((c2 + c3 + c4 + c5 + c6 + c7) + 256 * ((c3 + c4 + c5 + c6 + c7) + 256 * ((c4 + c5 + c6 + c7) + 256 * ((c5 + c6 + c7) + 256 * ((c6 + c7) + 256 * c7))))))) := by omega
theorem s8m {a b c : Nat} (ha : a ≤ 8) (hb : b < c) : a + 256 * b < 256 * c := by omega
theorem s8D {c0 c1 c2 c3 c4 c5 c6 c7 : Nat} (h0 : c0 ≤ 8) (h1 : c1 ≤ 8) (h2 : c2 ≤ 8) (h3 : c3 ≤ 8) (h4 : c4 ≤ 8) (h5 : c5 ≤ 8) (h6 : c6 ≤ 8) (h7 : c7 ≤ 8) : (c0 + 256 * (c1 + 256 * (c2 + 256 * (c3 + 256 * (c4 + 256 * (c5 + 256 * (c6 + 256 * (c7 + 256 * 0)))))))) < 2 ^ 60 :=
  Nat.lt_of_lt_of_le (s8m h0 (s8m h1 (s8m h2 (s8m h3 (s8m h4 (s8m h5 (s8m h6 (show c7 + 256 * 0 < 9 by omega)))))))) (by decide)
theorem s8E {n : Nat} (h : n < 2 ^ 60) : n + n / 2 ^ 8 < 2 ^ 61 := by omega
theorem s8F {n : Nat} (h : n < 2 ^ 61) : n + n / 2 ^ 16 < 2 ^ 61 + 2 ^ 45 := by omega
theorem s8G {n : Nat} (h : n < 2 ^ 61 + 2 ^ 45) : n + n / 2 ^ 32 < 2 ^ 62 := by omega
theorem sum8 {n c0 c1 c2 c3 c4 c5 c6 c7 : Nat} (h : n = c0 + 256 * (c1 + 256 * (c2 + 256 * (c3 + 256 * (c4 + 256 * (c5 + 256 * (c6 + 256 * (c7 + 256 * 0)))))))) (h0 : c0 ≤ 8) (h1 : c1 ≤ 8) (h2 : c2 ≤ 8) (h3 : c3 ≤ 8) (h4 : c4 ≤ 8) (h5 : c5 ≤ 8) (h6 : c6 ≤ 8) (h7 : c7 ≤ 8) :
    n < 2 ^ 60 ∧ n + n / 2 ^ 8 < 2 ^ 61 ∧ (n + n / 2 ^ 8) + (n + n / 2 ^ 8) / 2 ^ 16 < 2 ^ 61 + 2 ^ 45 ∧ ((n + n / 2 ^ 8) + (n + n / 2 ^ 8) / 2 ^ 16) + ((n + n / 2 ^ 8) + (n + n / 2 ^ 8) / 2 ^ 16) / 2 ^ 32 < 2 ^ 62 ∧ (((n + n / 2 ^ 8) + (n + n / 2 ^ 8) / 2 ^ 16) + ((n + n / 2 ^ 8) + (n + n / 2 ^ 8) / 2 ^ 16) / 2 ^ 32) % 128 = c0 + c1 + c2 + c3 + c4 + c5 + c6 + c7 := by
  have k0 : n < 2 ^ 60 := h ▸ s8D h0 h1 h2 h3 h4 h5 h6 h7
  have k1 := s8E k0
  have k2 := s8F k1
  have k3 := s8G k2
  refine ⟨k0, k1, k2, k3, ?_⟩
  clear k0 k1 k2 k3
  have e1 := dvL (a := c0) (m := 2 ^ 8) h (Nat.lt_of_le_of_lt h0 (by decide))
  have d2 := s8A (c0 := c0) (c1 := c1) (c2 := c2) (c3 := c3) (c4 := c4) (c5 := c5) (c6 := c6) (c7 := c7)
  rw [← h] at d2
  rw [e1, d2]
  have e2 := dvL (n := ((c0 + c1) + 256 * (c1 + c2)) + 65536 * ((c2 + c3) + 256 * ((c3 + c4) + 256 * ((c4 + c5) + 256 * ((c5 + c6) + 256 * ((c6 + c7) + 256 * c7)))))) (a := (c0 + c1) + 256 * (c1 + c2)) (m := 2 ^ 16) rfl (by clear h e1 d2; omega)
  rw [e2, s8B]
  have e3 := dvL (n := ((c0 + c1 + c2 + c3) + 256 * ((c1 + c2 + c3 + c4) + 256 * ((c2 + c3 + c4 + c5) + 256 * (c3 + c4 + c5 + c6)))) + 4294967296 * ((c4 + c5 + c6 + c7) + 256 * ((c5 + c6 + c7) + 256 * ((c6 + c7) + 256 * c7)))) (a := (c0 + c1 + c2 + c3) + 256 * ((c1 + c2 + c3 + c4) + 256 * ((c2 + c3 + c4 + c5) + 256 * (c3 + c4 + c5 + c6)))) (m := 2 ^ 32) rfl (by clear h e1 d2 e2; omega)
  rw [e3, s8C, Nat.add_mul_mod_self_left, Nat.mod_eq_of_lt (by clear h e1 d2 e2 e3; omega)]
