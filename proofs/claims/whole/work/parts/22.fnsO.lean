/-! all orders, one behind another: by the kernel's count -/
def fO (N : Nat) (l : List Nat) : Nat → Nat := fun q => if q < N then l.getD q 0 else q
def stO (N : Nat) (l1 l2 : List Nat) : Bool := decide (dsc (fO N l1) (N - 1) ≠ 0) && (List.range 6).all (fun q => decide (nxF N (fO N l1) q = fO N l2 q))
def ckL (N : Nat) : List (List Nat) → Bool
  | [] => true
  | [l] => decide (dsc (fO N l) (N - 1) = 0)
  | l1 :: l2 :: r => stO N l1 l2 && ckL N (l2 :: r)
theorem ckL_ok : ∀ N, N < 7 → ckL N (PL N) = true := by decide +kernel
theorem PL_in : ∀ N, N < 7 → (PL N).all (fun l => (List.range N).all fun q => decide (l.getD q 0 < N)) = true := by decide +kernel
theorem PL_0 : ∀ N, N < 7 → (PL N).length ≠ 0 ∧ (List.range 6).all (fun q => decide (fO N ((PL N).getD 0 []) q = q)) = true := by decide +kernel
theorem ckL_get {N : Nat} : ∀ (l : List (List Nat)), ckL N l = true → ∀ k, k < l.length → (k + 1 < l.length → stO N (l.getD k []) (l.getD (k + 1) []) = true) ∧ (k + 1 = l.length → dsc (fO N (l.getD k [])) (N - 1) = 0)
  | [], _, k, hk => absurd hk (Nat.not_lt_zero _)
  | [l], h, k, hk => by
    have e : k = 0 := by simp at hk; omega
    subst e
    exact ⟨fun h2 => absurd h2 (by simp), fun _ => of_decide_eq_true h⟩
  | l1 :: l2 :: r, h, k, hk => by
    simp only [ckL, Bool.and_eq_true] at h
    cases k with
    | zero => exact ⟨fun _ => h.1, fun h2 => absurd h2 (by simp)⟩
    | succ k =>
      have := ckL_get (l2 :: r) h.2 k (by simp at hk ⊢; omega)
      refine ⟨fun h2 => ?_, fun h2 => ?_⟩
      · exact this.1 (by simp at h2 ⊢; omega)
      · exact this.2 (by simp at h2 ⊢; omega)
theorem pfO_eq (N k : Nat) : pfO N k = fO N ((PL N).getD k []) := rfl
theorem pfO_step {N k : Nat} (hN : N < 7) (hk : k + 1 < (PL N).length) : dsc (pfO N k) (N - 1) ≠ 0 ∧ ∀ q, q < 6 → nxF N (pfO N k) q = pfO N (k + 1) q := by
  have h := (ckL_get (PL N) (ckL_ok N hN) k (by omega)).1 hk
  simp only [stO, Bool.and_eq_true, List.all_eq_true, List.mem_range, decide_eq_true_eq] at h
  exact ⟨h.1, fun q hq => h.2 q hq⟩
theorem pfO_last {N k : Nat} (hN : N < 7) (hk : k + 1 = (PL N).length) : dsc (pfO N k) (N - 1) = 0 := (ckL_get (PL N) (ckL_ok N hN) k (by omega)).2 hk
theorem pfO_lt {N k : Nat} (hN : N < 7) (hk : k < (PL N).length) : ∀ q, q < N → pfO N k q < N := by
  intro q hq
  have h := PL_in N hN
  rw [List.all_eq_true] at h
  have hm : (PL N).getD k [] ∈ PL N := by
    rw [List.getD_eq_getElem?_getD, List.getElem?_eq_getElem hk]
    exact List.getElem_mem hk
  have h2 := h _ hm
  rw [List.all_eq_true] at h2
  have h3 := of_decide_eq_true (h2 q (List.mem_range.mpr hq))
  unfold pfO
  rw [if_pos hq]; exact h3
theorem pfO_0 {N : Nat} (hN : N < 7) : 0 < (PL N).length ∧ ∀ q, q < 6 → pfO N 0 q = q := by
  have h := PL_0 N hN
  refine ⟨Nat.pos_of_ne_zero h.1, fun q hq => ?_⟩
  have h2 := List.all_eq_true.mp h.2 q (List.mem_range.mpr hq)
  exact of_decide_eq_true h2
theorem onI_nn (x : Int32) : ∀ k, ∃ m, m ≤ k ∧ onI x k = nI m
  | 0 => ⟨0, Nat.le_refl _, rfl⟩
  | k + 1 => by
    obtain ⟨m, h1, h2⟩ := onI_nn x k
    obtain ⟨j, hj, e⟩ := pk_andE (x >>> (nI k &&& 31)) (m := nI 1) 1 (by decide)
    unfold onI
    rw [h2, e, nI_add]
    exact ⟨m + j, by omega, rfl⟩
