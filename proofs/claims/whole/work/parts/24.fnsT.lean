/-! the reference's text: the same reading, in numbers -/
abbrev MSt : Type := Nat × Nat × Nat × Nat × Nat × (Nat → Nat) × (Nat → Nat)
def endM : MSt → Option MSt
  | (it, fg, W, H, N, ikf, pcf) => if it = 32 ∨ fg = 0 then none else if it = 114 then (if 0 < H ∧ fg ≠ W then none else some (32, fg, fg, H + 1, N, ikf, pcf)) else some (32, fg, W, H, N, ikf, pcf)
def cellM (q : Nat) : MSt → Option MSt
  | (it, fg, W, H, N, ikf, pcf) => if fg < (if H = 0 then 6 else W) then some (it, fg + 1, W, H, N, ikf, va_up pcf (6 * H + fg) q) else none
def inkM (q : Nat) : MSt → Option MSt
  | (it, fg, W, H, N, ikf, pcf) => if it = 32 ∨ fg ≠ 0 ∨ q = 0 then none else some (it, 1, W, H, N + 1, va_up ikf N (if it = 100 then 8 + q else q), pcf)
def begM (ch : Nat) : MSt → Option MSt
  | (it, fg, W, H, N, ikf, pcf) => if it = 32 ∧ (((ch = 99 ∨ ch = 100) ∧ N < 6) ∨ (ch = 114 ∧ H < 6)) then some (ch, 0, W, H, N, ikf, pcf) else none
def tkM (ch : Nat) (u : MSt) : Option MSt := if ch = 59 then endM u else if 48 ≤ ch ∧ ch ≤ 55 then (if u.1 = 114 then cellM (ch - 48) u else inkM (ch - 48) u) else begM ch u
def scanM (lt : Nat → Nat) : Nat → Nat → MSt → Option Nat × MSt
  | 0, _, u => (none, u)
  | k + 1, i, u => if lt i = 32 then scanM lt k (i + 1) u else match tkM (lt i) u with
    | none => (some i, u)
    | some v => scanM lt k (i + 1) v
def rdM (n : Nat) (x : Option Nat × MSt) : Int32 := match x.1 with
  | some i => nI i
  | none => if x.2.1 = 32 ∧ 0 < x.2.2.2.2.1 then (-9) else nI n
/-- the draft of a state -/
def drF (W H N : Nat) (ikf pcf : Nat → Nat) : Nat → Int32 := fun z => if z = 0 then nI W else if z = 1 then nI H else if z = 2 then nI N else if z < 39 then nI (pcf (z - 3)) else if z < 45 then nI (ikf (z - 39)) else nI 0
theorem drF_ik (W H N : Nat) (ikf pcf : Nat → Nat) {i : Nat} (h : i < 6) (v : Nat) : upd (drF W H N ikf pcf) (39 + i) (nI v) = drF W H N (va_up ikf i v) pcf := by
  funext z
  by_cases q : z = 39 + i
  · subst q; rw [pk_us]; unfold drF va_up
    rw [if_neg (by omega), if_neg (by omega), if_neg (by omega), if_neg (by omega), if_pos (by omega), if_pos (by omega)]
  · rw [pk_un q]; unfold drF va_up
    repeat' split
    all_goals first | rfl | omega
theorem drF_pc (W H N : Nat) (ikf pcf : Nat → Nat) {i : Nat} (h : i < 36) (v : Nat) : upd (drF W H N ikf pcf) (3 + i) (nI v) = drF W H N ikf (va_up pcf i v) := by
  funext z
  by_cases q : z = 3 + i
  · subst q; rw [pk_us]; unfold drF va_up
    rw [if_neg (by omega), if_neg (by omega), if_neg (by omega), if_pos (by omega), if_pos (by omega)]
  · rw [pk_un q]; unfold drF va_up
    repeat' split
    all_goals first | rfl | omega
theorem drF_0 (W H N : Nat) (ikf pcf : Nat → Nat) (v : Nat) : upd (drF W H N ikf pcf) 0 (nI v) = drF v H N ikf pcf := by
  funext z
  by_cases q : z = 0
  · subst q; rw [pk_us]; rfl
  · rw [pk_un q]; unfold drF; rw [if_neg q, if_neg q]
theorem drF_1 (W H N : Nat) (ikf pcf : Nat → Nat) (v : Nat) : upd (drF W H N ikf pcf) 1 (nI v) = drF W v N ikf pcf := by
  funext z
  by_cases q : z = 1
  · subst q; rw [pk_us]; rfl
  · rw [pk_un q]; unfold drF; simp only [if_neg q]
theorem drF_2 (W H N : Nat) (ikf pcf : Nat → Nat) (v : Nat) : upd (drF W H N ikf pcf) 2 (nI v) = drF W H v ikf pcf := by
  funext z
  by_cases q : z = 2
  · subst q; rw [pk_us]; rfl
  · rw [pk_un q]; unfold drF; simp only [if_neg q]
/-- the next place that is no blank -/
def nxB (lt : Nat → Nat) : Nat → Nat → Nat
  | 0, i => i
  | k + 1, i => if lt i = 32 then nxB lt k (i + 1) else i
def nx (lt : Nat → Nat) (n i : Nat) : Nat := nxB lt (n - i) i
theorem nxB_le (lt : Nat → Nat) : ∀ k i, i ≤ nxB lt k i ∧ nxB lt k i ≤ i + k
  | 0, i => ⟨Nat.le_refl _, Nat.le_refl _⟩
  | k + 1, i => by
    unfold nxB
    split
    · have := nxB_le lt k (i + 1); omega
    · omega
theorem nx_le {lt : Nat → Nat} {n i : Nat} (h : i ≤ n) : i ≤ nx lt n i ∧ nx lt n i ≤ n := by
  have := nxB_le lt (n - i) i
  unfold nx; omega
theorem nx_b {lt : Nat → Nat} {n i : Nat} (h : i < n) (hb : lt i = 32) : nx lt n (i + 1) = nx lt n i := by
  unfold nx
  rw [show n - i = (n - (i + 1)) + 1 from by omega]
  conv => rhs; unfold nxB
  rw [if_pos hb]
theorem nx_s {lt : Nat → Nat} {n i : Nat} (hb : i < n → lt i ≠ 32) : nx lt n i = i := by
  unfold nx
  by_cases h : i < n
  · rw [show n - i = (n - (i + 1)) + 1 from by omega]
    unfold nxB
    rw [if_neg (hb h)]
  · rw [show n - i = 0 from by omega]; rfl
theorem nx_nb {lt : Nat → Nat} {n : Nat} : ∀ k i, n - i = k → nx lt n i < n → lt (nx lt n i) ≠ 32
  | 0, i, e, h => by unfold nx at h; rw [e] at h; have h : i < n := h; omega
  | k + 1, i, e, h => by
    by_cases hb : lt i = 32
    · rw [← nx_b (by omega) hb] at h ⊢
      exact nx_nb k (i + 1) (by omega) h
    · rw [nx_s (fun _ => hb)]; exact hb
theorem scan_nx {lt : Nat → Nat} {n : Nat} (u : MSt) : ∀ k i, n - i = k → scanM lt (n - i) i u = scanM lt (n - nx lt n i) (nx lt n i) u
  | 0, i, e => by rw [show nx lt n i = i from by unfold nx; rw [e]; rfl]
  | k + 1, i, e => by
    by_cases hb : lt i = 32
    · rw [← nx_b (by omega) hb, ← scan_nx u k (i + 1) (by omega), e, show n - (i + 1) = k from by omega]
      conv => lhs; unfold scanM
      rw [if_pos hb]
    · rw [nx_s (fun _ => hb)]
def tokN (lt : Nat → Nat) (n j : Nat) : Nat := if n ≤ j then 0 else if lt j = 99 ∨ lt j = 100 ∨ lt j = 114 then 1 else if 48 ≤ lt j ∧ lt j ≤ 57 then 2 else if lt j = 59 then 3 else 4
theorem tokN_le (lt : Nat → Nat) (n j : Nat) : tokN lt n j ≤ 4 := by unfold tokN; repeat' split
                                                                     all_goals omega
def ltI (lt : Nat → Nat) (n j : Nat) : Int32 := if j < n then nI (lt j) else -1
def valI (lt : Nat → Nat) (n j : Nat) : Int32 := ltI lt n j - nI (if tokN lt n j = 2 then 48 else 0)
def atT (n j : Nat) : Nat := j + (if j < n then 1 else 0)
theorem ltI_lt {lt : Nat → Nat} {n j : Nat} (h : j < n) : ltI lt n j = nI (lt j) := by unfold ltI; rw [if_pos h]
theorem ltI_ge {lt : Nat → Nat} {n j : Nat} (h : ¬ j < n) : ltI lt n j = -1 := by unfold ltI; rw [if_neg h]
theorem ltI_pos {lt : Nat → Nat} {n j : Nat} (hl : ∀ i, i < n → lt i < 256) : 0 ≤ ltI lt n j ↔ j < n := by
  by_cases h : j < n
  · rw [ltI_lt h]; exact ⟨fun _ => h, fun _ => nI_pos' (Nat.lt_trans (hl j h) (by decide))⟩
  · rw [ltI_ge h]; exact ⟨fun q => absurd q (by decide), fun q => absurd q h⟩
theorem ltI_32 {lt : Nat → Nat} {n j : Nat} (hl : ∀ i, i < n → lt i < 256) : ltI lt n j = nI 32 ↔ (j < n ∧ lt j = 32) := by
  by_cases h : j < n
  · rw [ltI_lt h, nI_eq (Nat.lt_trans (hl j h) (by decide)) (by decide)]; exact ⟨fun q => ⟨h, q⟩, fun q => q.2⟩
  · rw [ltI_ge h]; exact ⟨fun q => absurd q (by decide), fun q => absurd q.1 h⟩
theorem in_fig {a lo hi : Nat} (ha : a < 256) (hl : lo < 256) (hh : hi < 256) : (¬ nI a < nI lo ∧ ¬ nI hi < nI a) ↔ (lo ≤ a ∧ a ≤ hi) := by
  rw [nI_ltI (by omega) (by omega), nI_ltI (by omega) (by omega)]; omega
