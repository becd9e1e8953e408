/-! the reference's reader, call by call -/
def tkJ (lt : Nat → Nat) (n : Nat) (fa : Int32) (b : Bool) (j : Nat) : Nat := if fa = -9 ∧ b = true then nx lt n (j + 1) else j
def tkA (fa : Int32) (b : Bool) (j : Nat) : Int32 := if fa = -9 then (if b = true then -9 else nI j) else fa
theorem tkA_w {fa : Int32} {b : Bool} {j : Nat} (hj : j ≤ 100) (h : tkA fa b j = -9) : fa = -9 ∧ b = true := by
  unfold tkA at h
  split at h
  · rename_i hf
    split at h
    · rename_i hb; exact ⟨hf, hb⟩
    · exact absurd h (nI_ne9 (by omega))
  · rename_i hf; exact absurd h hf
theorem tkJ_le {lt : Nat → Nat} {n : Nat} {fa : Int32} {b : Bool} {j : Nat} (hj : j ≤ n) (hb : fa = -9 → b = true → j < n) : tkJ lt n fa b j ≤ n := by
  unfold tkJ
  split
  · rename_i h
    have h1 := hb h.1 h.2
    have h2 := (nxB_le lt (n - (j + 1)) (j + 1)).2
    show nxB lt (n - (j + 1)) (j + 1) ≤ n
    omega
  · exact hj
theorem tok0 {lt : Nat → Nat} {n j : Nat} : tokN lt n j = 0 ↔ n ≤ j := by
  unfold tokN; repeat' split
  all_goals omega
theorem tok1 {lt : Nat → Nat} {n j : Nat} : tokN lt n j = 1 ↔ (j < n ∧ (lt j = 99 ∨ lt j = 100 ∨ lt j = 114)) := by
  unfold tokN; repeat' split
  all_goals omega
theorem tok2 {lt : Nat → Nat} {n j : Nat} : tokN lt n j = 2 ↔ (j < n ∧ 48 ≤ lt j ∧ lt j ≤ 57) := by
  unfold tokN; repeat' split
  all_goals omega
theorem tok3 {lt : Nat → Nat} {n j : Nat} : tokN lt n j = 3 ↔ (j < n ∧ lt j = 59) := by
  unfold tokN; repeat' split
  all_goals omega
theorem val2 {lt : Nat → Nat} {n j : Nat} (h : tokN lt n j = 2) : valI lt n j = nI (lt j - 48) := by
  have q := tok2.mp h
  unfold valI; rw [if_pos h, ltI_lt q.1]; exact pk_sub (by omega)
theorem val1 {lt : Nat → Nat} {n j : Nat} (h : tokN lt n j = 1) : valI lt n j = nI (lt j) := by
  have q := tok1.mp h
  unfold valI; rw [if_neg (by omega), ltI_lt q.1]; exact (pk_sub (Nat.zero_le _)).trans rfl
def figG (lo : Nat) (lt : Nat → Nat) (n j : Nat) : Bool := decide (j < n ∧ 48 + lo ≤ lt j ∧ lt j ≤ 55)
theorem figG_t {lo : Nat} {lt : Nat → Nat} {n j : Nat} (h : figG lo lt n j = true) : j < n ∧ 48 + lo ≤ lt j ∧ lt j ≤ 55 := of_decide_eq_true h
theorem fig_1 {lo : Nat} (hlo : lo < 2) {lt : Nat → Nat} {n j : Nat} (hl : ∀ i, i < n → lt i < 256) (h : tokN lt n j = 2) (q : ¬ valI lt n j < nI lo ∧ ¬ nI 7 < valI lt n j) : figG lo lt n j = true := by
  have hq := tok2.mp h; have := hl j hq.1
  rw [val2 h] at q
  have := (in_fig (by omega) (by omega) (by decide)).mp q
  exact decide_eq_true ⟨hq.1, by omega, by omega⟩
theorem fig_2 {lo : Nat} (hlo : lo < 2) {lt : Nat → Nat} {n j : Nat} (hl : ∀ i, i < n → lt i < 256) (h : tokN lt n j = 2) (q : ¬ (¬ valI lt n j < nI lo ∧ ¬ nI 7 < valI lt n j)) : figG lo lt n j = false := by
  have hq := tok2.mp h; have := hl j hq.1
  refine decide_eq_false (fun f => q ?_)
  rw [val2 h]
  exact (in_fig (by omega) (by omega) (by decide)).mpr ⟨by omega, by omega⟩
theorem fig_3 {lo : Nat} {lt : Nat → Nat} {n j : Nat} (h : tokN lt n j ≠ 2) : figG lo lt n j = false :=
  decide_eq_false (fun f => h (tok2.mpr ⟨f.1, by omega, by omega⟩))
theorem fig_v {lo : Nat} {lt : Nat → Nat} {n j : Nat} (h : figG lo lt n j = true) : valI lt n j = nI (lt j - 48) := by
  have q := figG_t h
  exact val2 (tok2.mpr ⟨q.1, by omega, by omega⟩)
theorem bI_t' {b : Bool} (h : b = true) : (nI 1 : Int32) = bI b := by rw [h]; rfl
theorem bI_f' {b : Bool} (h : b = false) : (nI 0 : Int32) = bI b := by rw [h]; rfl
/-- the draft after an ink -/
def inkD (fa : Int32) (W H N v : Nat) (ikf pcf : Nat → Nat) : Nat → Int32 := if fa = -9 then drF W H (N + 1) (va_up ikf N v) pcf else drF W H N ikf pcf
def dnV (b : Bool) (v : Nat) : Nat := if b = true then 8 + v else v
/-! a row of the picture -/
def rwG (lt : Nat → Nat) (n W H q j : Nat) : Bool := figG 0 lt n j && decide (q < (if H = 0 then 6 else W))
theorem rwG_t {lt : Nat → Nat} {n W H q j : Nat} (h : rwG lt n W H q j = true) : figG 0 lt n j = true ∧ q < (if H = 0 then 6 else W) := by
  unfold rwG at h; rw [Bool.and_eq_true] at h; exact ⟨h.1, of_decide_eq_true h.2⟩
theorem rwG_1 {lt : Nat → Nat} {n W H q j wd : Nat} (hw : wd = (if H = 0 then 6 else W)) (h : figG 0 lt n j = true) (k : q < wd) : rwG lt n W H q j = true := by
  unfold rwG; rw [h, ← hw]; exact decide_eq_true k
theorem rwG_2 {lt : Nat → Nat} {n W H q j wd : Nat} (hw : wd = (if H = 0 then 6 else W)) (k : ¬ q < wd) : rwG lt n W H q j = false := by
  unfold rwG; rw [← hw, decide_eq_false k, Bool.and_false]
theorem rwG_3 {lt : Nat → Nat} {n W H q j : Nat} (h : figG 0 lt n j = false) : rwG lt n W H q j = false := by
  unfold rwG; rw [h, Bool.false_and]
abbrev RwS : Type := Nat × Nat × Int32 × (Nat → Nat)
abbrev rwC (lt : Nat → Nat) (n W H : Nat) (v : RwS) : Prop := v.2.2.1 = -9 ∧ (v.1 = 0 ∨ v.1 < W ∨ (H = 0 ∧ tokN lt n v.2.1 ≠ 3))
def rwS (lt : Nat → Nat) (n W H : Nat) (v : RwS) : RwS :=
  if rwG lt n W H v.1 v.2.1 = true then (v.1 + 1, tkJ lt n v.2.2.1 (rwG lt n W H v.1 v.2.1) v.2.1, tkA v.2.2.1 (rwG lt n W H v.1 v.2.1) v.2.1, va_up v.2.2.2 (6 * H + v.1) (lt v.2.1 - 48))
  else (v.1, tkJ lt n v.2.2.1 (rwG lt n W H v.1 v.2.1) v.2.1, tkA v.2.2.1 (rwG lt n W H v.1 v.2.1) v.2.1, v.2.2.2)
def rwL (lt : Nat → Nat) (n W H : Nat) : Nat → RwS → RwS
  | 0, v => v
  | k + 1, v => if rwC lt n W H v then rwL lt n W H k (rwS lt n W H v) else v
theorem rwL_e {lt : Nat → Nat} {n W H : Nat} {v : RwS} (h : ¬ rwC lt n W H v) : ∀ k, rwL lt n W H k v = v
  | 0 => rfl
  | k + 1 => by unfold rwL; rw [if_neg h]
theorem rwL_s {lt : Nat → Nat} {n W H : Nat} {v : RwS} (h : rwC lt n W H v) {k : Nat} (hk : 0 < k) : rwL lt n W H k v = rwL lt n W H (k - 1) (rwS lt n W H v) := by
  obtain ⟨k, rfl⟩ : ∃ z, k = z + 1 := ⟨k - 1, by omega⟩
  conv => lhs; unfold rwL
  rw [if_pos h]; rfl
theorem rwL_t {lt : Nat → Nat} {n W H q j k : Nat} {f : Int32} {pcf : Nat → Nat} {RS : RwS} (hk : 0 < k) (h1 : f = -9) (h2 : q = 0 ∨ q < W ∨ (H = 0 ∧ tokN lt n j ≠ 3)) (hB : rwG lt n W H q j = true) (h : rwL lt n W H k (q, j, f, pcf) = RS) : rwL lt n W H (k - 1) (q + 1, tkJ lt n f (rwG lt n W H q j) j, tkA f (rwG lt n W H q j) j, va_up pcf (6 * H + q) (lt j - 48)) = RS := by
  rw [rwL_s (v := (q, j, f, pcf)) ⟨h1, h2⟩ hk] at h
  rw [← h]; congr 1; unfold rwS; rw [if_pos hB]
theorem rwL_f {lt : Nat → Nat} {n W H q j k : Nat} {f : Int32} {pcf : Nat → Nat} {RS : RwS} (hk : 0 < k) (h1 : f = -9) (h2 : q = 0 ∨ q < W ∨ (H = 0 ∧ tokN lt n j ≠ 3)) (hB : ¬ tkA f (rwG lt n W H q j) j = -9) (h : rwL lt n W H k (q, j, f, pcf) = RS) : rwL lt n W H (k - 1) (q, tkJ lt n f (rwG lt n W H q j) j, tkA f (rwG lt n W H q j) j, pcf) = RS := by
  rw [rwL_s (v := (q, j, f, pcf)) ⟨h1, h2⟩ hk] at h
  rw [← h]; congr 1; unfold rwS
  rw [if_neg (fun hb => hB (by unfold tkA; rw [if_pos h1, if_pos hb]))]
