/-! the reference: cuts, orders, guesses -/
def blkR (Sr : Nat → Int32) (b : Nat → Nat) : Nat → Int32 := fun z => if z < 51 then Sr z else if z < 87 then nI (b (z - 51)) else nI 0
theorem blkR_lo {Sr : Nat → Int32} {b : Nat → Nat} {z : Nat} (h : z < 51) : blkR Sr b z = Sr z := by unfold blkR; rw [if_pos h]
theorem blkR_b {Sr : Nat → Int32} {b : Nat → Nat} {z : Nat} (h : z < 36) : blkR Sr b (51 + z) = nI (b z) := by
  unfold blkR; rw [if_neg (by omega), if_pos (by omega), show 51 + z - 51 = z from by omega]
theorem blkR_up (Sr : Nat → Int32) (b : Nat → Nat) {z : Nat} (h : z < 36) (v : Nat) : upd (blkR Sr b) (51 + z) (nI v) = blkR Sr (va_up b z v) := by
  funext j
  by_cases q : j = 51 + z
  · subst q; rw [pk_us, blkR_b h]; simp [va_up]
  · rw [pk_un q]
    unfold blkR
    split
    · rfl
    · split
      · simp only [va_up]; rw [if_neg (by omega)]
      · rfl
def cbI (p0 xx yy : Nat) : Nat → (Nat → Nat) → Nat → Nat
  | 0, b => b
  | i + 1, b => va_up (cbI p0 xx yy i b) (6 * i + yy) (cbI p0 xx yy i b (6 * i + yy) ||| (p0 / 2 ^ i &&& 1) * 2 ^ xx)
def cbX (N : Nat) (fs pcl : Nat → Nat) (yy : Nat) : Nat → (Nat → Nat) → Nat → Nat
  | 0, b => b
  | xx + 1, b => cbI (fs (pcl (6 * yy + xx))) xx yy N (cbX N fs pcl yy xx b)
def cbY (W N : Nat) (fs pcl : Nat → Nat) : Nat → Nat → Nat
  | 0 => fun _ => 0
  | yy + 1 => cbX N fs pcl yy W (cbY W N fs pcl yy)
/-! the next order -/
def dsc (oo : Nat → Nat) : Nat → Nat
  | 0 => 0
  | u + 1 => if oo (u + 1) < oo u then dsc oo u else u + 1
def fnb (oo : Nat → Nat) (x : Nat) : Nat → Nat
  | 0 => 0
  | b + 1 => if oo (b + 1) < x then fnb oo x b else b + 1
def exO (oo : Nat → Nat) (i j : Nat) : Nat → Nat := va_up (va_up oo i (oo j)) j (oo i)
theorem exO_eq (oo : Nat → Nat) (i j : Nat) : upd (upd (aN oo) i (nI (oo j))) j (nI (oo i)) = aN (exO oo i j) := by
  rw [upd_aN, upd_aN]; rfl
/-- k pairs behind the place a exchanged -/
def rvO (N a : Nat) : Nat → (Nat → Nat) → Nat → Nat
  | 0, f => f
  | k + 1, f => if a + (k + 1) < N - (k + 1) then exO (rvO N a k f) (a + (k + 1)) (N - (k + 1)) else rvO N a k f
def nxF (N : Nat) (oo : Nat → Nat) : Nat → Nat := rvO N (dsc oo (N - 1) - 1) 3 (exO oo (dsc oo (N - 1) - 1) (fnb oo (oo (dsc oo (N - 1) - 1)) (N - 1)))
theorem dsc_le (oo : Nat → Nat) (u : Nat) : dsc oo u ≤ u := by
  induction u with
  | zero => exact Nat.le_refl _
  | succ u ih => unfold dsc; split <;> omega
theorem rvO_s {N a k : Nat} {f : Nat → Nat} (h : a + (k + 1) < N - (k + 1)) : rvO N a (k + 1) f = exO (rvO N a k f) (a + (k + 1)) (N - (k + 1)) := by
  conv => lhs; unfold rvO
  rw [if_pos h]
theorem rvO_e {N a k : Nat} {f : Nat → Nat} (h : ¬ a + (k + 1) < N - (k + 1)) : ∀ d, rvO N a (k + d) f = rvO N a k f
  | 0 => rfl
  | d + 1 => by
    show rvO N a (k + d + 1) f = _
    conv => lhs; unfold rvO
    rw [if_neg (by omega)]
    exact rvO_e h d
/-- all orders of N inks, the lower ones first -/
def insA (N : Nat) : Nat → List Nat → List (List Nat)
  | 0, l => [l]
  | k + 1, l => (List.range N).flatMap fun x => if x ∈ l then [] else insA N k (l ++ [x])
def PL (N : Nat) : List (List Nat) := insA N N []
def pfO (N k : Nat) : Nat → Nat := fun q => if q < N then ((PL N).getD k []).getD q 0 else q
/-- whether the orders follow one another -/
def ckO (N : Nat) : Bool := (List.range (PL N).length).all fun k => if k + 1 < (PL N).length then decide (dsc (pfO N k) (N - 1) ≠ 0) && (List.range 6).all (fun q => decide (nxF N (pfO N k) q = pfO N (k + 1) q)) else decide (dsc (pfO N k) (N - 1) = 0)
def fbF (LSk : Nat → Int32) : Nat → Int32 × Nat
  | 0 => (-9, 0)
  | k + 1 => if LSk k ≠ -9 ∧ ((fbF LSk k).1 = -9 ∨ onI (LSk k) 8 < (fbF LSk k).1) then (onI (LSk k) 8, k) else fbF LSk k
/-! guesses -/
def oxM (g : Nat) : Int32 := if g = 0 then -9 else nI ((g - 1) / 9)
def pvG (W H N : Nat) (bk ik o kk : Nat → Nat) (g : Nat) : Nat → Nat := pvF W H bk ik o kk (oxM g) (skG g) N
def snB (pv : Nat → Nat) (W H : Nat) (sx sy sc : Nat → Nat) : Nat → Bool
  | 0 => true
  | i + 1 => snB pv W H sx sy sc i && decide (sx i < W ∧ sy i < H ∧ pv (6 * sy i + sx i) = sc i)
theorem snB_f {pv : Nat → Nat} {W H : Nat} {sx sy sc : Nat → Nat} {i : Nat} (h : snB pv W H sx sy sc i = false) : ∀ {M : Nat}, i ≤ M → snB pv W H sx sy sc M = false
  | 0, hm => by rw [show i = 0 from by omega] at h; exact h
  | M + 1, hm => by
    rcases Nat.lt_or_ge M i with q | q
    · rw [show M + 1 = i from by omega]; exact h
    · unfold snB; rw [snB_f h q]; rfl
def skip (kk : Nat → Nat) (g : Nat) : Bool := decide (g ≠ 0 ∧ kk ((g - 1) / 9) = (g - 1) % 9)
def exM (W H N : Nat) (bk ik o kk : Nat → Nat) (M : Nat) (sx sy sc : Nat → Nat) (g : Nat) : Bool := !skip kk g && snB (pvG W H N bk ik o kk g) W H sx sy sc M
def fsM (P : Nat → Bool) : Nat → Int32
  | 0 => -2000000
  | g + 1 => if P g then (if cntG P g = 0 then gs g else fsM P g) else fsM P g
def byK (pv : Nat → Nat) : Nat → (Nat → Int32) → Nat → Int32
  | 0, f => f
  | k + 1, f => upd (byK pv k f) (8 * k + pv k) (byK pv k f (8 * k + pv k) + nI 1)
def byG (P : Nat → Bool) (pvg : Nat → Nat → Nat) : Nat → Nat → Int32
  | 0 => fun _ => nI 0
  | g + 1 => if P g then byK (pvg g) 36 (byG P pvg g) else byG P pvg g
def mxM (f : Nat → Int32) (k : Nat) : Nat → Int32
  | 0 => nI 0
  | c + 1 => if mxM f k c < f (8 * k + c) then f (8 * k + c) else mxM f k c
def akM (f : Nat → Int32) (W H : Nat) : Nat → Int32 × Int32
  | 0 => (-9, nI 100)
  | k + 1 => if (k % 6 < W ∧ k / 6 < H) ∧ mxM f k 8 < (akM f W H k).2 then (nI k, mxM f k 8) else akM f W H k
theorem two_gs {N : Nat} (h : 0 < N) : nI N - nI 2 = gs (N - 1) := by
  obtain ⟨m, rfl⟩ : ∃ m, N = m + 1 := ⟨N - 1, by omega⟩
  rw [show m + 1 - 1 = m from rfl]
  unfold gs
  rw [← nI_add]
  show nI m + 1 - 2 = nI m + (-1)
  rw [Int32.sub_eq_add_neg, Int32.add_assoc]
  rfl
theorem cz_step {Sr f0 : Nat → Int32} {i : Nat} (hi : 51 ≤ i) (h : ∀ z, f0 z = if 51 ≤ z ∧ z < i then nI 0 else Sr z) : ∀ z, upd f0 i (nI 0) z = if 51 ≤ z ∧ z < i + 1 then nI 0 else Sr z := by
  intro z
  by_cases q : z = i
  · rw [q, pk_us, if_pos (by omega)]
  · rw [pk_un q, h]
    by_cases q2 : 51 ≤ z ∧ z < i
    · rw [if_pos q2, if_pos (by omega)]
    · rw [if_neg q2, if_neg (by omega)]
theorem cz_ext {Sr f0 : Nat → Int32} {i : Nat} (h : ∀ z, f0 z = if 51 ≤ z ∧ z < i then nI 0 else Sr z) (hi : 99 ≤ i) : ∀ z, z < 99 → f0 z = blkR Sr (fun _ => 0) z := by
  intro z hz
  rw [h]
  unfold blkR
  by_cases q : z < 51
  · rw [if_pos q, if_neg (by omega)]
  · rw [if_neg q, if_pos (by omega)]
    split <;> rfl
theorem fb_ne {oo : Nat → Nat} {u b : Nat} (h : oo b < oo u) : b ≠ u := fun e => by rw [e] at h; exact Nat.lt_irrefl _ h
theorem fb_dn {oo : Nat → Nat} {x b : Nat} (hb : 0 < b) (h : oo b < x) : fnb oo x b = fnb oo x (b - 1) := by
  obtain ⟨m, rfl⟩ : ∃ m, b = m + 1 := ⟨b - 1, by omega⟩
  conv => lhs; unfold fnb
  rw [if_pos h]; rfl
theorem fb_st {oo : Nat → Nat} {x b : Nat} (h : x ≤ oo b) : fnb oo x b = b := by
  cases b with
  | zero => rfl
  | succ b => unfold fnb; rw [if_neg (by omega)]
theorem ds_st {oo : Nat → Nat} {u : Nat} (hu : 0 < u) (h : oo (u - 1) ≤ oo u) : dsc oo u = u := by
  obtain ⟨m, rfl⟩ : ∃ m, u = m + 1 := ⟨u - 1, by omega⟩
  have h : oo m ≤ oo (m + 1) := h
  unfold dsc; rw [if_neg (by omega)]
theorem gs_dn {g : Nat} (hg : 0 < g) : gs g + Int32.ofInt (-1) = gs (g - 1) := by
  obtain ⟨m, rfl⟩ : ∃ m, g = m + 1 := ⟨g - 1, by omega⟩
  rw [gs_s]; rfl
theorem nI_dn {b : Nat} (hb : 0 < b) : nI b + Int32.ofInt (-1) = nI (b - 1) := by
  obtain ⟨m, rfl⟩ : ∃ m, b = m + 1 := ⟨b - 1, by omega⟩
  exact pk_m1 m
theorem ds_dn {oo : Nat → Nat} {u : Nat} (hu : 0 < u) (h : oo (u - 1 + 1) < oo (u - 1)) : dsc oo u = dsc oo (u - 1) := by
  obtain ⟨m, rfl⟩ : ∃ m, u = m + 1 := ⟨u - 1, by omega⟩
  have h : oo (m + 1) < oo m := h
  conv => lhs; unfold dsc
  rw [if_pos h]; rfl
theorem ds_st2 {oo : Nat → Nat} {u : Nat} (hu : 0 < u) (h : oo (u - 1) ≤ oo (u - 1 + 1)) : dsc oo u = u := by
  obtain ⟨m, rfl⟩ : ∃ m, u = m + 1 := ⟨u - 1, by omega⟩
  have h : oo m ≤ oo (m + 1) := h
  unfold dsc; rw [if_neg (by omega)]
