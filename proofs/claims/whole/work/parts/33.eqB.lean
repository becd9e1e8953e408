/-! the class's reading and the reference's reading are one -/
def inkR (N D : Nat) (col od : Nat → Int32) (blk : Nat → Int64) (slp : Nat → Int32) (ikf : Nat → Nat) : Prop := ∀ i, i < N → col i = nI (ikf i % 8) ∧ D.testBit i = decide (8 ≤ ikf i) ∧ 0 < ikf i % 8 ∧ ikf i < 16 ∧ od i = nI i ∧ blk i = 0 ∧ slp i = nI 4
def plR (pl : Int64) (b : Nat) (pcf : Nat → Nat) : Prop := ∀ yy xx, yy < 8 → xx < 8 → bL pl (8 * yy + xx) = (decide (xx < 6 ∧ yy < 6) && (pcf (6 * yy + xx)).testBit b)
theorem plR_up {pl : Int64} {b : Nat} {pcf : Nat → Nat} (h : plR pl b pcf) {H fg : Nat} (hH : H < 6) (hf : fg < 6) (q : Nat) : plR (prL pl (cbL (8 * H + fg)) (q.testBit b) true) b (va_up pcf (6 * H + fg) q) := by
  intro yy xx hy hx
  rw [bL_pr (by omega) _ _ (by omega)]
  by_cases e : yy = H ∧ xx = fg
  · obtain ⟨rfl, rfl⟩ := e
    rw [if_pos rfl, decide_eq_true (And.intro hf hH)]
    unfold va_up; rw [if_pos rfl, Bool.true_and]
  · rw [if_neg (by omega), h yy xx hy hx]
    by_cases g : xx < 6 ∧ yy < 6
    · unfold va_up; rw [if_neg (by omega)]
    · rw [decide_eq_false g, Bool.false_and, Bool.false_and]
theorem inkR_up {N D q it : Nat} {col od : Nat → Int32} {blk : Nat → Int64} {slp : Nat → Int32} {ikf : Nat → Nat} (h : inkR N D col od blk slp ikf) (hD : D < 2 ^ N) (hq : 0 < q) (hq8 : q < 8) : inkR (N + 1) (if decide (it = 100) then D ||| 2 ^ N else D) (upd col N (nI q)) (upd od N (nI N)) (vp_updL blk N 0) (upd slp N (nI 4)) (va_up ikf N (if it = 100 then 8 + q else q)) := by
  intro i hi
  by_cases e : i = N
  · subst e
    refine ⟨?_, ?_, ?_, ?_, pk_us, ?_, pk_us⟩
    · rw [pk_us]; unfold va_up; rw [if_pos rfl]; congr 1; split <;> omega
    · unfold va_up; rw [if_pos rfl]
      by_cases f : it = 100
      · rw [if_pos (decide_eq_true f), if_pos f, Nat.testBit_or, Nat.testBit_two_pow_self, Bool.or_true]; exact (decide_eq_true (by omega)).symm
      · rw [if_neg (by rw [decide_eq_false f]; decide), if_neg f, Nat.testBit_lt_two_pow hD]; exact (decide_eq_false (by omega)).symm
    · unfold va_up; rw [if_pos rfl]; split <;> omega
    · unfold va_up; rw [if_pos rfl]; split <;> omega
    · simp [vp_updL]
  · obtain ⟨a1, a2, a3, a4, a5, a6, a7⟩ := h i (by omega)
    have ev : va_up ikf N (if it = 100 then 8 + q else q) i = ikf i := by unfold va_up; rw [if_neg e]
    rw [ev, pk_un e, pk_un e, pk_un e]
    refine ⟨a1, ?_, a3, a4, a5, ?_, a7⟩
    · split
      · rw [Nat.testBit_or, Nat.testBit_two_pow_of_ne (fun z => e z.symm), Bool.or_false]; exact a2
      · exact a2
    · simp [vp_updL, e, a6]
def CM : CSt → MSt → Prop
  | (it, fg, W, H, N, D, p1, p2, p3, col, od, blk, slp), (it', fg', W', H', N', ikf, pcf) => it = it' ∧ fg = fg' ∧ W = W' ∧ H = H' ∧ N = N' ∧ D < 2 ^ N ∧ inkR N D col od blk slp ikf ∧ plR p1 0 pcf ∧ plR p2 1 pcf ∧ plR p3 2 pcf
theorem CM_tk {ch : Nat} {u : CSt} {v : MSt} (hc : ch < 256) (h : CM u v) (hok : CSok u) (hit : CSit u) : (tkC ch u = none ∧ tkM ch v = none) ∨ ∃ u' v', tkC ch u = some u' ∧ tkM ch v = some v' ∧ CM u' v' := by
  have hnx : ∀ u', tkC ch u = some u' → CSok u' := fun u' e => (CSok_tk hc hok hit e).1
  obtain ⟨it, fg, W, H, N, D, p1, p2, p3, col, od, blk, slp⟩ := u
  obtain ⟨it', fg', W', H', N', ikf, pcf⟩ := v
  obtain ⟨rfl, rfl, rfl, rfl, rfl, hD, hI, h1, h2, h3⟩ := h
  obtain ⟨k1, k2, k3, k4, k5, k6, k7, k8⟩ := hok
  unfold tkC tkM
  by_cases c1 : ch = 59
  · rw [if_pos c1, if_pos c1]; simp only [endC, endM]
    by_cases d1 : it = 32 ∨ fg = 0
    · rw [if_pos d1, if_pos d1]; exact Or.inl ⟨rfl, rfl⟩
    · rw [if_neg d1, if_neg d1]
      by_cases d2 : it = 114
      · rw [if_pos d2, if_pos d2]
        by_cases d3 : 0 < H ∧ fg ≠ W
        · rw [if_pos d3, if_pos d3]; exact Or.inl ⟨rfl, rfl⟩
        · rw [if_neg d3, if_neg d3]; exact Or.inr ⟨_, _, rfl, rfl, rfl, rfl, rfl, rfl, rfl, hD, hI, h1, h2, h3⟩
      · rw [if_neg d2, if_neg d2]; exact Or.inr ⟨_, _, rfl, rfl, rfl, rfl, rfl, rfl, rfl, hD, hI, h1, h2, h3⟩
  · rw [if_neg c1, if_neg c1]
    by_cases c2 : 48 ≤ ch ∧ ch ≤ 55
    · rw [if_pos c2, if_pos c2]
      by_cases c3 : it = 114
      · have hH := k8 c3
        simp only [if_pos c3, cellC, cellM]
        by_cases d1 : fg < (if H = 0 then 6 else W)
        · have hf : fg < 6 := by split at d1 <;> omega
          rw [if_pos d1, if_pos d1]; exact Or.inr ⟨_, _, rfl, rfl, rfl, rfl, rfl, rfl, rfl, hD, hI, plR_up h1 hH hf _, plR_up h2 hH hf _, plR_up h3 hH hf _⟩
        · rw [if_neg d1, if_neg d1]; exact Or.inl ⟨rfl, rfl⟩
      · simp only [if_neg c3, inkC, inkM]
        by_cases d1 : it = 32 ∨ fg ≠ 0 ∨ ch - 48 = 0
        · rw [if_pos d1, if_pos d1]; exact Or.inl ⟨rfl, rfl⟩
        · rw [if_neg d1, if_neg d1]
          refine Or.inr ⟨_, _, rfl, rfl, rfl, rfl, rfl, rfl, rfl, ?_, inkR_up hI hD (by omega) (by omega), h1, h2, h3⟩
          have h2p : D < 2 ^ (N + 1) := by rw [Nat.pow_succ]; omega
          split
          · exact Nat.or_lt_two_pow h2p (Nat.pow_lt_pow_right (by decide) (Nat.lt_succ_self N))
          · exact h2p
    · rw [if_neg c2, if_neg c2]; simp only [begC, begM]
      by_cases d1 : it = 32 ∧ (((ch = 99 ∨ ch = 100) ∧ N < 6) ∨ (ch = 114 ∧ H < 6))
      · rw [if_pos d1, if_pos d1]; exact Or.inr ⟨_, _, rfl, rfl, rfl, rfl, rfl, rfl, rfl, hD, hI, h1, h2, h3⟩
      · rw [if_neg d1, if_neg d1]; exact Or.inl ⟨rfl, rfl⟩
theorem CM_scan {lt : Nat → Nat} {n : Nat} (hl : ∀ i, i < n → lt i < 256) : ∀ (k i : Nat) (u : CSt) (v : MSt), i + k ≤ n → CM u v → CSok u → CSit u → (scan lt k i u).1 = (scanM lt k i v).1 ∧ CM (scan lt k i u).2 (scanM lt k i v).2 ∧ CSok (scan lt k i u).2
  | 0, i, u, v, hk, h, ho, hi => ⟨rfl, h, ho⟩
  | k + 1, i, u, v, hk, h, ho, hi => by
    unfold scan scanM
    by_cases b : lt i = 32
    · rw [if_pos b, if_pos b]; exact CM_scan hl k (i + 1) u v (by omega) h ho hi
    · rw [if_neg b, if_neg b]
      rcases CM_tk (hl i (by omega)) h ho hi with ⟨e1, e2⟩ | ⟨u', v', e1, e2, h'⟩
      · rw [e1, e2]; exact ⟨rfl, h, ho⟩
      · rw [e1, e2]
        have q := CSok_tk (hl i (by omega)) ho hi e1
        exact CM_scan hl k (i + 1) u' v' (by omega) h' q.1 q.2
theorem CM_rd {n : Nat} {x : Option Nat × CSt} {z : Option Nat × MSt} (h1 : x.1 = z.1) (h2 : CM x.2 z.2) : rdC n x = rdM n z := by
  obtain ⟨x1, it, fg, W, H, N, D, p1, p2, p3, col, od, blk, slp⟩ := x
  obtain ⟨z1, it', fg', W', H', N', ikf, pcf⟩ := z
  obtain ⟨rfl, rfl, rfl, rfl, rfl, hD, hI, _, _, _⟩ := h2
  dsimp only at h1; subst h1
  unfold rdC rdM
  rfl
