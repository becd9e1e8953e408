/-! the proof: planes and cells are one -/
theorem pvP_at {W H : Nat} {bk : Nat → Nat} {cd i a b : Nat} {f : Nat → Nat} {yy xx : Nat} (hW : W ≤ 6) (ha : a < 3) (hb : b < 3) (hy : yy < H) (hx : xx < W) : ∀ k, pvP W H bk cd i a b k f (6 * yy + xx) = if ((a ≤ xx + 1 ∧ b ≤ yy + 1) ∧ xx + 1 - a < 6) ∧ 6 * (yy + 1 - b) + (xx + 1 - a) < k ∧ (bk (6 * i + (yy + 1 - b))).testBit (xx + 1 - a) = true then prN cd (f (6 * yy + xx)) else f (6 * yy + xx)
  | 0 => by rw [if_neg (by omega)]; rfl
  | k + 1 => by
    have ih := pvP_at (bk := bk) (cd := cd) (i := i) (f := f) hW ha hb hy hx k
    have key : ∀ (h : ¬ (((bk (6 * i + k / 6)).testBit (k % 6) = true ∧ okd (k % 6) a W ∧ okd (k / 6) b H) ∧ 6 * (k / 6 + b - 1) + (k % 6 + a - 1) = 6 * yy + xx)), pvP W H bk cd i a b k f (6 * yy + xx) = if ((a ≤ xx + 1 ∧ b ≤ yy + 1) ∧ xx + 1 - a < 6) ∧ 6 * (yy + 1 - b) + (xx + 1 - a) < k + 1 ∧ (bk (6 * i + (yy + 1 - b))).testBit (xx + 1 - a) = true then prN cd (f (6 * yy + xx)) else f (6 * yy + xx) := by
      intro h
      rw [ih]
      by_cases c : ((a ≤ xx + 1 ∧ b ≤ yy + 1) ∧ xx + 1 - a < 6) ∧ 6 * (yy + 1 - b) + (xx + 1 - a) < k + 1 ∧ (bk (6 * i + (yy + 1 - b))).testBit (xx + 1 - a) = true
      · obtain ⟨c1, c2, c3⟩ := c
        by_cases s : 6 * (yy + 1 - b) + (xx + 1 - a) = k
        · exfalso
          have e1 : k / 6 = yy + 1 - b := by omega
          have e2 : k % 6 = xx + 1 - a := by omega
          apply h
          rw [e1, e2]
          exact ⟨⟨c3, by unfold okd; omega, by unfold okd; omega⟩, by omega⟩
        · rw [if_pos ⟨c1, by omega, c3⟩, if_pos ⟨c1, c2, c3⟩]
      · rw [if_neg c, if_neg (fun q => c ⟨q.1, by omega, q.2.2⟩)]
    unfold pvP
    by_cases g : (bk (6 * i + k / 6)).testBit (k % 6) = true ∧ okd (k % 6) a W ∧ okd (k / 6) b H
    · rw [if_pos g]
      by_cases e : 6 * (k / 6 + b - 1) + (k % 6 + a - 1) = 6 * yy + xx
      · obtain ⟨g1, g2, g3⟩ := g
        unfold okd at g2 g3
        have e1 : k / 6 = yy + 1 - b := by omega
        have e2 : k % 6 = xx + 1 - a := by omega
        rw [e1, e2] at g1
        have e3 : 6 * (yy + 1 - b) + (xx + 1 - a) = k := by omega
        unfold va_up
        rw [if_pos e.symm, e, ih, if_neg (by omega), if_pos ⟨by omega, by omega, g1⟩]
      · unfold va_up
        rw [if_neg (fun q => e q.symm)]
        exact key (fun q => e q.2)
    · rw [if_neg g]
      exact key (fun q => g q.1)
theorem prN_bit : ∀ a, a < 16 → ∀ v, v < 8 → ∀ b, b < 3 → (prN a v).testBit b = ((a % 8).testBit b || (v.testBit b && !decide (8 ≤ a))) := by decide +kernel
theorem pvF_lt8 {W H N : Nat} {bk ik o kk : Nat → Nat} {ox : Int32} {sk : Nat} (ho : ∀ q, q < N → o q < N) (hi : ∀ i, i < N → ik i < 16) : ∀ q, q ≤ N → ∀ j, pvF W H bk ik o kk ox sk q j < 8
  | 0, _ => fun _ => by show 0 < 8; decide
  | q + 1, hq => fun j => pvP_lt (hi _ (ho q (by omega))) (pvF_lt8 ho hi q (by omega)) 36 j
/-- planes of the proof and its cells -/
theorem pf_pv {W H N D : Nat} {blk : Nat → Int64} {bk ik o kk : Nat → Nat} {ox ox' : Int32} {sk : Nat} (hW : W ≤ 6) (hH : H ≤ 6) (ho : ∀ q, q < N → o q < N) (hi : ∀ i, i < N → D.testBit i = decide (8 ≤ ik i) ∧ ik i < 16) (hs : ∀ j, j < N → slOf ox sk kk j = slOf ox' sk kk j ∧ slOf ox' sk kk j < 9)
    (hb : ∀ i yy xx, i < N → yy < 8 → xx < 8 → bL (blk i) (8 * yy + xx) = (decide (xx < 6 ∧ yy < 6) && (bk (6 * i + yy)).testBit xx)) {b : Nat} (hbit : b < 3) : ∀ q, q ≤ N → ∀ yy xx, yy < 8 → xx < 8 → bL (pfP W H D blk o (fun i => ik i % 8) kk ox sk b q) (8 * yy + xx) = (decide (xx < W ∧ yy < H) && (pvF W H bk ik o kk ox' sk q (6 * yy + xx)).testBit b)
  | 0, _, yy, xx, hy, hx => by
    show bL 0 _ = (_ && (0 : Nat).testBit b)
    rw [bL_0, Nat.zero_testBit, Bool.and_false]
  | q + 1, hq, yy, xx, hy, hx => by
    have ih := pf_pv hW hH ho hi hs hb hbit q (by omega) yy xx hy hx
    have hoq := ho q (by omega)
    have hsq := hs (o q) hoq
    have hiq := hi (o q) hoq
    unfold pfP
    rw [bL_prL (by omega), bL_and, bL_pap W (by omega) H (by omega) yy hy xx hx, ih]
    by_cases g : xx < W ∧ yy < H
    · rw [decide_eq_true g, Bool.and_true, Bool.true_and, Bool.true_and, hsq.1, bL_slip hsq.2 (fun z hz => by rw [hb _ z 7 hoq hz (by decide), decide_eq_false (by omega), Bool.false_and]) (by omega) (by omega)]
      have h8 := pvF_lt8 (W := W) (H := H) (bk := bk) (kk := kk) (ox := ox') (sk := sk) ho (fun i h => (hi i h).2) q (by omega) (6 * yy + xx)
      show _ = (pvP W H bk (ik (o q)) (o q) (slOf ox' sk kk (o q) % 3) (slOf ox' sk kk (o q) / 3) 36 (pvF W H bk ik o kk ox' sk q) (6 * yy + xx)).testBit b
      rw [pvP_at hW (by omega) (by omega) g.2 g.1 36]
      generalize hv : pvF W H bk ik o kk ox' sk q (6 * yy + xx) = v at h8 ⊢
      generalize hsl : slOf ox' sk kk (o q) = s at hsq ⊢
      by_cases c : s % 3 ≤ xx + 1 ∧ s / 3 ≤ yy + 1
      · rw [decide_eq_true c, Bool.true_and, hb _ _ _ hoq (by omega) (by omega)]
        by_cases d : xx + 1 - s % 3 < 6 ∧ yy + 1 - s / 3 < 6
        · rw [decide_eq_true d, Bool.true_and]
          by_cases e : (bk (6 * o q + (yy + 1 - s / 3))).testBit (xx + 1 - s % 3) = true
          · rw [if_pos e, if_pos ⟨⟨c, d.1⟩, by omega, e⟩, prN_bit _ hiq.2 _ h8 b hbit, hiq.1]
          · rw [if_neg e, if_neg (fun q => e q.2.2)]
        · rw [decide_eq_false d, Bool.false_and, if_neg (by decide), if_neg (by omega)]
      · rw [decide_eq_false c, Bool.false_and, if_neg (by decide), if_neg (fun q => c q.1.1)]
    · rw [decide_eq_false g, Bool.and_false, if_neg (by decide), Bool.false_and, Bool.false_and]
theorem at_t : ∀ v, v < 8 → (((if v.testBit 0 then 1 else 0) ||| (if v.testBit 1 then 2 else 0)) ||| (if v.testBit 2 then 4 else 0)) = v := by decide
theorem atL_of {p1 p2 p3 : Int64} {k v : Nat} (hk : k < 64) (hv : v < 8) (h0 : bL p1 k = v.testBit 0) (h1 : bL p2 k = v.testBit 1) (h2 : bL p3 k = v.testBit 2) : atL p1 p2 p3 k = v := by
  unfold atL
  rw [tl_b hk, tl_b hk, tl_b hk, h0, h1, h2]
  exact at_t v hv
theorem x_t : ∀ v, v < 8 → ∀ u, u < 8 → ((v.testBit 0 ^^ u.testBit 0) || (v.testBit 1 ^^ u.testBit 1) || (v.testBit 2 ^^ u.testBit 2)) = !decide (u = v) := by decide
theorem cX_wc {pv pcl : Nat → Nat} {yy W H : Nat} (hy : yy < H) : ∀ n, n ≤ W → cX (fun xx => decide (xx < W ∧ yy < H) && !decide (pv (6 * yy + xx) = pcl (6 * yy + xx))) n = wcX pv pcl yy n
  | 0, _ => rfl
  | n + 1, h => by
    unfold cX wcX
    rw [cX_wc hy n (by omega), decide_eq_true (show n < W ∧ yy < H from ⟨by omega, hy⟩), Bool.true_and]
    by_cases e : pv (6 * yy + n) = pcl (6 * yy + n)
    · rw [decide_eq_true e, if_pos e]; rfl
    · rw [decide_eq_false e, if_neg e]; rfl
theorem cY_wc {pv pcl : Nat → Nat} {W H : Nat} (hW : W ≤ 6) : ∀ n, cY (fun yy xx => decide (xx < W ∧ yy < H) && !decide (pv (6 * yy + xx) = pcl (6 * yy + xx))) n = wcY pv pcl W (min n H)
  | 0 => by rw [Nat.zero_min]; rfl
  | n + 1 => by
    unfold cY
    rw [cY_wc hW n]
    by_cases g : n < H
    · rw [Nat.min_eq_left (show n ≤ H by omega), Nat.min_eq_left (show n + 1 ≤ H by omega)]
      show _ + _ = wcY pv pcl W n + wcX pv pcl n W
      congr 1
      have e := cX_ext (p := fun xx => decide (xx < W ∧ n < H) && !decide (pv (6 * n + xx) = pcl (6 * n + xx))) (n := W) (8 - W) (fun k h1 h2 => by
        show (decide (k < W ∧ n < H) && _) = false
        rw [decide_eq_false (by omega), Bool.false_and])
      rw [show W + (8 - W) = 8 from by omega] at e
      rw [e]; exact cX_wc g W (Nat.le_refl W)
    · rw [Nat.min_eq_right (show H ≤ n by omega), Nat.min_eq_right (show H ≤ n + 1 by omega)]
      have e := cX_ext (p := fun xx => decide (xx < W ∧ n < H) && !decide (pv (6 * n + xx) = pcl (6 * n + xx))) (n := 0) 8 (fun k h1 h2 => by
        show (decide (k < W ∧ n < H) && _) = false
        rw [decide_eq_false (by omega), Bool.false_and])
      rw [show (0 : Nat) + 8 = 8 from rfl] at e
      rw [e]; rfl
theorem wr_eq {W H N D : Nat} {p1 p2 p3 : Int64} {blk : Nat → Int64} {bk ik o kk pcl : Nat → Nat} {ox ox' : Int32} {sk : Nat} (hW : W ≤ 6) (hH : H ≤ 6) (ho : ∀ q, q < N → o q < N) (hi : ∀ i, i < N → D.testBit i = decide (8 ≤ ik i) ∧ ik i < 16) (hs : ∀ j, j < N → slOf ox sk kk j = slOf ox' sk kk j ∧ slOf ox' sk kk j < 9)
    (hb : ∀ i yy xx, i < N → yy < 8 → xx < 8 → bL (blk i) (8 * yy + xx) = (decide (xx < 6 ∧ yy < 6) && (bk (6 * i + yy)).testBit xx))
    (hp : ∀ yy xx, yy < 8 → xx < 8 → bL p1 (8 * yy + xx) = (decide (xx < W ∧ yy < H) && (pcl (6 * yy + xx)).testBit 0) ∧ bL p2 (8 * yy + xx) = (decide (xx < W ∧ yy < H) && (pcl (6 * yy + xx)).testBit 1) ∧ bL p3 (8 * yy + xx) = (decide (xx < W ∧ yy < H) && (pcl (6 * yy + xx)).testBit 2))
    (h8 : ∀ yy xx, yy < H → xx < W → pcl (6 * yy + xx) < 8) : wrL W H N D p1 p2 p3 blk o (fun i => ik i % 8) kk ox sk = nI (wcY (pvF W H bk ik o kk ox' sk N) pcl W H) := by
  unfold wrL
  rw [pcL_eq]
  congr 1
  have e := cY_wc (pv := pvF W H bk ik o kk ox' sk N) (pcl := pcl) (H := H) hW 8
  rw [Nat.min_eq_right (by omega)] at e
  rw [← e]
  refine cY_cong 8 (fun yy hy xx hx => ?_)
  obtain ⟨q1, q2, q3⟩ := hp yy xx hy hx
  rw [bL_or, bL_or, bL_xor, bL_xor, bL_xor, q1, q2, q3, pf_pv hW hH ho hi hs hb (by decide) N (Nat.le_refl N) yy xx hy hx, pf_pv hW hH ho hi hs hb (by decide) N (Nat.le_refl N) yy xx hy hx, pf_pv hW hH ho hi hs hb (by decide) N (Nat.le_refl N) yy xx hy hx]
  by_cases g : xx < W ∧ yy < H
  · rw [decide_eq_true g]
    simp only [Bool.true_and]
    exact x_t _ (h8 yy xx g.2 g.1) _ (pvF_lt8 ho (fun i h => (hi i h).2) N (Nat.le_refl N) _)
  · rw [decide_eq_false g]; simp
/-! the picture's colours -/
theorem wtX_bit {pcl : Nat → Nat} {yy c : Nat} : ∀ n v, (wtX pcl yy n v).testBit c = true ↔ (v.testBit c = true ∨ ∃ xx, xx < n ∧ pcl (6 * yy + xx) = c)
  | 0, v => by
    unfold wtX
    exact ⟨Or.inl, fun h => h.elim id (fun ⟨_, h, _⟩ => absurd h (Nat.not_lt_zero _))⟩
  | n + 1, v => by
    unfold wtX
    rw [Nat.testBit_or, Nat.testBit_two_pow, Bool.or_eq_true, wtX_bit n v, decide_eq_true_eq]
    constructor
    · rintro ((h | ⟨xx, h1, h2⟩) | h)
      · exact Or.inl h
      · exact Or.inr ⟨xx, by omega, h2⟩
      · exact Or.inr ⟨n, by omega, h⟩
    · rintro (h | ⟨xx, h1, h2⟩)
      · exact Or.inl (Or.inl h)
      · by_cases e : xx = n
        · subst e; exact Or.inr h2
        · exact Or.inl (Or.inr ⟨xx, by omega, h2⟩)
theorem wtY_bit {pcl : Nat → Nat} {W c : Nat} : ∀ n, (wtY pcl W n).testBit c = true ↔ ∃ yy xx, yy < n ∧ xx < W ∧ pcl (6 * yy + xx) = c
  | 0 => by
    unfold wtY
    rw [Nat.zero_testBit]
    exact ⟨fun h => Bool.noConfusion h, fun ⟨_, _, h, _⟩ => absurd h (Nat.not_lt_zero _)⟩
  | n + 1 => by
    unfold wtY
    rw [wtX_bit, wtY_bit n]
    constructor
    · rintro (⟨yy, xx, h1, h2, h3⟩ | ⟨xx, h1, h2⟩)
      · exact ⟨yy, xx, by omega, h2, h3⟩
      · exact ⟨n, xx, by omega, h1, h2⟩
    · rintro ⟨yy, xx, h1, h2, h3⟩
      by_cases e : yy = n
      · subst e; exact Or.inr ⟨xx, h2, h3⟩
      · exact Or.inl ⟨yy, xx, by omega, h2, h3⟩
theorem of_t : ∀ v, v < 8 → ∀ q, q < 8 → (((if q.testBit 0 then v.testBit 0 else !v.testBit 0) && (if q.testBit 1 then v.testBit 1 else !v.testBit 1)) && (if q.testBit 2 then v.testBit 2 else !v.testBit 2)) = decide (v = q) := by decide
theorem bL_ofL {p1 p2 p3 : Int64} {k v q : Nat} (hk : k < 64) (hv : v < 8) (hq : q < 8) (h0 : bL p1 k = v.testBit 0) (h1 : bL p2 k = v.testBit 1) (h2 : bL p3 k = v.testBit 2) : bL (ofL p1 p2 p3 q) k = decide (v = q) := by
  have ite : ∀ (b : Bool) (x z : Int64), bL (if b then x else z) k = if b then bL x k else bL z k := fun b x z => by cases b <;> rfl
  unfold ofL
  rw [bL_and, bL_and, ite, ite, ite, bL_n hk, bL_n hk, bL_n hk, h0, h1, h2]
  exact of_t v hv q hq
/-- the cells of a colour on the paper -/
theorem bL_cel {W H : Nat} {p1 p2 p3 : Int64} {pcl : Nat → Nat} (hW : W ≤ 6) (hH : H ≤ 6) (hp : ∀ yy xx, yy < 8 → xx < 8 → bL p1 (8 * yy + xx) = (decide (xx < W ∧ yy < H) && (pcl (6 * yy + xx)).testBit 0) ∧ bL p2 (8 * yy + xx) = (decide (xx < W ∧ yy < H) && (pcl (6 * yy + xx)).testBit 1) ∧ bL p3 (8 * yy + xx) = (decide (xx < W ∧ yy < H) && (pcl (6 * yy + xx)).testBit 2))
    (h8 : ∀ yy xx, yy < H → xx < W → pcl (6 * yy + xx) < 8) {q : Nat} (hq : q < 8) {yy xx : Nat} (hy : yy < 8) (hx : xx < 8) : bL (ofL p1 p2 p3 q &&& papL W H) (8 * yy + xx) = (decide (xx < W ∧ yy < H) && decide (pcl (6 * yy + xx) = q)) := by
  rw [bL_and, bL_pap W (by omega) H (by omega) yy hy xx hx]
  by_cases g : xx < W ∧ yy < H
  · obtain ⟨q1, q2, q3⟩ := hp yy xx hy hx
    rw [decide_eq_true g, Bool.true_and] at q1 q2 q3
    rw [decide_eq_true g, Bool.and_true, Bool.true_and]
    exact bL_ofL (by omega) (h8 yy xx g.2 g.1) hq q1 q2 q3
  · rw [decide_eq_false g, Bool.and_false, Bool.false_and]
theorem cel_0 {W H : Nat} {p1 p2 p3 : Int64} {pcl : Nat → Nat} (hW : W ≤ 6) (hH : H ≤ 6) (hp : ∀ yy xx, yy < 8 → xx < 8 → bL p1 (8 * yy + xx) = (decide (xx < W ∧ yy < H) && (pcl (6 * yy + xx)).testBit 0) ∧ bL p2 (8 * yy + xx) = (decide (xx < W ∧ yy < H) && (pcl (6 * yy + xx)).testBit 1) ∧ bL p3 (8 * yy + xx) = (decide (xx < W ∧ yy < H) && (pcl (6 * yy + xx)).testBit 2))
    (h8 : ∀ yy xx, yy < H → xx < W → pcl (6 * yy + xx) < 8) {q : Nat} (hq : q < 8) : ¬ (ofL p1 p2 p3 q &&& papL W H) = 0 ↔ ∃ yy xx, yy < H ∧ xx < W ∧ pcl (6 * yy + xx) = q := by
  constructor
  · intro h
    refine Classical.byContradiction (fun n => h (bL_ext (fun k hk => ?_)))
    rw [bL_0, show k = 8 * (k / 8) + k % 8 from by omega, bL_cel hW hH hp h8 hq (by omega) (by omega)]
    by_cases g : k % 8 < W ∧ k / 8 < H
    · rw [decide_eq_true g, Bool.true_and]
      exact decide_eq_false (fun e => n ⟨k / 8, k % 8, g.2, g.1, e⟩)
    · rw [decide_eq_false g, Bool.false_and]
  · rintro ⟨yy, xx, h1, h2, h3⟩ e
    have := congrArg (bL · (8 * yy + xx)) e
    replace this : bL (ofL p1 p2 p3 q &&& papL W H) (8 * yy + xx) = bL 0 (8 * yy + xx) := this
    rw [bL_0, bL_cel hW hH hp h8 hq (by omega) (by omega), decide_eq_true (And.intro h2 h1), decide_eq_true h3] at this
    exact Bool.noConfusion this
theorem palN_bit (p1 p2 p3 pa : Int64) (c : Nat) : ∀ n, (palN p1 p2 p3 pa n).testBit c = true ↔ (c < n ∧ ¬ (ofL p1 p2 p3 c &&& pa) = 0)
  | 0 => by
    unfold palN; rw [Nat.zero_testBit]
    exact ⟨fun h => Bool.noConfusion h, fun h => absurd h.1 (Nat.not_lt_zero _)⟩
  | n + 1 => by
    have ih := palN_bit p1 p2 p3 pa c n
    unfold palN
    by_cases e : (ofL p1 p2 p3 n &&& pa) = 0
    · rw [if_pos e, ih]
      constructor
      · exact fun h => ⟨by omega, h.2⟩
      · intro h
        by_cases f : c = n
        · subst f; exact absurd e h.2
        · exact ⟨by omega, h.2⟩
    · rw [if_neg e, Nat.testBit_or, Bool.or_eq_true, ih, Nat.testBit_two_pow, decide_eq_true_eq]
      constructor
      · rintro (h | h)
        · exact ⟨by omega, h.2⟩
        · subst h; exact ⟨by omega, e⟩
      · intro h
        by_cases f : n = c
        · exact Or.inr f
        · exact Or.inl ⟨by omega, h.2⟩
theorem pal_eq {W H : Nat} {p1 p2 p3 : Int64} {pcl : Nat → Nat} (hW : W ≤ 6) (hH : H ≤ 6) (hp : ∀ yy xx, yy < 8 → xx < 8 → bL p1 (8 * yy + xx) = (decide (xx < W ∧ yy < H) && (pcl (6 * yy + xx)).testBit 0) ∧ bL p2 (8 * yy + xx) = (decide (xx < W ∧ yy < H) && (pcl (6 * yy + xx)).testBit 1) ∧ bL p3 (8 * yy + xx) = (decide (xx < W ∧ yy < H) && (pcl (6 * yy + xx)).testBit 2))
    (h8 : ∀ yy xx, yy < H → xx < W → pcl (6 * yy + xx) < 8) : palN p1 p2 p3 (papL W H) 8 = wtY pcl W H := by
  apply Nat.eq_of_testBit_eq
  intro c
  rw [Bool.eq_iff_iff, palN_bit, wtY_bit]
  constructor
  · rintro ⟨h1, h2⟩; exact (cel_0 hW hH hp h8 h1).mp h2
  · rintro ⟨yy, xx, h1, h2, h3⟩
    have : c < 8 := by rw [← h3]; exact h8 yy xx h1 h2
    exact ⟨this, (cel_0 hW hH hp h8 this).mpr ⟨yy, xx, h1, h2, h3⟩⟩
