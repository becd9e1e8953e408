/-- what a work and a row that say the same give of each other -/
def BR (W H N D : Nat) (p1 p2 p3 : Int64) (blk : Nat → Int64) (pcl ik o bk kk : Nat → Nat) : Prop :=
  W ≤ 6 ∧ H ≤ 6 ∧ N ≤ 6 ∧ (∀ q, q < N → o q < N) ∧ (∀ q z, q < N → z < N → o q = o z → q = z) ∧ (∀ i, i < N → D.testBit i = decide (8 ≤ ik i) ∧ ik i < 16) ∧ (∀ i, i < N → kk i < 9) ∧
  (∀ i yy xx, i < N → yy < 8 → xx < 8 → bL (blk i) (8 * yy + xx) = (decide (xx < 6 ∧ yy < 6) && (bk (6 * i + yy)).testBit xx)) ∧ (∀ i yy, i < N → yy < 6 → bk (6 * i + yy) < 64) ∧
  (∀ yy xx, yy < 8 → xx < 8 → bL p1 (8 * yy + xx) = (decide (xx < W ∧ yy < H) && (pcl (6 * yy + xx)).testBit 0) ∧ bL p2 (8 * yy + xx) = (decide (xx < W ∧ yy < H) && (pcl (6 * yy + xx)).testBit 1) ∧ bL p3 (8 * yy + xx) = (decide (xx < W ∧ yy < H) && (pcl (6 * yy + xx)).testBit 2)) ∧
  (∀ yy xx, yy < H → xx < W → pcl (6 * yy + xx) < 8)
theorem BR_of {W H N D : Nat} {p1 p2 p3 : Int64} {col od : Nat → Int32} {blk : Nat → Int64} {slp Sr : Nat → Int32} {pcl ik o bk kk : Nat → Nat} (h : WRel W H N D p1 p2 p3 col od blk slp Sr pcl ik o bk kk) : BR W H N D p1 p2 p3 blk pcl ik o bk kk := by
  obtain ⟨⟨_, _, _, hW, hH, hN, hpc, hik, hor, hbk, hsl⟩, hD, hcol, hod, hinj, hslp, hb, hp⟩ := h
  exact ⟨hW, hH, hN, fun q h => (hor q h).2, hinj, fun i h => ⟨(hcol i h).2.1, (hik i h).2⟩, fun i h => (hsl i h).2.2, hb, fun i yy h1 h2 => (hbk i yy h1 h2).2, hp, fun yy xx h1 h2 => (hpc yy xx h1 h2).2⟩
theorem nI_nm1 {j : Nat} (h : j < 6) : ¬ nI j = -1 ∧ ¬ nI j = -9 := by
  revert j; decide
theorem so_n {N sk : Nat} {kk : Nat → Nat} (hN : N ≤ 6) (hk : ∀ i, i < N → kk i < 9) {j : Nat} (hj : j < N) : slOf (-1) sk kk j = slOf (-9) sk kk j ∧ slOf (-9) sk kk j < 9 := by
  have h := nI_nm1 (j := j) (by omega)
  unfold slOf
  rw [if_neg h.1, if_neg h.2]
  exact ⟨rfl, hk j hj⟩
theorem so_i {N sk : Nat} {kk : Nat → Nat} {ox : Int32} (hsk : sk < 9) (hk : ∀ i, i < N → kk i < 9) {j : Nat} (hj : j < N) : slOf ox sk kk j = slOf ox sk kk j ∧ slOf ox sk kk j < 9 := by
  refine ⟨rfl, ?_⟩
  unfold slOf
  split
  · exact hsk
  · exact hk j hj
theorem so_g {N : Nat} {kk : Nat → Nat} (hN : N ≤ 6) (hk : ∀ i, i < N → kk i < 9) (g : Nat) {j : Nat} (hj : j < N) : slOf (oxG g) (skG g) kk j = slOf (oxM g) (skG g) kk j ∧ slOf (oxM g) (skG g) kk j < 9 := by
  unfold oxG oxM
  by_cases e : g = 0
  · rw [if_pos e, if_pos e]; exact so_n hN hk hj
  · rw [if_neg e, if_neg e]; exact so_i (skG_lt g) hk hj
section BRS
variable {W H N D : Nat} {p1 p2 p3 : Int64} {blk : Nat → Int64} {pcl ik o bk kk : Nat → Nat}
theorem BR.wrong (h : BR W H N D p1 p2 p3 blk pcl ik o bk kk) : wrL W H N D p1 p2 p3 blk o (fun i => ik i % 8) kk (-1) 4 = nI (wcY (pvF W H bk ik o kk (-9) 4 N) pcl W H) := by
  obtain ⟨hW, hH, hN, ho, hinj, hi, hk, hb, hbk, hp, h8⟩ := h
  exact wr_eq hW hH ho hi (fun j hj => so_n hN hk hj) hb hp h8
theorem BR.wrongAt (h : BR W H N D p1 p2 p3 blk pcl ik o bk kk) (ox : Int32) {sk : Nat} (hsk : sk < 9) : wrL W H N D p1 p2 p3 blk o (fun i => ik i % 8) kk ox sk = nI (wcY (pvF W H bk ik o kk ox sk N) pcl W H) := by
  obtain ⟨hW, hH, hN, ho, hinj, hi, hk, hb, hbk, hp, h8⟩ := h
  exact wr_eq hW hH ho hi (fun j hj => so_i hsk hk hj) hb hp h8
theorem BR.pal (h : BR W H N D p1 p2 p3 blk pcl ik o bk kk) : palN p1 p2 p3 (papL W H) 8 = wtY pcl W H := by
  obtain ⟨hW, hH, hN, ho, hinj, hi, hk, hb, hbk, hp, h8⟩ := h
  exact pal_eq hW hH hp h8
theorem BR.pic (h : BR W H N D p1 p2 p3 blk pcl ik o bk kk) {yy xx : Nat} (hy : yy < H) (hx : xx < W) : atL p1 p2 p3 (8 * yy + xx) = pcl (6 * yy + xx) := by
  obtain ⟨hW, hH, hN, ho, hinj, hi, hk, hb, hbk, hp, h8⟩ := h
  obtain ⟨q1, q2, q3⟩ := hp yy xx (by omega) (by omega)
  rw [decide_eq_true (And.intro hx hy), Bool.true_and] at q1 q2 q3
  exact atL_of (by omega) (h8 yy xx hy hx) q1 q2 q3
theorem BR.proof (h : BR W H N D p1 p2 p3 blk pcl ik o bk kk) {ox ox' : Int32} {sk : Nat} (hs : ∀ j, j < N → slOf ox sk kk j = slOf ox' sk kk j ∧ slOf ox' sk kk j < 9) {yy xx : Nat} (hy : yy < H) (hx : xx < W) : atL (pfP W H D blk o (fun i => ik i % 8) kk ox sk 0 N) (pfP W H D blk o (fun i => ik i % 8) kk ox sk 1 N) (pfP W H D blk o (fun i => ik i % 8) kk ox sk 2 N) (8 * yy + xx) = pvF W H bk ik o kk ox' sk N (6 * yy + xx) := by
  obtain ⟨hW, hH, hN, ho, hinj, hi, hk, hb, hbk, hp, h8⟩ := h
  have hd : decide (xx < W ∧ yy < H) = true := decide_eq_true (And.intro hx hy)
  refine atL_of (by omega) (pvF_lt8 ho (fun i h => (hi i h).2) N (Nat.le_refl N) _) ?_ ?_ ?_
  · rw [pf_pv hW hH ho hi hs hb (by decide) N (Nat.le_refl N) yy xx (by omega) (by omega), hd, Bool.true_and]
  · rw [pf_pv hW hH ho hi hs hb (by decide) N (Nat.le_refl N) yy xx (by omega) (by omega), hd, Bool.true_and]
  · rw [pf_pv hW hH ho hi hs hb (by decide) N (Nat.le_refl N) yy xx (by omega) (by omega), hd, Bool.true_and]
theorem BR.proof0 (h : BR W H N D p1 p2 p3 blk pcl ik o bk kk) {yy xx : Nat} (hy : yy < H) (hx : xx < W) : atL (pfP W H D blk o (fun i => ik i % 8) kk (-1) 4 0 N) (pfP W H D blk o (fun i => ik i % 8) kk (-1) 4 1 N) (pfP W H D blk o (fun i => ik i % 8) kk (-1) 4 2 N) (8 * yy + xx) = pvF W H bk ik o kk (-9) 4 N (6 * yy + xx) :=
  h.proof (fun j hj => so_n h.2.2.1 h.2.2.2.2.2.2.1 hj) hy hx
theorem BR.guess (h : BR W H N D p1 p2 p3 blk pcl ik o bk kk) (g : Nat) {yy xx : Nat} (hy : yy < H) (hx : xx < W) : atL (PG W H N D blk o (fun i => ik i % 8) kk 0 g) (PG W H N D blk o (fun i => ik i % 8) kk 1 g) (PG W H N D blk o (fun i => ik i % 8) kk 2 g) (8 * yy + xx) = pvG W H N bk ik o kk g (6 * yy + xx) :=
  h.proof (fun j hj => so_g h.2.2.1 h.2.2.2.2.2.2.1 g hj) hy hx
theorem BR.made (h : BR W H N D p1 p2 p3 blk pcl ik o bk kk) {set : Nat} (hs : set < 2 ^ N) : cbyF D o (fun i => ik i % 8) set N = mkP (fun z => gvF o ik z N) set (set + 1) := by
  obtain ⟨hW, hH, hN, ho, hinj, hi, hk, hb, hbk, hp, h8⟩ := h
  exact cby_mk hN ho hinj hi hs
theorem BR.least (h : BR W H N D p1 p2 p3 blk pcl ik o bk kk) : lsF (palN p1 p2 p3 (papL W H) 8) (fun set => cbyF D o (fun i => ik i % 8) set N) (2 ^ N) = lsM (wtY pcl W H) (fun z => mkP (fun z => gvF o ik z N) z (z + 1)) (2 ^ N) ∧ (lsM (wtY pcl W H) (fun z => mkP (fun z => gvF o ik z N) z (z + 1)) (2 ^ N) = -9 ∨ ∃ j, j < 2 ^ N ∧ lsM (wtY pcl W H) (fun z => mkP (fun z => gvF o ik z N) z (z + 1)) (2 ^ N) = nI j ∧ (nI (wtY pcl W H) &&& (nI (mkP (fun z => gvF o ik z N) j (j + 1)) ^^^ (-1))) = 0) := by
  rw [h.pal]
  exact ls_eq (2 ^ N) (pow6 h.2.2.1) (fun i hi => h.made hi)
theorem BR.inks (h : BR W H N D p1 p2 p3 blk pcl ik o bk kk) {yy xx : Nat} (hy : yy < H) (hx : xx < W) : inkS blk (8 * yy + xx) N = ikS bk xx yy N := by
  obtain ⟨hW, hH, hN, ho, hinj, hi, hk, hb, hbk, hp, h8⟩ := h
  refine ik_eq (by omega) (by omega) N (fun i hi => ?_)
  rw [hb i yy xx hi (by omega) (by omega), decide_eq_true (by omega), Bool.true_and]
theorem BR.cellsAt (h : BR W H N D p1 p2 p3 blk pcl ik o bk kk) {i : Nat} (hi : i < N) : pcL (blk i) = csI bk i 6 :=
  pc_cs (fun yy xx h1 h2 => h.2.2.2.2.2.2.2.1 i yy xx hi h1 h2) (fun yy h1 => h.2.2.2.2.2.2.2.2.1 i yy hi h1)
theorem BR.cells (h : BR W H N D p1 p2 p3 blk pcl ik o bk kk) : cntB blk N = csA bk N := cB_eq N (fun _ hi => h.cellsAt hi)
/-! guesses -/
theorem seen_eq {q1 q2 q3 : Int64} {pv : Nat → Nat} {sx sy sc : Nat → Nat} (ha : ∀ yy xx, yy < H → xx < W → atL q1 q2 q3 (8 * yy + xx) = pv (6 * yy + xx)) : ∀ M, seenB q1 q2 q3 W H sx sy sc M = snB pv W H sx sy sc M
  | 0 => rfl
  | M + 1 => by
    unfold seenB snB
    rw [seen_eq ha M]
    congr 1
    rw [decide_eq_decide]
    constructor
    · rintro ⟨h1, h2, h3⟩; exact ⟨h1, h2, (ha _ _ h2 h1).symm.trans h3⟩
    · rintro ⟨h1, h2, h3⟩; exact ⟨h1, h2, (ha _ _ h2 h1).trans h3⟩
theorem BR.ex (h : BR W H N D p1 p2 p3 blk pcl ik o bk kk) (M : Nat) (sx sy sc : Nat → Nat) : exB W H N D blk o (fun i => ik i % 8) kk M sx sy sc = exM W H N bk ik o kk M sx sy sc := by
  funext g
  unfold exB exM skip
  rw [seen_eq (fun yy xx hy hx => h.guess g hy hx) M]
theorem fr_no {P : Nat → Bool} : ∀ k g, (∀ j, g ≤ j → j < g + k → P j = false) → frG P k g = -2000000
  | 0, g, _ => rfl
  | k + 1, g, h => by
    unfold frG
    rw [h g (Nat.le_refl g) (by omega), if_neg (by decide)]
    exact fr_no k (g + 1) (fun j h1 h2 => h j (by omega) (by omega))
theorem fr_at {P : Nat → Bool} {j : Nat} (hj : P j = true) : ∀ k g, g ≤ j → j < g + k → (∀ z, g ≤ z → z < j → P z = false) → frG P k g = gs j
  | 0, g, h1, h2, _ => absurd h2 (by omega)
  | k + 1, g, h1, h2, h => by
    unfold frG
    by_cases e : g = j
    · subst e; rw [if_pos hj]
    · rw [h g (Nat.le_refl g) (by omega), if_neg (by decide)]
      exact fr_at hj k (g + 1) (by omega) (by omega) (fun z h3 h4 => h z (by omega) h4)
theorem fs_is {P : Nat → Bool} : ∀ n, (cntG P n = 0 ∧ fsM P n = -2000000 ∧ ∀ j, j < n → P j = false) ∨ (0 < cntG P n ∧ ∃ j, j < n ∧ P j = true ∧ (∀ z, z < j → P z = false) ∧ fsM P n = gs j)
  | 0 => Or.inl ⟨rfl, rfl, fun j h => absurd h (Nat.not_lt_zero _)⟩
  | n + 1 => by
    have ih := fs_is (P := P) n
    unfold cntG fsM
    cases e : P n with
    | true =>
      rw [if_pos rfl, if_pos rfl]
      refine Or.inr ⟨by omega, ?_⟩
      rcases ih with ⟨h1, h2, h3⟩ | ⟨h1, j, h2, h3, h4, h5⟩
      · rw [if_pos h1]; exact ⟨n, by omega, e, h3, rfl⟩
      · rw [if_neg (by omega)]; exact ⟨j, by omega, h3, h4, h5⟩
    | false =>
      rw [if_neg (by decide), if_neg (by decide)]
      rcases ih with ⟨h1, h2, h3⟩ | ⟨h1, j, h2, h3, h4, h5⟩
      · refine Or.inl ⟨h1, h2, fun j hj => ?_⟩
        by_cases f : j = n
        · rw [f]; exact e
        · exact h3 j (by omega)
      · exact Or.inr ⟨h1, j, by omega, h3, h4, h5⟩
theorem fr_fs (P : Nat → Bool) (n : Nat) : frG P n 0 = fsM P n := by
  rcases fs_is (P := P) n with ⟨_, h2, h3⟩ | ⟨_, j, h2, h3, h4, h5⟩
  · rw [h2]; exact fr_no n 0 (fun j _ h => h3 j (by omega))
  · rw [h5]; exact fr_at h3 n 0 (Nat.zero_le _) (by omega) (fun z _ h => h4 z h)
/-! the cell to look at next -/
theorem talX_at {q1 q2 q3 : Int64} {yy : Nat} {f : Nat → Int32} {y2 x2 c : Nat} (hx2 : x2 < 6) (hc : c < 8) : ∀ n, n ≤ 6 → talX q1 q2 q3 yy n f ((6 * y2 + x2) * 8 + c) = if (y2 = yy ∧ x2 < n) ∧ atL q1 q2 q3 (8 * y2 + x2) = c then f ((6 * y2 + x2) * 8 + c) + nI 1 else f ((6 * y2 + x2) * 8 + c)
  | 0, _ => by rw [if_neg (by omega)]; rfl
  | n + 1, hn => by
    have ih := talX_at (q1 := q1) (q2 := q2) (q3 := q3) (yy := yy) (f := f) (y2 := y2) hx2 hc n (by omega)
    have ha := atL_lt q1 q2 q3 (8 * yy + n)
    unfold talX
    by_cases e : (6 * y2 + x2) * 8 + c = (6 * yy + n) * 8 + atL q1 q2 q3 (8 * yy + n)
    · have e1 : y2 = yy := by omega
      have e2 : x2 = n := by omega
      subst e1; subst e2
      have e3 : atL q1 q2 q3 (8 * y2 + x2) = c := by omega
      rw [e3, pk_us, ih, if_neg (by omega), if_pos ⟨⟨rfl, by omega⟩, rfl⟩]
    · rw [pk_un e, ih]
      by_cases g : (y2 = yy ∧ x2 < n) ∧ atL q1 q2 q3 (8 * y2 + x2) = c
      · rw [if_pos g, if_pos ⟨⟨g.1.1, by omega⟩, g.2⟩]
      · rw [if_neg g, if_neg (fun q => g ⟨⟨q.1.1, Nat.lt_of_le_of_ne (by omega) (fun h => e (by have q2 := q.2; rw [q.1.1, h] at q2; rw [q.1.1, h, q2]))⟩, q.2⟩)]
theorem talY_at {q1 q2 q3 : Int64} {W : Nat} (hW : W ≤ 6) {f : Nat → Int32} {y2 x2 c : Nat} (hx2 : x2 < W) (hc : c < 8) : ∀ n, talY q1 q2 q3 W n f ((6 * y2 + x2) * 8 + c) = if y2 < n ∧ atL q1 q2 q3 (8 * y2 + x2) = c then f ((6 * y2 + x2) * 8 + c) + nI 1 else f ((6 * y2 + x2) * 8 + c)
  | 0 => by rw [if_neg (by omega)]; rfl
  | n + 1 => by
    have ih := talY_at (q1 := q1) (q2 := q2) (q3 := q3) hW (f := f) (y2 := y2) hx2 hc n
    unfold talY
    rw [talX_at (by omega) hc W hW, ih]
    by_cases a : atL q1 q2 q3 (8 * y2 + x2) = c
    · by_cases e : y2 = n
      · rw [if_pos ⟨⟨e, hx2⟩, a⟩, if_neg (by omega), if_pos ⟨by omega, a⟩]
      · rw [if_neg (fun q => e q.1.1)]
        by_cases g : y2 < n
        · rw [if_pos ⟨g, a⟩, if_pos ⟨by omega, a⟩]
        · rw [if_neg (fun q => g q.1), if_neg (by omega)]
    · rw [if_neg (fun q => a q.2), if_neg (fun q => a q.2), if_neg (fun q => a q.2)]
theorem byK_at {pv : Nat → Nat} (hpv : ∀ j, pv j < 8) {f : Nat → Int32} {k c : Nat} (hc : c < 8) : ∀ n, byK pv n f (8 * k + c) = if k < n ∧ pv k = c then f (8 * k + c) + nI 1 else f (8 * k + c)
  | 0 => by rw [if_neg (by omega)]; rfl
  | n + 1 => by
    have ih := byK_at hpv (f := f) (k := k) hc n
    have h8 := hpv n
    unfold byK
    by_cases e : 8 * k + c = 8 * n + pv n
    · have e1 : k = n := by omega
      subst e1
      have e2 : pv k = c := by omega
      rw [e2, pk_us, ih, if_neg (by omega), if_pos ⟨by omega, rfl⟩]
    · rw [pk_un e, ih]
      by_cases g : k < n ∧ pv k = c
      · rw [if_pos g, if_pos ⟨by omega, g.2⟩]
      · rw [if_neg g, if_neg (fun q => g ⟨Nat.lt_of_le_of_ne (by omega) (fun h => e (by rw [← h, q.2])), q.2⟩)]
theorem tal_by {P : Nat → Bool} {pl : Nat → Nat → Int64} {pvg : Nat → Nat → Nat} {W H : Nat} (hW : W ≤ 6) (hH : H ≤ 6) (hpv : ∀ g j, pvg g j < 8) (ha : ∀ g yy xx, yy < H → xx < W → atL (pl 0 g) (pl 1 g) (pl 2 g) (8 * yy + xx) = pvg g (6 * yy + xx)) {yy xx c : Nat} (hy : yy < H) (hx : xx < W) (hc : c < 8) : ∀ g, talG P pl W H g ((6 * yy + xx) * 8 + c) = byG P pvg g (8 * (6 * yy + xx) + c) ∧ ∃ m, m ≤ g ∧ byG P pvg g (8 * (6 * yy + xx) + c) = nI m
  | 0 => ⟨rfl, 0, Nat.le_refl _, rfl⟩
  | g + 1 => by
    obtain ⟨ih, m, h1, h2⟩ := tal_by (P := P) hW hH hpv ha hy hx hc g
    unfold talG byG
    cases P g with
    | false => rw [if_neg (by decide), if_neg (by decide)]; exact ⟨ih, m, by omega, h2⟩
    | true =>
      rw [if_pos rfl, if_pos rfl, talY_at hW hx hc, byK_at (hpv g) hc, ih, ha g yy xx hy hx, h2]
      by_cases e : pvg g (6 * yy + xx) = c
      · rw [if_pos ⟨hy, e⟩, if_pos ⟨by omega, e⟩, nI_add]
        exact ⟨rfl, m + 1, by omega, rfl⟩
      · rw [if_neg (fun q => e q.2), if_neg (fun q => e q.2)]
        exact ⟨rfl, m, by omega, rfl⟩
theorem gt_mx {f f' : Nat → Int32} {k b : Nat} (h : ∀ c, c < 8 → f (k * 8 + c) = f' (8 * k + c) ∧ ∃ m, m ≤ b ∧ f' (8 * k + c) = nI m) : ∀ n, n ≤ 8 → gtF f k n = mxM f' k n ∧ ∃ m, m ≤ b ∧ mxM f' k n = nI m
  | 0, _ => ⟨rfl, 0, Nat.zero_le _, rfl⟩
  | n + 1, hn => by
    obtain ⟨e, m, h1, h2⟩ := gt_mx h n (by omega)
    obtain ⟨e', m', h3, h4⟩ := h n (by omega)
    unfold gtF mxM
    rw [e, e']
    refine ⟨rfl, ?_⟩
    split
    · exact ⟨m', h3, h4⟩
    · exact ⟨m, h1, h2⟩
/-- none yet, or both the same -/
def AkR (a b : Int32 × Int32) : Prop := (a.1 = -9 ∧ b.1 = -9 ∧ b.2 = nI 100) ∨ (a = b ∧ a.1 ≠ -9)
theorem akM_off {f : Nat → Int32} {W H : Nat} : ∀ d k, (∀ j, k ≤ j → j < k + d → ¬ (j % 6 < W ∧ j / 6 < H)) → akM f W H (k + d) = akM f W H k
  | 0, k, _ => rfl
  | d + 1, k, h => by
    show akM f W H (k + d + 1) = _
    conv => lhs; unfold akM
    rw [if_neg (fun q => h (k + d) (by omega) (by omega) q.1)]
    exact akM_off d k (fun j h1 h2 => h j h1 (by omega))
theorem mt_row {f f' : Nat → Int32} {W H yy : Nat} (hW : W ≤ 6) (hH : H ≤ 6) (hy : yy < H) (hm : ∀ xx, xx < W → gtF f (6 * yy + xx) 8 = mxM f' (6 * yy + xx) 8 ∧ ∃ m, m < 100 ∧ mxM f' (6 * yy + xx) 8 = nI m) {b : Int32 × Int32} (hb : AkR b (akM f' W H (6 * yy))) : ∀ n, n ≤ W → AkR (mtX f yy n b) (akM f' W H (6 * yy + n))
  | 0, _ => hb
  | n + 1, hn => by
    have ih := mt_row hW hH hy hm hb n (by omega)
    obtain ⟨e, m, h1, h2⟩ := hm n (by omega)
    have on : (6 * yy + n) % 6 < W ∧ (6 * yy + n) / 6 < H := by omega
    show AkR (mtX f yy (n + 1) b) (akM f' W H (6 * yy + n + 1))
    unfold mtX akM
    rw [e]
    rcases ih with ⟨a1, a2, a3⟩ | ⟨a1, a2⟩
    · rw [if_pos (Or.inl a1), if_pos ⟨on, by rw [a3, h2]; exact nI_lt h1 (by decide)⟩]
      exact Or.inr ⟨rfl, nI_ne9 (by omega)⟩
    · rw [← a1]
      by_cases c : mxM f' (6 * yy + n) 8 < (mtX f yy n b).2
      · rw [if_pos (Or.inr c), if_pos ⟨on, c⟩]
        exact Or.inr ⟨rfl, nI_ne9 (by omega)⟩
      · rw [if_neg (fun q => q.elim a2 c), if_neg (fun q => c q.2)]
        exact Or.inr ⟨rfl, a2⟩
theorem mt_ak {f f' : Nat → Int32} {W H : Nat} (hW : W ≤ 6) (hH : H ≤ 6) (hm : ∀ yy xx, yy < H → xx < W → gtF f (6 * yy + xx) 8 = mxM f' (6 * yy + xx) 8 ∧ ∃ m, m < 100 ∧ mxM f' (6 * yy + xx) 8 = nI m) : ∀ n, n ≤ 6 → AkR (mtY f W (min n H)) (akM f' W H (6 * n))
  | 0, _ => by rw [Nat.zero_min]; exact Or.inl ⟨rfl, rfl, rfl⟩
  | n + 1, hn => by
    have ih := mt_ak hW hH hm n (by omega)
    by_cases g : n < H
    · rw [Nat.min_eq_left (show n ≤ H by omega)] at ih
      rw [Nat.min_eq_left (show n + 1 ≤ H by omega)]
      have r := mt_row hW hH g (fun xx hx => hm n xx g hx) ih W (Nat.le_refl W)
      have e := akM_off (f := f') (W := W) (H := H) (6 - W) (6 * n + W) (fun j h1 h2 => by omega)
      rw [show 6 * n + W + (6 - W) = 6 * (n + 1) from by omega] at e
      rw [e]; exact r
    · rw [Nat.min_eq_right (show H ≤ n by omega)] at ih
      rw [Nat.min_eq_right (show H ≤ n + 1 by omega)]
      have e := akM_off (f := f') (W := W) (H := H) 6 (6 * n) (fun j h1 h2 => by omega)
      rw [show 6 * n + 6 = 6 * (n + 1) from by omega] at e
      rw [e]; exact ih
theorem AkR.fst {a b : Int32 × Int32} (h : AkR a b) : a.1 = b.1 := by
  rcases h with ⟨a1, a2, _⟩ | ⟨a1, _⟩
  · rw [a1, a2]
  · rw [a1]
theorem BR.ask (h : BR W H N D p1 p2 p3 blk pcl ik o bk kk) (P : Nat → Bool) : (mtY (talG P (PG W H N D blk o (fun i => ik i % 8) kk) W H (9 * N + 1)) W H).1 = (akM (byG P (pvG W H N bk ik o kk) (9 * N + 1)) W H 36).1 := by
  have hg := fun g yy xx hy hx => h.guess g (yy := yy) (xx := xx) hy hx
  obtain ⟨hW, hH, hN, ho, hinj, hi, hk, hb, hbk, hp, h8⟩ := h
  have r := mt_ak (f := talG P (PG W H N D blk o (fun i => ik i % 8) kk) W H (9 * N + 1)) (f' := byG P (pvG W H N bk ik o kk) (9 * N + 1)) hW hH (fun yy xx hy hx => by
    have q := gt_mx (f := talG P (PG W H N D blk o (fun i => ik i % 8) kk) W H (9 * N + 1)) (f' := byG P (pvG W H N bk ik o kk) (9 * N + 1)) (k := 6 * yy + xx) (b := 9 * N + 1) (fun c hc => tal_by hW hH (fun g j => pvF_lt8 ho (fun i h => (hi i h).2) N (Nat.le_refl N) j) hg hy hx hc (9 * N + 1)) 8 (Nat.le_refl 8)
    obtain ⟨e, m, h1, h2⟩ := q
    exact ⟨e, m, by omega, h2⟩) 6 (Nat.le_refl 6)
  rw [Nat.min_eq_right hH] at r
  exact r.fst
end BRS
