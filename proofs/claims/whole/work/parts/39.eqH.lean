/-! bits of an int; sets of inks -/
def iL (x : Int32) (k : Nat) : Bool := x.toBitVec.getLsbD k
theorem iL_ext {x z : Int32} (h : ∀ k, k < 32 → iL x k = iL z k) : x = z := by
  apply Int32.toBitVec_inj.mp
  apply BitVec.eq_of_getLsbD_eq
  intro i hi; exact h i hi
theorem iL_and (x z : Int32) (k : Nat) : iL (x &&& z) k = (iL x k && iL z k) := by
  unfold iL; rw [Int32.toBitVec_and, BitVec.getLsbD_and]
theorem iL_xor (x z : Int32) (k : Nat) : iL (x ^^^ z) k = (iL x k ^^ iL z k) := by
  unfold iL; rw [Int32.toBitVec_xor, BitVec.getLsbD_xor]
theorem iL_0 (k : Nat) : iL 0 k = false := by
  unfold iL; exact BitVec.getLsbD_zero
theorem iL_m1 : ∀ k, k < 32 → iL (-1) k = true := by decide +kernel
theorem iL_nI {k : Nat} (h : k < 32) (n : Nat) : iL (nI n) k = n.testBit k := by
  unfold iL; show (BitVec.ofNat 32 n).getLsbD k = _
  rw [BitVec.getLsbD_ofNat, decide_eq_true h, Bool.true_and]
/-- a set lies within another -/
theorem sbI {a b : Nat} (ha : a < 2 ^ 32) : (nI a &&& (nI b ^^^ (-1))) = 0 ↔ ∀ j, a.testBit j = true → b.testBit j = true := by
  constructor
  · intro h j hj
    have hj2 : j < 32 := Nat.lt_of_not_le (fun q => by
      rw [Nat.testBit_lt_two_pow (Nat.lt_of_lt_of_le ha (Nat.pow_le_pow_right (by decide) q))] at hj
      exact Bool.noConfusion hj)
    have e := congrArg (iL · j) h
    replace e : iL (nI a &&& (nI b ^^^ (-1))) j = iL 0 j := e
    rw [iL_and, iL_xor, iL_m1 j hj2, iL_0, iL_nI hj2, iL_nI hj2, hj] at e
    cases q : b.testBit j with
    | true => rfl
    | false => rw [q] at e; exact Bool.noConfusion e
  · intro h
    refine iL_ext (fun k hk => ?_)
    rw [iL_and, iL_xor, iL_m1 k hk, iL_0, iL_nI hk, iL_nI hk]
    cases q : a.testBit k with
    | false => rfl
    | true => rw [h k q]; rfl
theorem bs_le {a b : Nat} (h : ∀ j, a.testBit j = true → b.testBit j = true) : a ≤ b := by
  have e : a &&& b = a := by
    apply Nat.eq_of_testBit_eq
    intro j
    rw [Nat.testBit_and]
    cases q : a.testBit j with
    | false => rfl
    | true => rw [h j q]; rfl
  rw [← e]; exact Nat.and_le_right
/-- the colours that an ink gives on colours -/
def imN (s a : Nat) : Nat → Nat
  | 0 => 0
  | v + 1 => if s.testBit v then imN s a v ||| 2 ^ prN a v else imN s a v
theorem t_im : ∀ s, s < 256 → 0 < s → ∀ a, a < 16 → (if 8 ≤ a then 2 ^ (a % 8) else ovF s (a % 8) 3) = imN s a 8 := by decide +kernel
theorem imN_bit (s a c : Nat) : ∀ n, (imN s a n).testBit c = true ↔ ∃ v, v < n ∧ s.testBit v = true ∧ prN a v = c
  | 0 => by
    unfold imN; rw [Nat.zero_testBit]
    exact ⟨fun h => Bool.noConfusion h, fun ⟨_, h, _⟩ => absurd h (Nat.not_lt_zero _)⟩
  | n + 1 => by
    have ih := imN_bit s a c n
    unfold imN
    by_cases e : s.testBit n = true
    · rw [if_pos e, Nat.testBit_or, Bool.or_eq_true, ih, Nat.testBit_two_pow, decide_eq_true_eq]
      constructor
      · rintro (⟨v, h1, h2⟩ | h)
        · exact ⟨v, by omega, h2⟩
        · exact ⟨n, by omega, e, h⟩
      · rintro ⟨v, h1, h2, h3⟩
        by_cases f : v = n
        · subst f; exact Or.inr h3
        · exact Or.inl ⟨v, by omega, h2, h3⟩
    · rw [if_neg e, ih]
      constructor
      · rintro ⟨v, h1, h2⟩; exact ⟨v, by omega, h2⟩
      · rintro ⟨v, h1, h2, h3⟩
        by_cases f : v = n
        · subst f; exact absurd h2 e
        · exact ⟨v, by omega, h2, h3⟩
theorem gvF_cong {o ik : Nat → Nat} {s s' : Nat} : ∀ q, (∀ z, z < q → s.testBit (o z) = s'.testBit (o z)) → gvF o ik s q = gvF o ik s' q
  | 0, _ => rfl
  | q + 1, h => by unfold gvF; rw [gvF_cong q (fun z hz => h z (by omega)), h q (by omega)]
theorem gvF_0 {o ik : Nat → Nat} : ∀ q, gvF o ik 0 q = 0
  | 0 => rfl
  | q + 1 => by unfold gvF; rw [Nat.zero_testBit, if_neg (by decide), gvF_0 q]
theorem clr_bit (p b j : Nat) : (if p.testBit b then p ^^^ 2 ^ b else p).testBit j = (p.testBit j && !decide (b = j)) := by
  cases h : p.testBit b with
  | true =>
    rw [if_pos rfl, Nat.testBit_xor, Nat.testBit_two_pow]
    by_cases e : b = j
    · subst e; rw [h, decide_eq_true rfl]; rfl
    · rw [decide_eq_false e, Bool.xor_false, Bool.not_false, Bool.and_true]
  | false =>
    rw [if_neg (by decide)]
    by_cases e : b = j
    · subst e; rw [h]; rfl
    · rw [decide_eq_false e, Bool.not_false, Bool.and_true]
/-- the colours that a set makes are those that its parts give -/
theorem cby_bit {N D : Nat} {o ik : Nat → Nat} (ho : ∀ q, q < N → o q < N) (hinj : ∀ q z, q < N → z < N → o q = o z → q = z) (hi : ∀ i, i < N → D.testBit i = decide (8 ≤ ik i) ∧ ik i < 16) (set : Nat) : ∀ q, q ≤ N → ∀ c, (cbyF D o (fun i => ik i % 8) set q).testBit c = true ↔ ∃ part, (∀ j, part.testBit j = true → set.testBit j = true) ∧ gvF o ik part q = c
  | 0, _, c => by
    show (2 ^ 0 : Nat).testBit c = true ↔ _
    rw [Nat.testBit_two_pow, decide_eq_true_eq]
    constructor
    · intro h; exact ⟨0, fun j h => by rw [Nat.zero_testBit] at h; exact Bool.noConfusion h, h⟩
    · rintro ⟨_, _, h⟩; exact h
  | q + 1, hq, c => by
    have ih := cby_bit ho hinj hi set q (by omega)
    have hoq := ho q (by omega)
    obtain ⟨hd, h16⟩ := hi (o q) hoq
    unfold cbyF
    by_cases h : set.testBit (o q) = true
    · rw [if_pos h]
      have hS := cbyF_lt (D := D) (cl := fun i => ik i % 8) set ho (fun i _ => Nat.mod_lt _ (by decide)) q (by omega)
      have hS0 : 0 < cbyF D o (fun i => ik i % 8) set q := Nat.pos_of_ne_zero (fun e => by
        have := (ih 0).mpr ⟨0, fun j h => by rw [Nat.zero_testBit] at h; exact Bool.noConfusion h, gvF_0 q⟩
        rw [e, Nat.zero_testBit] at this; exact Bool.noConfusion this)
      have ho' : overN D (fun i => ik i % 8) (cbyF D o (fun i => ik i % 8) set q) (o q) = imN (cbyF D o (fun i => ik i % 8) set q) (ik (o q)) 8 := by
        rw [← t_im _ hS hS0 _ h16]
        unfold overN
        rw [hd]
        by_cases e : 8 ≤ ik (o q)
        · rw [if_pos (decide_eq_true e), if_pos e]
        · rw [if_neg (by rw [decide_eq_false e]; decide), if_neg e]
      rw [ho', Nat.testBit_or, Bool.or_eq_true, imN_bit, ih]
      constructor
      · rintro (⟨part, h1, h2⟩ | ⟨v, h1, h2, h3⟩)
        · refine ⟨if part.testBit (o q) then part ^^^ 2 ^ o q else part, fun j hj => ?_, ?_⟩
          · rw [clr_bit, Bool.and_eq_true] at hj; exact h1 j hj.1
          · unfold gvF
            rw [clr_bit, decide_eq_true rfl, Bool.not_true, Bool.and_false, if_neg (by decide), ← h2]
            refine gvF_cong q (fun z hz => ?_)
            rw [clr_bit, decide_eq_false (fun e => by have := hinj q z (by omega) (by omega) e; omega), Bool.not_false, Bool.and_true]
        · obtain ⟨part, h4, h5⟩ := (ih v).mp h2
          refine ⟨part ||| 2 ^ o q, fun j hj => ?_, ?_⟩
          · rw [Nat.testBit_or, Bool.or_eq_true, Nat.testBit_two_pow, decide_eq_true_eq] at hj
            rcases hj with hj | hj
            · exact h4 j hj
            · rw [← hj]; exact h
          · unfold gvF
            rw [Nat.testBit_or, Nat.testBit_two_pow_self, Bool.or_true, if_pos rfl, ← h3, ← h5]
            congr 1
            refine gvF_cong q (fun z hz => ?_)
            rw [Nat.testBit_or, Nat.testBit_two_pow_of_ne (fun e => by have := hinj q z (by omega) (by omega) e; omega), Bool.or_false]
      · rintro ⟨part, h1, h2⟩
        unfold gvF at h2
        by_cases e : part.testBit (o q) = true
        · rw [if_pos e] at h2
          exact Or.inr ⟨gvF o ik part q, gvF_lt part ho (fun i h => (hi i h).2) q (by omega), (ih _).mpr ⟨part, h1, rfl⟩, h2⟩
        · rw [if_neg e] at h2
          exact Or.inl ⟨part, h1, h2⟩
    · rw [if_neg h, ih]
      constructor
      · rintro ⟨part, h1, h2⟩
        refine ⟨part, h1, ?_⟩
        unfold gvF; rw [if_neg (fun e => h (h1 _ e))]; exact h2
      · rintro ⟨part, h1, h2⟩
        refine ⟨part, h1, ?_⟩
        unfold gvF at h2; rw [if_neg (fun e => h (h1 _ e))] at h2; exact h2
theorem mkP_bit (gvs : Nat → Nat) (set c : Nat) : ∀ n, (mkP gvs set n).testBit c = true ↔ ∃ q, q < n ∧ (nI q &&& (nI set ^^^ (-1))) = 0 ∧ gvs q = c
  | 0 => by
    unfold mkP; rw [Nat.zero_testBit]
    exact ⟨fun h => Bool.noConfusion h, fun ⟨_, h, _⟩ => absurd h (Nat.not_lt_zero _)⟩
  | n + 1 => by
    have ih := mkP_bit gvs set c n
    unfold mkP
    by_cases e : (nI n &&& (nI set ^^^ (-1))) = 0
    · rw [if_pos e, Nat.testBit_or, Bool.or_eq_true, ih, Nat.testBit_two_pow, decide_eq_true_eq]
      constructor
      · rintro (⟨v, h1, h2⟩ | h)
        · exact ⟨v, by omega, h2⟩
        · exact ⟨n, by omega, e, h⟩
      · rintro ⟨v, h1, h2, h3⟩
        by_cases f : v = n
        · subst f; exact Or.inr h3
        · exact Or.inl ⟨v, by omega, h2, h3⟩
    · rw [if_neg e, ih]
      constructor
      · rintro ⟨v, h1, h2⟩; exact ⟨v, by omega, h2⟩
      · rintro ⟨v, h1, h2, h3⟩
        by_cases f : v = n
        · subst f; exact absurd h2 e
        · exact ⟨v, by omega, h2, h3⟩
theorem cby_mk {N D : Nat} {o ik : Nat → Nat} (hN : N ≤ 6) (ho : ∀ q, q < N → o q < N) (hinj : ∀ q z, q < N → z < N → o q = o z → q = z) (hi : ∀ i, i < N → D.testBit i = decide (8 ≤ ik i) ∧ ik i < 16) {set : Nat} (hset : set < 2 ^ N) : cbyF D o (fun i => ik i % 8) set N = mkP (fun z => gvF o ik z N) set (set + 1) := by
  have h64 := pow6 hN
  apply Nat.eq_of_testBit_eq
  intro c
  rw [Bool.eq_iff_iff, cby_bit ho hinj hi set N (Nat.le_refl N), mkP_bit]
  constructor
  · rintro ⟨part, h1, h2⟩
    have := bs_le h1
    exact ⟨part, by omega, (sbI (by omega)).mpr h1, h2⟩
  · rintro ⟨part, h0, h1, h2⟩
    exact ⟨part, (sbI (by omega)).mp h1, h2⟩
/-! the least set -/
theorem pc_on : ∀ i, i < 64 → pcI (nI i) = onI (nI i) 8 := by decide +kernel
theorem ls_eq {due : Nat} {cov mks : Nat → Nat} : ∀ n, n ≤ 64 → (∀ i, i < n → cov i = mks i) → lsF due cov n = lsM due mks n ∧ (lsM due mks n = -9 ∨ ∃ j, j < n ∧ lsM due mks n = nI j ∧ (nI due &&& (nI (mks j) ^^^ (-1))) = 0)
  | 0, _, _ => ⟨rfl, Or.inl rfl⟩
  | n + 1, hn, h => by
    obtain ⟨e, k⟩ := ls_eq n (by omega) (fun i hi => h i (by omega))
    unfold lsF lsM
    rw [e, h n (by omega)]
    have eq : (lsM due mks n = -9 ∨ pcI (nI n) < pcI (lsM due mks n)) ↔ (lsM due mks n = -9 ∨ onI (nI n) 8 < onI (lsM due mks n) 8) := by
      rcases k with k | ⟨j, hj, k, _⟩
      · exact ⟨fun _ => Or.inl k, fun _ => Or.inl k⟩
      · rw [k, pc_on j (by omega), pc_on n (by omega)]
    by_cases c : (lsM due mks n = -9 ∨ onI (nI n) 8 < onI (lsM due mks n) 8) ∧ (nI due &&& (nI (mks n) ^^^ (-1))) = 0
    · rw [if_pos c, if_pos ⟨eq.mpr c.1, c.2⟩]
      exact ⟨rfl, Or.inr ⟨n, by omega, rfl, c.2⟩⟩
    · rw [if_neg c, if_neg (fun q => c ⟨eq.mp q.1, q.2⟩)]
      refine ⟨rfl, ?_⟩
      rcases k with k | ⟨j, hj, k⟩
      · exact Or.inl k
      · exact Or.inr ⟨j, by omega, k⟩
theorem least_of {P : Nat → Prop} : ∀ n, P n → ∃ s, s ≤ n ∧ P s ∧ ∀ z, z < s → ¬ P z := by
  intro n
  induction n using Nat.strongRecOn with
  | ind n ih =>
    intro h
    by_cases g : ∃ z, z < n ∧ P z
    · obtain ⟨z, hz, hp⟩ := g
      obtain ⟨s, h1, h2, h3⟩ := ih z hz hp
      exact ⟨s, by omega, h2, h3⟩
    · exact ⟨n, Nat.le_refl n, h, fun z hz hp => g ⟨z, hz, hp⟩⟩
/-- the parts by which the blocks are cut -/
theorem fs_ex {W H N : Nat} {pcl o ik : Nat → Nat} {m0 : Nat} (hN : N ≤ 6) (h8 : ∀ yy xx, yy < H → xx < W → pcl (6 * yy + xx) < 8) (hm : m0 < 2 ^ N) (hc : (nI (wtY pcl W H) &&& (nI (mkP (fun z => gvF o ik z N) m0 (m0 + 1)) ^^^ (-1))) = 0) : ∃ fs : Nat → Nat, ∀ c, (∃ yy xx, yy < H ∧ xx < W ∧ pcl (6 * yy + xx) = c) → fs c < 2 ^ N ∧ ((nI (fs c) &&& (nI m0 ^^^ (-1))) = 0 ∧ gvF o ik (fs c) N = c) ∧ ∀ z, z < fs c → ¬ ((nI z &&& (nI m0 ^^^ (-1))) = 0 ∧ gvF o ik z N = c) := by
  have hw : wtY pcl W H < 2 ^ 32 := Nat.lt_pow_two_of_testBit _ (fun j hj => by
    cases q : (wtY pcl W H).testBit j with
    | false => rfl
    | true =>
      obtain ⟨yy, xx, h1, h2, h3⟩ := (wtY_bit H).mp q
      have := h8 yy xx h1 h2
      omega)
  suffices key : ∀ c : Nat, ∃ s : Nat, ((∃ yy xx, yy < H ∧ xx < W ∧ pcl (6 * yy + xx) = c) → s < 2 ^ N ∧ ((nI s &&& (nI m0 ^^^ (-1))) = 0 ∧ gvF o ik s N = c) ∧ ∀ z, z < s → ¬ ((nI z &&& (nI m0 ^^^ (-1))) = 0 ∧ gvF o ik z N = c)) from Classical.skolem.mp key
  intro c
  by_cases g : ∃ yy xx, yy < H ∧ xx < W ∧ pcl (6 * yy + xx) = c
  · have h1 := (sbI hw).mp hc c ((wtY_bit H).mpr g)
    obtain ⟨q, h2, h3⟩ := (mkP_bit _ _ _ _).mp h1
    obtain ⟨s, h4, h5, h6⟩ := least_of (P := fun q => (nI q &&& (nI m0 ^^^ (-1))) = 0 ∧ gvF o ik q N = c) q h3
    exact ⟨s, fun _ => ⟨by omega, h5, h6⟩⟩
  · exact ⟨0, fun h => absurd h g⟩
/-! blocks that are cut -/
theorem vpU_at (f : Nat → Int64) (i : Nat) (x : Int64) (j : Nat) : vp_updL f i x j = if j = i then x else f j := by
  by_cases h : j = i
  · subst h; rw [if_pos rfl]; exact pk_uLs
  · rw [if_neg h]; simp [vp_updL, h]
theorem addB_at {s : Nat} {ce : Int64} {blk : Nat → Int64} : ∀ n i, addB s ce blk n i = if i < n ∧ s.testBit i = true then blk i ||| ce else blk i
  | 0, i => by rw [if_neg (by omega)]; rfl
  | n + 1, i => by
    have ih := addB_at (s := s) (ce := ce) (blk := blk) n
    unfold addB
    by_cases h : s.testBit n = true
    · rw [if_pos h, vpU_at]
      by_cases e : i = n
      · subst e; rw [if_pos rfl, ih, if_neg (by omega), if_pos ⟨by omega, h⟩]
      · rw [if_neg e, ih]
        by_cases g : i < n ∧ s.testBit i = true
        · rw [if_pos g, if_pos ⟨by omega, g.2⟩]
        · rw [if_neg g, if_neg (fun q => g ⟨by omega, q.2⟩)]
    · rw [if_neg h, ih]
      by_cases g : i < n ∧ s.testBit i = true
      · rw [if_pos g, if_pos ⟨by omega, g.2⟩]
      · rw [if_neg g, if_neg (fun q => g ⟨Nat.lt_of_le_of_ne (by omega) (fun e => h (e ▸ q.2)), q.2⟩)]
theorem zB_at {blk : Nat → Int64} : ∀ n i, zB blk n i = if i < n then 0 else blk i
  | 0, i => by rw [if_neg (by omega)]; rfl
  | n + 1, i => by
    unfold zB
    rw [vpU_at]
    by_cases e : i = n
    · rw [if_pos e, if_pos (by omega)]
    · rw [if_neg e, zB_at n i]
      by_cases g : i < n
      · rw [if_pos g, if_pos (by omega)]
      · rw [if_neg g, if_neg (by omega)]
theorem zS_at {slp : Nat → Int32} : ∀ n i, i < n → zS slp n i = nI 4
  | 0, i, h => absurd h (Nat.not_lt_zero _)
  | n + 1, i, h => by
    unfold zS
    by_cases e : i = n
    · rw [e, pk_us]
    · rw [pk_un e]; exact zS_at n i (by omega)
theorem cutB_bit {W H N : Nat} {p1 p2 p3 : Int64} {blk : Nat → Int64} {pcl fs : Nat → Nat} (hW : W ≤ 6) (hH : H ≤ 6) (hp : ∀ yy xx, yy < 8 → xx < 8 → bL p1 (8 * yy + xx) = (decide (xx < W ∧ yy < H) && (pcl (6 * yy + xx)).testBit 0) ∧ bL p2 (8 * yy + xx) = (decide (xx < W ∧ yy < H) && (pcl (6 * yy + xx)).testBit 1) ∧ bL p3 (8 * yy + xx) = (decide (xx < W ∧ yy < H) && (pcl (6 * yy + xx)).testBit 2))
    (h8 : ∀ yy xx, yy < H → xx < W → pcl (6 * yy + xx) < 8) {i yy xx : Nat} (hi : i < N) (hy : yy < 8) (hx : xx < 8) : ∀ n, n ≤ 8 → bL (cutB p1 p2 p3 (papL W H) N fs blk n i) (8 * yy + xx) = (decide (xx < W ∧ yy < H) && (decide (pcl (6 * yy + xx) < n) && (fs (pcl (6 * yy + xx))).testBit i))
  | 0, _ => by
    unfold cutB
    rw [zB_at, if_pos hi, bL_0, decide_eq_false (p := pcl (6 * yy + xx) < 0) (by omega), Bool.false_and, Bool.and_false]
  | n + 1, hn => by
    have ih := cutB_bit (fs := fs) (blk := blk) hW hH hp h8 hi hy hx n (by omega)
    have hce := bL_cel hW hH hp h8 (q := n) (by omega) hy hx
    unfold cutB
    by_cases g : xx < W ∧ yy < H
    · rw [decide_eq_true g, Bool.true_and] at ih hce ⊢
      by_cases e : (ofL p1 p2 p3 n &&& papL W H) = 0
      · rw [if_pos e, ih]
        have : pcl (6 * yy + xx) ≠ n := fun q => (cel_0 hW hH hp h8 (q := n) (by omega)).mpr ⟨yy, xx, g.2, g.1, q⟩ e
        congr 1
        rw [decide_eq_decide]; omega
      · rw [if_neg e, addB_at]
        by_cases f : pcl (6 * yy + xx) = n
        · rw [decide_eq_true f] at hce
          rw [decide_eq_true (show pcl (6 * yy + xx) < n + 1 by omega), Bool.true_and]
          rw [decide_eq_false (show ¬ pcl (6 * yy + xx) < n by omega), Bool.false_and] at ih
          by_cases k : (fs n).testBit i = true
          · rw [if_pos ⟨hi, k⟩, bL_or, hce, Bool.or_true, f, k]
          · rw [if_neg (fun q => k q.2), ih, f]
            cases q : (fs n).testBit i with
            | false => rfl
            | true => exact absurd q k
        · rw [decide_eq_false f] at hce
          have : decide (pcl (6 * yy + xx) < n + 1) = decide (pcl (6 * yy + xx) < n) := by rw [decide_eq_decide]; omega
          rw [this, ← ih]
          split
          · rw [bL_or, hce, Bool.or_false]
          · rfl
    · rw [decide_eq_false g, Bool.false_and] at ih hce ⊢
      by_cases e : (ofL p1 p2 p3 n &&& papL W H) = 0
      · rw [if_pos e, ih]
      · rw [if_neg e, addB_at]
        split
        · rw [bL_or, hce, ih]; rfl
        · exact ih
theorem cbI_at {p0 xx yy : Nat} (hyy : yy < 6) {b : Nat → Nat} {i y2 : Nat} (hy2 : y2 < 6) : ∀ n, cbI p0 xx yy n b (6 * i + y2) = if y2 = yy ∧ i < n then b (6 * i + y2) ||| (p0 / 2 ^ i &&& 1) * 2 ^ xx else b (6 * i + y2)
  | 0 => by rw [if_neg (by omega)]; rfl
  | n + 1 => by
    have ih := fun j => cbI_at (p0 := p0) (xx := xx) hyy (b := b) (i := j) (y2 := y2) hy2 n
    unfold cbI va_up
    by_cases e : 6 * i + y2 = 6 * n + yy
    · have e1 : i = n := by omega
      have e2 : y2 = yy := by omega
      subst e1; subst e2
      rw [if_pos rfl, ih, if_neg (by omega), if_pos ⟨rfl, by omega⟩]
    · rw [if_neg e, ih]
      by_cases g : y2 = yy ∧ i < n
      · rw [if_pos g, if_pos ⟨g.1, by omega⟩]
      · rw [if_neg g, if_neg (by omega)]
theorem pr_bit (p0 i xx x2 : Nat) : ((p0 / 2 ^ i &&& 1) * 2 ^ xx).testBit x2 = (decide (x2 = xx) && p0.testBit i) := by
  rw [tbm_d]
  cases p0.testBit i with
  | true =>
    rw [if_pos rfl, Nat.one_mul, Nat.testBit_two_pow, Bool.and_true, decide_eq_decide]; exact eq_comm
  | false => rw [if_neg (by decide), Nat.zero_mul, Nat.zero_testBit, Bool.and_false]
theorem cbX_bit {N : Nat} {fs pcl : Nat → Nat} {yy : Nat} (hyy : yy < 6) {b : Nat → Nat} {i y2 x2 : Nat} (hi : i < N) (hy2 : y2 < 6) : ∀ n, (cbX N fs pcl yy n b (6 * i + y2)).testBit x2 = ((b (6 * i + y2)).testBit x2 || (decide (y2 = yy ∧ x2 < n) && (fs (pcl (6 * yy + x2))).testBit i))
  | 0 => by
    rw [decide_eq_false (by omega), Bool.false_and, Bool.or_false]; rfl
  | n + 1 => by
    have ih := cbX_bit (fs := fs) (pcl := pcl) hyy (b := b) (x2 := x2) hi hy2 n
    unfold cbX
    rw [cbI_at hyy hy2]
    by_cases e : y2 = yy
    · rw [if_pos ⟨e, hi⟩, Nat.testBit_or, ih, pr_bit]
      by_cases f : x2 = n
      · subst f
        rw [decide_eq_false (show ¬ (y2 = yy ∧ x2 < x2) by omega), decide_eq_true rfl, decide_eq_true (show y2 = yy ∧ x2 < x2 + 1 from ⟨e, by omega⟩), Bool.false_and, Bool.or_false]
      · rw [decide_eq_false f, Bool.false_and, Bool.or_false]
        congr 2; rw [decide_eq_decide]; omega
    · rw [if_neg (fun q => e q.1), ih, decide_eq_false (fun q => e q.1), decide_eq_false (fun q => e q.1)]
theorem cbY_bit {W N : Nat} {fs pcl : Nat → Nat} {i y2 x2 : Nat} (hi : i < N) (hy2 : y2 < 6) : ∀ n, n ≤ 6 → (cbY W N fs pcl n (6 * i + y2)).testBit x2 = (decide (x2 < W ∧ y2 < n) && (fs (pcl (6 * y2 + x2))).testBit i)
  | 0, _ => by
    show (0 : Nat).testBit x2 = _
    rw [Nat.zero_testBit, decide_eq_false (by omega), Bool.false_and]
  | n + 1, hn => by
    unfold cbY
    rw [cbX_bit (by omega) hi hy2, cbY_bit hi hy2 n (by omega)]
    by_cases e : y2 = n
    · subst e
      rw [decide_eq_false (by omega), Bool.false_and, Bool.false_or]
      congr 1; rw [decide_eq_decide]; omega
    · rw [decide_eq_false (p := y2 = n ∧ x2 < W) (fun q => e q.1), Bool.false_and, Bool.or_false]
      congr 1; rw [decide_eq_decide]; omega
theorem cbY_lt {W N : Nat} {fs pcl : Nat → Nat} {i y2 : Nat} (hW : W ≤ 6) (hi : i < N) (hy2 : y2 < 6) {n : Nat} (hn : n ≤ 6) : cbY W N fs pcl n (6 * i + y2) < 64 :=
  Nat.lt_pow_two_of_testBit (n := 6) _ (fun j hj => by rw [cbY_bit hi hy2 n hn, decide_eq_false (by omega), Bool.false_and])
/-! counts -/
theorem ik_eq {blk : Nat → Int64} {bk : Nat → Nat} {xx zz : Nat} (hx : xx < 6) (hz : zz < 6) : ∀ n, (∀ i, i < n → bL (blk i) (8 * zz + xx) = (bk (6 * i + zz)).testBit xx) → inkS blk (8 * zz + xx) n = ikS bk xx zz n
  | 0, _ => rfl
  | n + 1, h => by
    unfold inkS ikS
    rw [ik_eq hx hz n (fun i hi => h i (by omega)), tl_b (by omega), h n (by omega), tbm_d]
    cases (bk (6 * n + zz)).testBit xx with
    | true => rw [if_pos rfl, if_pos rfl, Nat.one_mul]
    | false => rw [if_neg (by decide), if_neg (by decide), Nat.zero_mul, Nat.or_zero]
theorem on_c : ∀ b, b < 64 → onI (nI b) 8 = nI (cX (b.testBit ·) 8) := by decide +kernel
theorem cs_c {bk : Nat → Nat} {i : Nat} : ∀ n, (∀ yy, yy < n → bk (6 * i + yy) < 64) → csI bk i n = nI (cY (fun yy xx => (bk (6 * i + yy)).testBit xx) n)
  | 0, _ => rfl
  | n + 1, h => by
    unfold csI cY
    rw [cs_c n (fun yy hy => h yy (by omega)), on_c _ (h n (by omega)), nI_add]
theorem pc_cs {blk : Int64} {bk : Nat → Nat} {i : Nat} (h : ∀ yy xx, yy < 8 → xx < 8 → bL blk (8 * yy + xx) = (decide (xx < 6 ∧ yy < 6) && (bk (6 * i + yy)).testBit xx)) (hb : ∀ yy, yy < 6 → bk (6 * i + yy) < 64) : pcL blk = csI bk i 6 := by
  rw [pcL_eq, cs_c 6 hb]
  congr 1
  have e : cY (fun yy xx => bL blk (8 * yy + xx)) 6 = cY (fun yy xx => (bk (6 * i + yy)).testBit xx) 6 := cY_cong 6 (fun yy hy xx hx => by
    rw [h yy xx (by omega) hx]
    by_cases g : xx < 6
    · rw [decide_eq_true (And.intro g hy), Bool.true_and]
    · rw [decide_eq_false (fun q => g q.1), Bool.false_and]
      exact (Nat.testBit_lt_two_pow (Nat.lt_of_lt_of_le (hb yy hy) (Nat.pow_le_pow_right (n := 2) (by decide) (show 6 ≤ xx by omega)))).symm)
  have z : ∀ yy, 6 ≤ yy → yy < 8 → cX (fun xx => bL blk (8 * yy + xx)) 8 = 0 := fun yy h1 h2 =>
    cX_ext (n := 0) 8 (fun k _ hk => by rw [h yy k h2 (by omega), decide_eq_false (by omega), Bool.false_and])
  show cY _ 6 + cX (fun xx => bL blk (8 * 6 + xx)) 8 + cX (fun xx => bL blk (8 * 7 + xx)) 8 = _
  rw [z 6 (by decide) (by decide), z 7 (by decide) (by decide), e]
  rfl
theorem cB_eq {blk : Nat → Int64} {bk : Nat → Nat} : ∀ n, (∀ i, i < n → pcL (blk i) = csI bk i 6) → cntB blk n = csA bk n
  | 0, _ => rfl
  | n + 1, h => by unfold cntB csA; rw [cB_eq n (fun i hi => h i (by omega)), h n (by omega)]
theorem cS_eq {slp : Nat → Int32} {kk : Nat → Nat} : ∀ n, (∀ i, i < n → slp i = nI (kk i) ∧ kk i < 9) → cntS slp n = slC kk n
  | 0, _ => rfl
  | n + 1, h => by
    obtain ⟨h1, h2⟩ := h n (by omega)
    unfold cntS slC
    rw [cS_eq n (fun i hi => h i (by omega)), h1]
    by_cases e : kk n = 4
    · rw [if_pos (by rw [e]), if_pos e]; rfl
    · rw [if_neg (fun q => e ((nI_eq (by omega) (by decide)).mp q)), if_neg e]
