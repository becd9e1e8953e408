/-! what the law keeps: class and reference say the same -/
def WR (w : TWork) (Sr : Nat → Int32) : Prop := ∃ (W H N D : Nat) (p1 p2 p3 : Int64) (col od : Nat → Int32) (blk : Nat → Int64) (slp : Nat → Int32), w = (nI W, nI H, nI N, nI D, p1, p2, p3, col, od, blk, slp) ∧ ∃ pcl ik o bk kk : Nat → Nat, WRel W H N D p1 p2 p3 col od blk slp Sr pcl ik o bk kk
theorem RowOk_congr {Sr Sr' : Nat → Int32} {W H N : Nat} {pcl ik o bk kk : Nat → Nat} (h : RowOk Sr W H N pcl ik o bk kk) (e : ∀ z, z < 99 → Sr' z = Sr z) : RowOk Sr' W H N pcl ik o bk kk := by
  obtain ⟨h0, h1, h2, hW, hH, hN, hp, hi, ho, hb, hd⟩ := h
  exact ⟨(e _ (by omega)).trans h0, (e _ (by omega)).trans h1, (e _ (by omega)).trans h2, hW, hH, hN, fun yy xx a b => ⟨(e _ (by omega)).trans (hp yy xx a b).1, (hp yy xx a b).2⟩, fun i a => ⟨(e _ (by omega)).trans (hi i a).1, (hi i a).2⟩, fun q a => ⟨(e _ (by omega)).trans (ho q a).1, (ho q a).2⟩, fun i yy a b => ⟨(e _ (by omega)).trans (hb i yy a b).1, (hb i yy a b).2⟩, fun i a => ⟨(e _ (by omega)).trans (hd i a).1, (e _ (by omega)).trans (hd i a).2.1, (hd i a).2.2⟩⟩
theorem WRel_congr {W H N D : Nat} {p1 p2 p3 : Int64} {col od : Nat → Int32} {blk : Nat → Int64} {slp Sr Sr' : Nat → Int32} {pcl ik o bk kk : Nat → Nat} (h : WRel W H N D p1 p2 p3 col od blk slp Sr pcl ik o bk kk) (e : ∀ z, z < 99 → Sr' z = Sr z) : WRel W H N D p1 p2 p3 col od blk slp Sr' pcl ik o bk kk := ⟨RowOk_congr h.1 e, h.2⟩
theorem WR.congr {w : TWork} {Sr Sr' : Nat → Int32} (h : WR w Sr) (e : ∀ z, z < 99 → Sr' z = Sr z) : WR w Sr' := by
  obtain ⟨W, H, N, D, p1, p2, p3, col, od, blk, slp, hw, pcl, ik, o, bk, kk, hr⟩ := h
  exact ⟨W, H, N, D, p1, p2, p3, col, od, blk, slp, hw, pcl, ik, o, bk, kk, WRel_congr hr e⟩
theorem WR.of {W H N D : Nat} {p1 p2 p3 : Int64} {col od : Nat → Int32} {blk : Nat → Int64} {slp Sr : Nat → Int32} {pcl ik o bk kk : Nat → Nat} (h : WRel W H N D p1 p2 p3 col od blk slp Sr pcl ik o bk kk) : WR (nI W, nI H, nI N, nI D, p1, p2, p3, col, od, blk, slp) Sr := ⟨W, H, N, D, p1, p2, p3, col, od, blk, slp, rfl, pcl, ik, o, bk, kk, h⟩
/-! what was done -/
def PRl (k mm : Nat) (wp : Nat → TWork) (pa : Nat → Int32) : Prop := k < 6 ∧ mm ≤ 6 ∧ ∀ r, r < mm → WR (wp ((k + 6 - mm + r) % 6)) (fun z => pa (99 * r + z))
abbrev NOP (U U1 : Nat) (pa pa1 Sr : Nat → Int32) : Prop := (U < 6 → U1 = U + 1 ∧ (∀ j, j < 99 * U → pa1 j = pa j) ∧ (∀ j, j < 99 → pa1 (99 * U + j) = Sr j)) ∧ (U = 6 → U1 = 6 ∧ (∀ j, j < 495 → pa1 j = pa (99 + j)) ∧ (∀ j, j < 99 → pa1 (495 + j) = Sr j))
theorem PRl_rem {k mm U1 : Nat} {wp : Nat → TWork} {pa pa1 Sr : Nat → Int32} {w : TWork} (h : PRl k mm wp pa) (hw : WR w Sr) (hn : NOP mm U1 pa pa1 Sr) : U1 = min (mm + 1) 6 ∧ PRl ((k + 1) % 6) (min (mm + 1) 6) (va_up wp k w) pa1 := by
  obtain ⟨hk, hm, hr⟩ := h
  rcases Nat.lt_or_ge mm 6 with g | g
  · obtain ⟨e1, e2, e3⟩ := hn.1 g
    rw [Nat.min_eq_left (show mm + 1 ≤ 6 by omega)]
    refine ⟨e1, by omega, by omega, fun r hrr => ?_⟩
    rw [show ((k + 1) % 6 + 6 - (mm + 1) + r) % 6 = (k + 6 - mm + r) % 6 from by omega]
    by_cases e : r = mm
    · subst e
      rw [show (k + 6 - r + r) % 6 = k from by omega]
      unfold va_up; rw [if_pos rfl]
      exact hw.congr (fun z hz => e3 z hz)
    · unfold va_up; rw [if_neg (by omega)]
      exact (hr r (by omega)).congr (fun z hz => e2 _ (by omega))
  · have g6 : mm = 6 := by omega
    subst g6
    obtain ⟨e1, e2, e3⟩ := hn.2 rfl
    rw [Nat.min_eq_right (by decide)]
    refine ⟨e1, by omega, by omega, fun r hrr => ?_⟩
    by_cases e : r = 5
    · subst e
      rw [show ((k + 1) % 6 + 6 - 6 + 5) % 6 = k from by omega]
      unfold va_up; rw [if_pos rfl]
      exact hw.congr (fun z hz => e3 z hz)
    · unfold va_up; rw [if_neg (by omega)]
      have h1 := hr (r + 1) (by omega)
      rw [show (k + 6 - 6 + (r + 1)) % 6 = ((k + 1) % 6 + 6 - 6 + r) % 6 from by omega] at h1
      exact h1.congr (fun z hz => (e2 (99 * r + z) (by omega)).trans (by show pa _ = pa _; congr 1; omega))
theorem PRl_undo {k mm : Nat} {wp : Nat → TWork} {pa : Nat → Int32} (h : PRl k (mm + 1) wp pa) : WR (wp ((k + 6 - 1) % 6)) (fun z => pa (99 * mm + z)) ∧ PRl ((k + 6 - 1) % 6) mm wp pa := by
  obtain ⟨hk, hm, hr⟩ := h
  refine ⟨?_, by omega, by omega, fun r hrr => ?_⟩
  · have := hr mm (by omega)
    rw [show (k + 6 - (mm + 1) + mm) % 6 = (k + 6 - 1) % 6 from by omega] at this
    exact this
  · have := hr r (by omega)
    rw [show (k + 6 - (mm + 1) + r) % 6 = ((k + 6 - 1) % 6 + 6 - mm + r) % 6 from by omega] at this
    exact this
theorem PRl_none {k mm : Nat} {wp : Nat → TWork} {pa pa' : Nat → Int32} (h : PRl k mm wp pa) : PRl k 0 wp pa' := ⟨h.1, Nat.zero_le _, fun r hr => absurd hr (Nat.not_lt_zero _)⟩
/-! images -/
def IRl (kp ikp : Nat → Int32) (wi : Nat → TWork) (im : Nat → Int32) : Prop := ∀ j, j < 2 → kp j = ikp j ∧ (kp j = nI 0 ∨ kp j = nI 1) ∧ (kp j = nI 1 → WR (wi j) (fun z => im (99 * j + z)))
theorem IRl_0 {wi : Nat → TWork} {im : Nat → Int32} : IRl (fun _ => nI 0) (fun _ => nI 0) wi im := fun _ _ => ⟨rfl, Or.inl rfl, fun h => absurd h (show ¬ nI 0 = nI 1 by decide)⟩
theorem IRl_keep {kp ikp : Nat → Int32} {wi : Nat → TWork} {im im1 Sr : Nat → Int32} {j : Nat} {w : TWork} (h : IRl kp ikp wi im) (hw : WR w Sr) (h1 : (∀ z, z < 99 → im1 (99 * j + z) = Sr z) ∧ (∀ z, (z < 99 * j ∨ 99 * j + 99 ≤ z) → im1 z = im z)) : IRl (upd kp j (nI 1)) (upd ikp j (nI 1)) (va_up wi j w) im1 := by
  intro i hi
  by_cases e : i = j
  · subst e
    rw [pk_us, pk_us]
    unfold va_up; rw [if_pos rfl]
    exact ⟨rfl, Or.inr rfl, fun _ => hw.congr (fun z hz => h1.1 z hz)⟩
  · rw [pk_un e, pk_un e]
    unfold va_up; rw [if_neg e]
    obtain ⟨a, b, c⟩ := h i hi
    exact ⟨a, b, fun q => (c q).congr (fun z hz => h1.2 _ (by omega))⟩
/-! the text, what was seen -/
def TRl (n : Nat) (ltr tx : Nat → Int32) : Prop := n ≤ 100 ∧ ∃ lt : Nat → Nat, ∀ i, i < n → ltr i = nI (lt i) ∧ tx i = nI (lt i) ∧ lt i < 256
theorem TRl_type {n ch : Nat} {ltr tx : Nat → Int32} (h : TRl n ltr tx) (hn : n < 100) (hc : ch < 256) : TRl (n + 1) (upd ltr n (nI ch)) (upd tx n (nI ch)) := by
  obtain ⟨h1, lt, h2⟩ := h
  refine ⟨by omega, va_up lt n ch, fun i hi => ?_⟩
  by_cases e : i = n
  · subst e; rw [pk_us, pk_us]; unfold va_up; rw [if_pos rfl]; exact ⟨rfl, rfl, hc⟩
  · rw [pk_un e, pk_un e]; unfold va_up; rw [if_neg e]; exact h2 i (by omega)
theorem TRl_0 {ltr tx : Nat → Int32} : TRl 0 ltr tx := ⟨by decide, fun _ => 0, fun _ h => absurd h (Nat.not_lt_zero _)⟩
def SRl (M : Nat) (xs ys cs sn : Nat → Int32) : Prop := M ≤ 6 ∧ ∃ sx sy sc : Nat → Nat, ∀ i, i < M → (xs i = nI (sx i) ∧ ys i = nI (sy i) ∧ cs i = nI (sc i) ∧ sx i < 6 ∧ sy i < 6 ∧ sc i < 8) ∧ (sn (3 * i) = nI (sx i) ∧ sn (3 * i + 1) = nI (sy i) ∧ sn (3 * i + 2) = nI (sc i) ∧ sx i < 6 ∧ sy i < 6 ∧ sc i < 8)
theorem SRl_0 {xs ys cs sn : Nat → Int32} : SRl 0 xs ys cs sn := ⟨by decide, fun _ => 0, fun _ => 0, fun _ => 0, fun _ h => absurd h (Nat.not_lt_zero _)⟩
theorem SRl_add {M x0 z0 v0 : Nat} {xs ys cs sn : Nat → Int32} (h : SRl M xs ys cs sn) (hM : M < 6) (hx : x0 < 6) (hz : z0 < 6) (hv : v0 < 8) : SRl (M + 1) (upd xs M (nI x0)) (upd ys M (nI z0)) (upd cs M (nI v0)) (upd (upd (upd sn (3 * M) (nI x0)) (3 * M + 1) (nI z0)) (3 * M + 2) (nI v0)) := by
  obtain ⟨h1, sx, sy, sc, h2⟩ := h
  refine ⟨by omega, va_up sx M x0, va_up sy M z0, va_up sc M v0, fun i hi => ?_⟩
  by_cases e : i = M
  · subst e
    unfold va_up
    rw [if_pos rfl, if_pos rfl, if_pos rfl, pk_us, pk_us, pk_us]
    refine ⟨⟨rfl, rfl, rfl, hx, hz, hv⟩, ?_, ?_, ?_, hx, hz, hv⟩
    · rw [pk_un (by omega), pk_un (by omega), pk_us]
    · rw [pk_un (by omega), pk_us]
    · rw [pk_us]
  · unfold va_up
    rw [if_neg e, if_neg e, if_neg e, pk_un e, pk_un e, pk_un e]
    obtain ⟨a, b⟩ := h2 i (by omega)
    refine ⟨a, ?_, ?_, ?_, b.2.2.2⟩
    · rw [pk_un (by omega), pk_un (by omega), pk_un (by omega)]; exact b.1
    · rw [pk_un (by omega), pk_un (by omega), pk_un (by omega)]; exact b.2.1
    · rw [pk_un (by omega), pk_un (by omega), pk_un (by omega)]; exact b.2.2.1
/-! a work carved, slipped, its order changed, cut, told -/
section WRS
variable {W H N D : Nat} {p1 p2 p3 : Int64} {col od : Nat → Int32} {blk : Nat → Int64} {slp Sr : Nat → Int32} {pcl ik o bk kk : Nat → Nat}
theorem WRel_carve (h : WRel W H N D p1 p2 p3 col od blk slp Sr pcl ik o bk kk) {ii xx zz : Nat} (hii : ii < N) (hxx : xx < W) (hzz : zz < H) : WRel W H N D p1 p2 p3 col od (vp_updL blk ii (blk ii ^^^ cbL (8 * zz + xx))) slp (upd Sr (51 + 6 * ii + zz) (nI (bk (6 * ii + zz) ^^^ 2 ^ xx))) pcl ik o (va_up bk (6 * ii + zz) (bk (6 * ii + zz) ^^^ 2 ^ xx)) kk := by
  obtain ⟨⟨h0, h1, h2, hW, hH, hN, hp, hi, ho, hb, hd⟩, hD, hcol, hod, hinj, hslp, hbl, hpl⟩ := h
  have un : ∀ z, z ≠ 51 + 6 * ii + zz → upd Sr (51 + 6 * ii + zz) (nI (bk (6 * ii + zz) ^^^ 2 ^ xx)) z = Sr z := fun z hz => pk_un hz
  refine ⟨⟨(un _ (by omega)).trans h0, (un _ (by omega)).trans h1, (un _ (by omega)).trans h2, hW, hH, hN, fun yy xx a b => ⟨(un _ (by omega)).trans (hp yy xx a b).1, (hp yy xx a b).2⟩, fun i a => ⟨(un _ (by omega)).trans (hi i a).1, (hi i a).2⟩, fun q a => ⟨(un _ (by omega)).trans (ho q a).1, (ho q a).2⟩, fun i yy a b => ?_, fun i a => ⟨(un _ (by omega)).trans (hd i a).1, (un _ (by omega)).trans (hd i a).2.1, (hd i a).2.2⟩⟩, hD, hcol, hod, hinj, hslp, fun i yy x2 a b c => ?_, hpl⟩
  · unfold va_up
    by_cases e : 6 * i + yy = 6 * ii + zz
    · rw [if_pos e, show 51 + 6 * i + yy = 51 + 6 * ii + zz from by omega, pk_us]
      exact ⟨rfl, Nat.xor_lt_two_pow (n := 6) (hb ii zz hii (by omega)).2 (pw2lt (by omega))⟩
    · rw [if_neg e, un _ (by omega)]; exact hb i yy a b
  · rw [vpU_at]
    by_cases e : i = ii
    · subst e
      rw [if_pos rfl, bL_xor, hbl i yy x2 a b c, bL_cb _ (by omega) _ (by omega)]
      unfold va_up
      by_cases g : yy = zz
      · subst g
        rw [if_pos rfl, Nat.testBit_xor, Nat.testBit_two_pow]
        by_cases f : x2 = xx
        · subst f
          rw [decide_eq_true (show x2 < 6 ∧ yy < 6 by omega), decide_eq_true rfl, decide_eq_true rfl, Bool.true_and, Bool.true_and]
        · rw [decide_eq_false (show ¬ 8 * yy + x2 = 8 * yy + xx by omega), decide_eq_false (show ¬ xx = x2 by omega), Bool.xor_false, Bool.xor_false]
      · rw [if_neg (by omega), decide_eq_false (show ¬ 8 * yy + x2 = 8 * zz + xx by omega), Bool.xor_false]
    · rw [if_neg e, hbl i yy x2 a b c]
      by_cases g : yy < 6
      · unfold va_up; rw [if_neg (by omega)]
      · rw [decide_eq_false (by omega), Bool.false_and, Bool.false_and]
theorem WRel_slip (h : WRel W H N D p1 p2 p3 col od blk slp Sr pcl ik o bk kk) {ii a0 b0 : Nat} (hii : ii < N) (ha : a0 < 3) (hb0 : b0 < 3) : WRel W H N D p1 p2 p3 col od blk (upd slp ii (nI (3 * b0 + a0))) (upd (upd Sr (87 + ii) (dI a0)) (93 + ii) (dI b0)) pcl ik o bk (va_up kk ii (3 * b0 + a0)) := by
  obtain ⟨⟨h0, h1, h2, hW, hH, hN, hp, hi, ho, hb, hd⟩, hD, hcol, hod, hinj, hslp, hbl, hpl⟩ := h
  have un : ∀ z, z ≠ 87 + ii → z ≠ 93 + ii → upd (upd Sr (87 + ii) (dI a0)) (93 + ii) (dI b0) z = Sr z := fun z q1 q2 => by rw [pk_un q2, pk_un q1]
  refine ⟨⟨(un _ (by omega) (by omega)).trans h0, (un _ (by omega) (by omega)).trans h1, (un _ (by omega) (by omega)).trans h2, hW, hH, hN, fun yy xx a b => ⟨(un _ (by omega) (by omega)).trans (hp yy xx a b).1, (hp yy xx a b).2⟩, fun i a => ⟨(un _ (by omega) (by omega)).trans (hi i a).1, (hi i a).2⟩, fun q a => ⟨(un _ (by omega) (by omega)).trans (ho q a).1, (ho q a).2⟩, fun i yy a b => ⟨(un _ (by omega) (by omega)).trans (hb i yy a b).1, (hb i yy a b).2⟩, fun i a => ?_⟩, hD, hcol, hod, hinj, fun i a => ?_, hbl, hpl⟩
  · unfold va_up
    by_cases e : i = ii
    · subst e
      rw [if_pos rfl, pk_un (by omega), pk_us, pk_us]
      exact ⟨by congr 1; omega, by congr 1; omega, by omega⟩
    · rw [if_neg e, un _ (by omega) (by omega), un _ (by omega) (by omega)]; exact hd i a
  · unfold va_up
    by_cases e : i = ii
    · subst e; rw [if_pos rfl, pk_us]
    · rw [if_neg e, pk_un e]; exact hslp i a
theorem WRel_swap (h : WRel W H N D p1 p2 p3 col od blk slp Sr pcl ik o bk kk) {qa qb ii jj : Nat} (hii : ii < N) (hjj : jj < N) (hne : ii ≠ jj) (hqa : qa < N) (hoa : o qa = ii) (hqb : qb < N) (hob : o qb = jj) : WRel W H N D p1 p2 p3 col (upd (upd od qa (nI jj)) qb (nI ii)) blk slp (upd (upd Sr (45 + qa) (nI jj)) (45 + qb) (nI ii)) pcl ik (swO o qa qb ii jj) bk kk := by
  obtain ⟨hR, hD, hcol, hod, hinj, hslp, hbl, hpl⟩ := h
  have hab : qa ≠ qb := fun e => hne (by rw [← hoa, ← hob, e])
  have hol := RowOk_ord hR
  refine ⟨RowOk_sw hR hqa hqb hii hjj, hD, hcol, fun q hq => (swO_ok (od := od) (fun z hz => ⟨hod z hz, (hol z hz).2⟩) hii hjj q hq).1, fun q z hq hz e => ?_, hslp, hbl, hpl⟩
  have ca : ∀ x, x < N → x ≠ qa → o x ≠ ii := fun x hx n e => n (hinj x qa hx hqa (e.trans hoa.symm))
  have cb : ∀ x, x < N → x ≠ qb → o x ≠ jj := fun x hx n e => n (hinj x qb hx hqb (e.trans hob.symm))
  unfold swO at e
  by_cases e1 : q = qb
  · rw [if_pos e1] at e
    by_cases e2 : z = qb
    · omega
    · rw [if_neg e2] at e
      by_cases e3 : z = qa
      · rw [if_pos e3] at e; exact absurd e hne
      · rw [if_neg e3] at e; exact absurd e.symm (ca z hz e3)
  · rw [if_neg e1] at e
    by_cases e4 : q = qa
    · rw [if_pos e4] at e
      by_cases e2 : z = qb
      · rw [if_pos e2] at e; exact absurd e.symm hne
      · rw [if_neg e2] at e
        by_cases e3 : z = qa
        · omega
        · rw [if_neg e3] at e; exact absurd e.symm (cb z hz e2)
    · rw [if_neg e4] at e
      by_cases e2 : z = qb
      · rw [if_pos e2] at e; exact absurd e (ca q hq e4)
      · rw [if_neg e2] at e
        by_cases e3 : z = qa
        · rw [if_pos e3] at e; exact absurd e (cb q hq e1)
        · rw [if_neg e3] at e; exact hinj q z hq hz e
theorem WRel_cut (h : WRel W H N D p1 p2 p3 col od blk slp Sr pcl ik o bk kk) (fs : Nat → Nat) : WRel W H N D p1 p2 p3 col od (cutB p1 p2 p3 (papL W H) N fs blk 8) (zS slp N) (blkR Sr (cbY W N fs pcl H)) pcl ik o (cbY W N fs pcl H) (fun _ => 4) := by
  obtain ⟨⟨h0, h1, h2, hW, hH, hN, hp, hi, ho, hb, hd⟩, hD, hcol, hod, hinj, hslp, hbl, hpl⟩ := h
  have h8 : ∀ yy xx, yy < H → xx < W → pcl (6 * yy + xx) < 8 := fun yy xx a b => (hp yy xx a b).2
  refine ⟨⟨(blkR_lo (by omega)).trans h0, (blkR_lo (by omega)).trans h1, (blkR_lo (by omega)).trans h2, hW, hH, hN, fun yy xx a b => ⟨(blkR_lo (by omega)).trans (hp yy xx a b).1, (hp yy xx a b).2⟩, fun i a => ⟨(blkR_lo (by omega)).trans (hi i a).1, (hi i a).2⟩, fun q a => ⟨(blkR_lo (by omega)).trans (ho q a).1, (ho q a).2⟩, fun i yy a b => ⟨?_, cbY_lt hW a b hH⟩, fun i a => ⟨?_, ?_, show 4 < 9 by decide⟩⟩, hD, hcol, hod, hinj, fun i a => zS_at N i a, fun i yy xx a b c => ?_, hpl⟩
  · rw [show 51 + 6 * i + yy = 51 + (6 * i + yy) from by omega]; exact blkR_b (by omega)
  · unfold blkR; rw [if_neg (by omega), if_neg (by omega)]; show nI 0 = dI (4 % 3); decide
  · unfold blkR; rw [if_neg (by omega), if_neg (by omega)]; show nI 0 = dI (4 / 3); decide
  · rw [cutB_bit hW hH hpl h8 a b c 8 (Nat.le_refl 8)]
    by_cases g : xx < W ∧ yy < H
    · rw [decide_eq_true g, decide_eq_true (h8 yy xx g.2 g.1), decide_eq_true (show xx < 6 ∧ yy < 6 by omega), cbY_bit a (by omega) H hH, decide_eq_true g]
    · rw [decide_eq_false g, Bool.false_and]
      by_cases f : xx < 6 ∧ yy < 6
      · rw [cbY_bit a f.2 H hH, decide_eq_false g, Bool.false_and, Bool.and_false]
      · rw [decide_eq_false f, Bool.false_and]
end WRS
/-- a text that is well, as both read it -/
theorem told_ok {n : Nat} {lt : Nat → Nat} (hl : ∀ i, i < n → lt i < 256) {col od : Nat → Int32} {blk : Nat → Int64} {slp : Nat → Int32} : rdC n (scan lt n 0 (32, 0, 0, 0, 0, 0, 0, 0, 0, col, od, blk, slp)) = rdM n (scanM lt n 0 (32, 0, 0, 0, 0, fun _ => 0, fun _ => 0)) ∧ CM (scan lt n 0 (32, 0, 0, 0, 0, 0, 0, 0, 0, col, od, blk, slp)).2 (scanM lt n 0 (32, 0, 0, 0, 0, fun _ => 0, fun _ => 0)).2 ∧ CSok (scan lt n 0 (32, 0, 0, 0, 0, 0, 0, 0, 0, col, od, blk, slp)).2 ∧ MI (scanM lt n 0 (32, 0, 0, 0, 0, fun _ => 0, fun _ => 0)).2 := by
  have c0 : CM (32, 0, 0, 0, 0, 0, 0, 0, 0, col, od, blk, slp) (32, 0, 0, 0, 0, fun _ => 0, fun _ => 0) := by
    refine ⟨rfl, rfl, rfl, rfl, rfl, by decide, fun i h => absurd h (Nat.not_lt_zero _), ?_, ?_, ?_⟩ <;> (intro yy xx _ _; rw [bL_0, Nat.zero_testBit, Bool.and_false])
  have m0 : MI (32, 0, 0, 0, 0, fun _ => 0, fun _ => 0) := ⟨by decide, by decide, fun yy xx _ => ⟨show 0 < 8 by decide, fun h => absurd rfl h⟩⟩
  have k0 : CSok (32, 0, 0, 0, 0, 0, 0, 0, 0, col, od, blk, slp) := ⟨by decide, by decide, by decide, by decide, by decide, by decide, fun h => by omega, fun h => by omega⟩
  obtain ⟨a, b, c⟩ := CM_scan hl n 0 _ _ (by omega) c0 k0 (Or.inl rfl)
  exact ⟨CM_rd a b, b, c, MI_scan n 0 _ m0⟩
theorem CSok_HN {u : CSt} (h : CSok u) : u.2.2.2.1 ≤ 6 ∧ u.2.2.2.2.1 ≤ 6 := by
  obtain ⟨it, fg, W, H, N, D, p1, p2, p3, col, od, blk, slp⟩ := u
  exact ⟨h.2.2.2.1, h.2.2.2.2.1⟩
/-- the work and the row after a text that is well -/
theorem told_WRel {n : Nat} {lt : Nat → Nat} (hl : ∀ i, i < n → lt i < 256) {col od : Nat → Int32} {blk : Nat → Int64} {slp : Nat → Int32} {u1 : CSt} (hu : u1 = (scan lt n 0 (32, 0, 0, 0, 0, 0, 0, 0, 0, col, od, blk, slp)).2) {fg W1 H1 N1 : Nat} {ik1 pc1 : Nat → Nat} (hs : scanM lt n 0 (32, 0, 0, 0, 0, fun _ => 0, fun _ => 0) = (none, (32, fg, W1, H1, N1, ik1, pc1))) :
    u1.2.2.2.1 = H1 ∧ u1.2.2.2.2.1 = N1 ∧ WRel u1.2.2.1 u1.2.2.2.1 u1.2.2.2.2.1 u1.2.2.2.2.2.1 u1.2.2.2.2.2.2.1 u1.2.2.2.2.2.2.2.1 u1.2.2.2.2.2.2.2.2.1 u1.2.2.2.2.2.2.2.2.2.1 u1.2.2.2.2.2.2.2.2.2.2.1 u1.2.2.2.2.2.2.2.2.2.2.2.1 u1.2.2.2.2.2.2.2.2.2.2.2.2 (drP 6 W1 H1 N1 ik1 pc1) pc1 ik1 (fun i => i) (fun _ => 0) (fun _ => 4) := by
  obtain ⟨_, c, k, mi⟩ := told_ok hl (col := col) (od := od) (blk := blk) (slp := slp)
  rw [← hu] at c k
  rw [hs] at c mi
  have hn := CSok_HN k
  obtain ⟨it, fg', W, H, N, D, p1, p2, p3, col, od, blk, slp⟩ := u1
  have hit : it = 32 := c.1
  subst hit
  obtain ⟨e1, e2, e3, hw⟩ := WRel_told c mi hn.1 hn.2
  subst e1; subst e2; subst e3
  exact ⟨rfl, rfl, hw⟩
