theorem row_ex {N : Nat} {r : List Nat} (h : GoodR N r) : ∃ k, k < (PL N).length ∧ (PL N).getD k [] = erR N r := by
  obtain ⟨k, hk, e⟩ := List.getElem_of_mem (PL_mem (erR_perm h))
  exact ⟨k, hk, by rw [List.getD_eq_getElem?_getD, List.getElem?_eq_getElem hk]; exact e⟩
theorem UR_lt {N : Nat} {r : List Nat} (h : GoodR N r) : UR r < 2 ^ N :=
  Nat.lt_pow_two_of_testBit _ (fun j hj => by
    rw [UR_bit]; exact decide_eq_false (fun q => by have := h.2 j q; omega))
theorem UR_filt {N : Nat} {r π : List Nat} (hp : π.Perm (List.range N)) (hs : List.Sublist r π) : π.filter ((UR r).testBit ·) = r := by
  have e := filt_mem (hp.symm.nodup List.nodup_range) hs
  rw [← e]
  refine List.filter_congr (fun x _ => ?_)
  rw [UR_bit, e]
theorem fl_len {N S : Nat} (hN : N ≤ 6) {π : List Nat} (hp : π.Perm (List.range N)) (hS : S < 2 ^ N) : (π.filter (S.testBit ·)).length = cX (S.testBit ·) 8 := by
  rw [(hp.filter _).length_eq, filt_len]
  have e := cX_ext (p := (S.testBit ·)) (n := N) (8 - N) (fun k h1 h2 => Nat.testBit_lt_two_pow (Nat.lt_of_lt_of_le hS (Nat.pow_le_pow_right (by decide) h1)))
  rw [show N + (8 - N) = 8 from by omega] at e
  exact e.symm
theorem fl_good {N S : Nat} {π : List Nat} (hp : π.Perm (List.range N)) : GoodR N (π.filter (S.testBit ·)) :=
  ⟨(hp.symm.nodup List.nodup_range).filter _, fun x hx => List.mem_range.mp (hp.mem_iff.mp (List.mem_filter.mp hx).1)⟩
theorem oc_le {a b : Nat} (ha : a < 2 ^ 18) (hb : b < 2 ^ 18) : nI a ≤ nI b ↔ a ≤ b := nI_leI (by omega) (by omega)
/-- the search and the trial of all orders find the same -/
theorem order_eq {W H N D : Nat} {pcl ik : Nat → Nat} (hN : N ≤ 6) (hi : ∀ i, i < N → D.testBit i = decide (8 ≤ ik i) ∧ ik i < 16) :
    ((grF N D (wtY pcl W H) (fun i => ik i % 8) 6 [] 0 1 (false, 0, nI 0)).1 = false ∧ (fbF (lsK W H N pcl ik) (PL N).length).1 = -9) ∨
    ((grF N D (wtY pcl W H) (fun i => ik i % 8) 6 [] 0 1 (false, 0, nI 0)).1 = true ∧ (fbF (lsK W H N pcl ik) (PL N).length).1 ≠ -9 ∧ (fbF (lsK W H N pcl ik) (PL N).length).1 = nI (grF N D (wtY pcl W H) (fun i => ik i % 8) 6 [] 0 1 (false, 0, nI 0)).2.1 ∧
      ∀ i, i < N → ((grF N D (wtY pcl W H) (fun i => ik i % 8) 6 [] 0 1 (false, 0, nI 0)).2.2 >>> (nI (3 * (N - 1 - i)) &&& 31)) &&& nI 7 = nI (pfO N (fbF (lsK W H N pcl ik) (PL N).length).2 i)) := by
  have hN7 : N < 7 := by omega
  have h64 := pow6 hN
  obtain ⟨-, g2, g3⟩ := gr_spec (N := N) (D := D) (P := wtY pcl W H) (cl := fun i => ik i % 8) 6 [] (false, 0, nI 0) ⟨List.nodup_nil, fun x hx => absurd hx List.not_mem_nil⟩ (by show N ≤ 0 + 6; omega)
  have e0 : grF N D (wtY pcl W H) (fun i => ik i % 8) 6 [] (UR []) (CSr D (fun i => ik i % 8) []) (false, 0, nI 0) = grF N D (wtY pcl W H) (fun i => ik i % 8) 6 [] 0 1 (false, 0, nI 0) := rfl
  rw [e0] at g2 g3
  generalize hσ : grF N D (wtY pcl W H) (fun i => ik i % 8) 6 [] 0 1 (false, 0, nI 0) = σ at g2 g3 ⊢
  have snd := g2 (fun h => Bool.noConfusion h)
  have dom : ∀ r, GoodR N r → covR D (wtY pcl W H) (fun i => ik i % 8) r → Dom σ r.length (octI (erR N r)) := fun r h1 h2 => g3 r (by rw [List.nil_append]; exact h1) (by rw [List.nil_append]; exact h2)
  -- sets and rows
  have cov : ∀ k, k < (PL N).length → ∀ S, S < 2 ^ N → ((nI (wtY pcl W H) &&& (nI (mkP (fun z => gvF (pfO N k) ik z N) S (S + 1)) ^^^ (-1))) = 0 ↔ covR D (wtY pcl W H) (fun i => ik i % 8) (((PL N).getD k []).filter (S.testBit ·))) := fun k hk S hS => by
    rw [← cby_mk hN (fun q hq => pfO_lt hN7 hk q hq) (pf_inj hN7 hk) hi hS, cby_row, pf_map hN7 hk]
    exact Iff.rfl
  have ls : ∀ k, k < (PL N).length → (lsK W H N pcl ik k = -9 ∧ ∀ S, S < 2 ^ N → ¬ covR D (wtY pcl W H) (fun i => ik i % 8) (((PL N).getD k []).filter (S.testBit ·))) ∨ (∃ j, j < 2 ^ N ∧ lsK W H N pcl ik k = nI j ∧ covR D (wtY pcl W H) (fun i => ik i % 8) (((PL N).getD k []).filter (j.testBit ·)) ∧ ∀ S, S < 2 ^ N → covR D (wtY pcl W H) (fun i => ik i % 8) (((PL N).getD k []).filter (S.testBit ·)) → cX (j.testBit ·) 8 ≤ cX (S.testBit ·) 8) := fun k hk => by
    rcases lsM_min (due := wtY pcl W H) (mks := fun z => mkP (fun z => gvF (pfO N k) ik z N) z (z + 1)) (2 ^ N) h64 with ⟨h1, h2⟩ | ⟨j, h1, h2, h3, h4⟩
    · exact Or.inl ⟨h1, fun S hS hc => h2 S hS ((cov k hk S hS).mpr hc)⟩
    · exact Or.inr ⟨j, h1, h2, (cov k hk j h1).mp h3, fun S hS hc => h4 S hS ((cov k hk S hS).mpr hc)⟩
  have pp : ∀ j, j < 2 ^ N → (onI (nI j) 8).toInt.toNat = cX (j.testBit ·) 8 ∧ onI (nI j) 8 = nI (cX (j.testBit ·) 8) := fun j hj => by
    have h1 := on_c j (by omega)
    have h2 := cX_le (j.testBit ·) 8
    refine ⟨?_, h1⟩
    rw [h1, nI_toInt (by omega)]; rfl
  have fb := fb_spec (LSk := lsK W H N pcl ik) (pp := fun k => (onI (lsK W H N pcl ik k) 8).toInt.toNat) (PL N).length (fun k hk => by
    rcases ls k hk with ⟨h1, _⟩ | ⟨j, h1, h2, _⟩
    · exact Or.inl h1
    · refine Or.inr ?_
      show onI (lsK W H N pcl ik k) 8 = nI ((onI (lsK W H N pcl ik k) 8).toInt.toNat) ∧ (onI (lsK W H N pcl ik k) 8).toInt.toNat ≤ 8
      rw [h2, (pp j h1).1]
      exact ⟨(pp j h1).2, cX_le _ 8⟩)
  -- a good row that makes all gives an order that needs no more
  have back : ∀ r, GoodR N r → covR D (wtY pcl W H) (fun i => ik i % 8) r → ∃ k, k < (PL N).length ∧ (PL N).getD k [] = erR N r ∧ lsK W H N pcl ik k ≠ -9 ∧ (onI (lsK W H N pcl ik k) 8).toInt.toNat ≤ r.length := fun r h1 h2 => by
    obtain ⟨k, hk, e⟩ := row_ex h1
    have hf : ((PL N).getD k []).filter ((UR r).testBit ·) = r := by rw [e]; exact UR_filt (erR_perm h1) (erR_sub N r)
    have hU := UR_lt h1
    refine ⟨k, hk, e, ?_⟩
    rcases ls k hk with ⟨q1, q2⟩ | ⟨j, q1, q2, q3, q4⟩
    · exact absurd (by rw [hf]; exact h2) (q2 _ hU)
    · rw [q2, (pp j q1).1]
      refine ⟨nI_ne9 (by omega), ?_⟩
      have := q4 _ hU (by rw [hf]; exact h2)
      rw [← fl_len hN (PL_at hN7 hk).2.1 hU, hf] at this
      exact this
  rcases fb with ⟨f1, f2⟩ | ⟨k, f1, f2, f3, f4, f5⟩
  · refine Or.inl ⟨?_, by rw [f1]⟩
    cases q : σ.1 with
    | false => rfl
    | true =>
      obtain ⟨r, h1, h2, _⟩ := snd q
      obtain ⟨k, hk, _, h3, _⟩ := back r h1 h2
      exact absurd (f2 k hk) h3
  · obtain ⟨j, l1, l2, l3, l4⟩ := (ls k f1).resolve_left (fun q => f2 q.1)
    have hPk := PL_at hN7 f1
    have hpk : (onI (lsK W H N pcl ik k) 8).toInt.toNat = cX (j.testBit ·) 8 := by rw [l2]; exact (pp j l1).1
    have hrl := fl_len hN hPk.2.1 l1
    have hrg := fl_good (S := j) hPk.2.1
    have hd := dom _ hrg l3
    rw [hrl] at hd
    obtain ⟨d1, d2⟩ := hd
    obtain ⟨r0, s1, s2, s3, s4⟩ := snd d1
    obtain ⟨k0, b1, b2, b3, b4⟩ := back r0 s1 s2
    have m1 := f4 k0 b1 b3
    replace m1 : (onI (lsK W H N pcl ik k) 8).toInt.toNat ≤ (onI (lsK W H N pcl ik k0) 8).toInt.toNat := m1
    rw [hpk] at m1
    have few : σ.2.1 = cX (j.testBit ·) 8 := by
      rcases d2 with q | ⟨q, _⟩
      · omega
      · exact q
    have hrow : σ.2.2 ≤ octI (erR N (((PL N).getD k []).filter (j.testBit ·))) := by
      rcases d2 with q | ⟨_, q⟩
      · omega
      · exact q
    -- kk is the first
    have hk0 : k ≤ k0 := Nat.le_of_not_lt (fun q => by
      have := f5 k0 q b3
      replace this : (onI (lsK W H N pcl ik k) 8).toInt.toNat < (onI (lsK W H N pcl ik k0) 8).toInt.toNat := this
      rw [hpk] at this
      omega)
    have hP0 := PL_at hN7 b1
    have c1 : ocN ((PL N).getD k []) ≤ ocN ((PL N).getD k0 []) := by
      have := incL_le (PL_inc N hN7) (j := k) (k0 - k) (by rw [show k + (k0 - k) = k0 from by omega]; exact b1)
      rw [show k + (k0 - k) = k0 from by omega] at this
      exact this
    obtain ⟨k2, e1, e2⟩ := row_ex hrg
    have hP2 := PL_at hN7 e1
    have c2 : ocN ((PL N).getD k2 []) ≤ ocN ((PL N).getD k []) := by
      rw [e2]; exact erR_min hN hrg hPk.2.1 List.filter_sublist
    rw [s4, ← b2, ← e2, hP0.2.2.1, hP2.2.2.1, oc_le hP0.2.2.2.1 hP2.2.2.2.1] at hrow
    have ceq : ocN ((PL N).getD k0 []) = ocN ((PL N).getD k []) := by omega
    have best : σ.2.2 = octI ((PL N).getD k []) := by rw [s4, ← b2, hP0.2.2.1, hPk.2.2.1, ceq]
    refine Or.inr ⟨d1, ?_, ?_, fun i hi => ?_⟩
    · rw [f3]; show nI _ ≠ -9; rw [hpk]; exact nI_ne9 (by have := cX_le (j.testBit ·) 8; omega)
    · rw [f3, few]; show nI _ = nI _; rw [hpk]
    · rw [f3, best, hPk.2.2.2.2 i hi]
      show _ = nI (pfO N k i)
      unfold pfO; rw [if_pos hi]
