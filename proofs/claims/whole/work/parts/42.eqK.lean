/-! the best order: the search, and all orders tried -/
/-- what the search has found is no worse -/
def Dom (σ : SrS) (len : Nat) (row : Int32) : Prop := σ.1 = true ∧ (σ.2.1 < len ∨ (σ.2.1 = len ∧ σ.2.2 ≤ row))
theorem stl_dom (σ : SrS) (len : Nat) (row : Int32) : Dom (stlF σ len row) len row := by
  unfold stlF
  by_cases h : σ.1 = false ∨ len < σ.2.1 ∨ (len = σ.2.1 ∧ row < σ.2.2)
  · rw [if_pos h]; exact ⟨rfl, Or.inr ⟨rfl, Int32.le_refl row⟩⟩
  · rw [if_neg h]
    have h1 : σ.1 = true := by
      cases q : σ.1 with
      | true => rfl
      | false => exact absurd (Or.inl q) h
    refine ⟨h1, ?_⟩
    rcases Nat.lt_trichotomy σ.2.1 len with q | q | q
    · exact Or.inl q
    · exact Or.inr ⟨q, Int32.not_lt.mp (fun z => h (Or.inr (Or.inr ⟨q.symm, z⟩)))⟩
    · exact absurd (Or.inr (Or.inl q)) h
theorem stl_mono {σ : SrS} {l len : Nat} {w row : Int32} (hd : Dom σ l w) : Dom (stlF σ len row) l w := by
  unfold stlF
  by_cases h : σ.1 = false ∨ len < σ.2.1 ∨ (len = σ.2.1 ∧ row < σ.2.2)
  · rw [if_pos h]
    refine ⟨rfl, ?_⟩
    obtain ⟨h1, h2⟩ := hd
    rcases h with q | q | ⟨q, z⟩
    · rw [h1] at q; exact Bool.noConfusion q
    · rcases h2 with h2 | ⟨h2, _⟩
      · exact Or.inl (by show len < l; omega)
      · exact Or.inl (by show len < l; omega)
    · rcases h2 with h2 | ⟨h2, h3⟩
      · exact Or.inl (by show len < l; omega)
      · exact Or.inr ⟨by show len = l; omega, Int32.le_trans (Int32.le_of_lt z) h3⟩
  · rw [if_neg h]; exact hd
section GR
variable {N D P : Nat} {cl : Nat → Nat}
/-- the colours that a row makes -/
def CSr (D : Nat) (cl : Nat → Nat) (r : List Nat) : Nat := r.foldl (fun cs i => cs ||| overN D cl cs i) 1
theorem CSr_app (r : List Nat) (i : Nat) : CSr D cl (r ++ [i]) = CSr D cl r ||| overN D cl (CSr D cl r) i := by
  unfold CSr; rw [List.foldl_append]; rfl
def covR (D P : Nat) (cl : Nat → Nat) (r : List Nat) : Prop := (nI P &&& (nI (CSr D cl r) ^^^ (-1))) = 0
def SndR (N D P : Nat) (cl : Nat → Nat) (σ : SrS) : Prop := σ.1 = true → ∃ r, GoodR N r ∧ covR D P cl r ∧ σ.2.1 = r.length ∧ σ.2.2 = octI (erR N r)
theorem stl_snd {σ : SrS} {r : List Nat} (hr : GoodR N r) (hc : covR D P cl r) (h : SndR N D P cl σ) : SndR N D P cl (stlF σ r.length (octI (erR N r))) := by
  unfold stlF
  split
  · exact fun _ => ⟨r, hr, hc, rfl, rfl⟩
  · exact h
theorem GoodR_app {r : List Nat} {x : Nat} (h : GoodR N r) (hx : x < N) (hn : x ∉ r) : GoodR N (r ++ [x]) := by
  refine ⟨List.nodup_append.mpr ⟨h.1, by simp, fun a ha b hb e => ?_⟩, fun z hz => ?_⟩
  · rw [List.mem_singleton.mp hb] at e; exact hn (e ▸ ha)
  · rcases List.mem_append.mp hz with q | q
    · exact h.2 z q
    · rw [List.mem_singleton.mp q]; exact hx
theorem gr_spec : ∀ (d : Nat) (r : List Nat) (σ : SrS), GoodR N r → N ≤ r.length + d →
    (∀ l w, Dom σ l w → Dom (grF N D P cl d r (UR r) (CSr D cl r) σ) l w) ∧ (SndR N D P cl σ → SndR N D P cl (grF N D P cl d r (UR r) (CSr D cl r) σ)) ∧
    ∀ t, GoodR N (r ++ t) → covR D P cl (r ++ t) → Dom (grF N D P cl d r (UR r) (CSr D cl r) σ) (r ++ t).length (octI (erR N (r ++ t))) := by
  intro d
  induction d with
  | zero =>
    intro r σ hr hN
    by_cases hc : covR D P cl r
    · rw [grF_done hc]
      refine ⟨fun l w h => stl_mono h, fun h => stl_snd hr hc h, fun t ht hct => ?_⟩
      have h1 := stl_dom σ r.length (octI (erR N r))
      cases t with
      | nil => rw [List.append_nil]; exact h1
      | cons x t =>
        refine ⟨h1.1, Or.inl ?_⟩
        rw [List.length_append, List.length_cons]
        rcases h1.2 with q | q
        · show (stlF σ r.length (octI (erR N r))).2.1 < _; omega
        · show (stlF σ r.length (octI (erR N r))).2.1 < _; omega
    · rw [grF_stop hc (Or.inl hN)]
      refine ⟨fun l w h => h, fun h => h, fun t ht hct => ?_⟩
      cases t with
      | nil => rw [List.append_nil] at hct; exact absurd hct hc
      | cons x t => have := ht.len; rw [List.length_append, List.length_cons] at this; omega
  | succ d ih =>
    intro r σ hr hN
    by_cases hc : covR D P cl r
    · rw [grF_done hc]
      refine ⟨fun l w h => stl_mono h, fun h => stl_snd hr hc h, fun t ht hct => ?_⟩
      have h1 := stl_dom σ r.length (octI (erR N r))
      cases t with
      | nil => rw [List.append_nil]; exact h1
      | cons x t =>
        refine ⟨h1.1, Or.inl ?_⟩
        rw [List.length_append, List.length_cons]
        rcases h1.2 with q | q
        · show (stlF σ r.length (octI (erR N r))).2.1 < _; omega
        · show (stlF σ r.length (octI (erR N r))).2.1 < _; omega
    · by_cases hs : N ≤ r.length ∨ (σ.1 = true ∧ σ.2.1 ≤ r.length)
      · rw [grF_stop hc hs]
        refine ⟨fun l w h => h, fun h => h, fun t ht hct => ?_⟩
        cases t with
        | nil => rw [List.append_nil] at hct; exact absurd hct hc
        | cons x t =>
          have hl := ht.len
          rw [List.length_append, List.length_cons] at hl ⊢
          rcases hs with q | q
          · omega
          · exact ⟨q.1, Or.inl (by omega)⟩
      · rw [grF_loop hc hs]
        -- the loop over the inks
        have step : ∀ (L : List Nat) (τ : SrS), (∀ x ∈ L, x < N) →
            (∀ l w, Dom τ l w → Dom (L.foldl (grS N D P cl d r (UR r) (CSr D cl r)) τ) l w) ∧ (SndR N D P cl τ → SndR N D P cl (L.foldl (grS N D P cl d r (UR r) (CSr D cl r)) τ)) ∧
            ∀ x ∈ L, ∀ t, GoodR N (r ++ x :: t) → covR D P cl (r ++ x :: t) → Dom (L.foldl (grS N D P cl d r (UR r) (CSr D cl r)) τ) (r ++ x :: t).length (octI (erR N (r ++ x :: t))) := by
          intro L
          induction L with
          | nil => intro τ _; exact ⟨fun l w h => h, fun h => h, fun x hx => absurd hx List.not_mem_nil⟩
          | cons i L ihL =>
            intro τ hL
            have hi := hL i List.mem_cons_self
            obtain ⟨m1, m2, m3⟩ := ihL (grS N D P cl d r (UR r) (CSr D cl r) τ i) (fun x hx => hL x (List.mem_cons_of_mem _ hx))
            rw [List.foldl_cons]
            by_cases hu : i ∈ r
            · have e : grS N D P cl d r (UR r) (CSr D cl r) τ i = τ := by
                unfold grS; rw [UR_bit, decide_eq_true hu, if_pos rfl]
              rw [e] at m1 m2 m3 ⊢
              refine ⟨m1, m2, fun x hx t ht hct => ?_⟩
              rcases List.mem_cons.mp hx with q | q
              · exfalso
                have := (List.nodup_append.mp ht.1).2.2 x (q ▸ hu) x List.mem_cons_self
                exact this rfl
              · exact m3 x q t ht hct
            · have e : grS N D P cl d r (UR r) (CSr D cl r) τ i = grF N D P cl d (r ++ [i]) (UR (r ++ [i])) (CSr D cl (r ++ [i])) τ := by
                unfold grS; rw [UR_bit, decide_eq_false hu, if_neg (by decide), UR_app, CSr_app]
              obtain ⟨g1, g2, g3⟩ := ih (r ++ [i]) τ (GoodR_app hr hi hu) (by rw [List.length_append, List.length_singleton]; omega)
              rw [e] at m1 m2 m3 ⊢
              refine ⟨fun l w h => m1 l w (g1 l w h), fun h => m2 (g2 h), fun x hx t ht hct => ?_⟩
              rcases List.mem_cons.mp hx with q | q
              · subst q
                have a1 : r ++ x :: t = (r ++ [x]) ++ t := by simp
                rw [a1] at ht hct ⊢
                exact m1 _ _ (g3 t ht hct)
              · exact m3 x q t ht hct
        obtain ⟨s1, s2, s3⟩ := step (List.range N) σ (fun x hx => List.mem_range.mp hx)
        refine ⟨s1, s2, fun t ht hct => ?_⟩
        cases t with
        | nil => rw [List.append_nil] at hct; exact absurd hct hc
        | cons x t => exact s3 x (List.mem_range.mpr (ht.2 x (List.mem_append_right _ List.mem_cons_self))) t ht hct
end GR
/-! all orders tried -/
theorem lsM_min {due : Nat} {mks : Nat → Nat} : ∀ n, n ≤ 64 → (lsM due mks n = -9 ∧ ∀ i, i < n → ¬ (nI due &&& (nI (mks i) ^^^ (-1))) = 0) ∨ (∃ j, j < n ∧ lsM due mks n = nI j ∧ (nI due &&& (nI (mks j) ^^^ (-1))) = 0 ∧ ∀ i, i < n → (nI due &&& (nI (mks i) ^^^ (-1))) = 0 → cX (j.testBit ·) 8 ≤ cX (i.testBit ·) 8)
  | 0, _ => Or.inl ⟨rfl, fun i h => absurd h (Nat.not_lt_zero _)⟩
  | n + 1, hn => by
    have ih := lsM_min (due := due) (mks := mks) n (by omega)
    have hon := on_c n (by omega)
    have hle := cX_le (n.testBit ·) 8
    unfold lsM
    by_cases c : (nI due &&& (nI (mks n) ^^^ (-1))) = 0
    · rcases ih with ⟨h1, h2⟩ | ⟨j, h1, h2, h3, h4⟩
      · rw [if_pos ⟨Or.inl h1, c⟩]
        refine Or.inr ⟨n, by omega, rfl, c, fun i hi hc => ?_⟩
        by_cases e : i = n
        · rw [e]; exact Nat.le_refl _
        · exact absurd hc (h2 i (by omega))
      · have hjle := cX_le (j.testBit ·) 8
        rw [h2, hon, on_c j (by omega)]
        by_cases g : cX (n.testBit ·) 8 < cX (j.testBit ·) 8
        · rw [if_pos ⟨Or.inr (nI_lt g (by omega)), c⟩]
          refine Or.inr ⟨n, by omega, rfl, c, fun i hi hc => ?_⟩
          by_cases e : i = n
          · rw [e]; exact Nat.le_refl _
          · have := h4 i (by omega) hc; omega
        · rw [if_neg (fun q => q.1.elim (nI_ne9 (by omega)) (fun z => g ((nI_ltI (by omega) (by omega)).mp z)))]
          refine Or.inr ⟨j, by omega, rfl, h3, fun i hi hc => ?_⟩
          by_cases e : i = n
          · rw [e]; omega
          · exact h4 i (by omega) hc
    · rw [if_neg (fun q => c q.2)]
      rcases ih with ⟨h1, h2⟩ | ⟨j, h1, h2, h3, h4⟩
      · refine Or.inl ⟨h1, fun i hi => ?_⟩
        by_cases e : i = n
        · rw [e]; exact c
        · exact h2 i (by omega)
      · refine Or.inr ⟨j, by omega, h2, h3, fun i hi hc => ?_⟩
        by_cases e : i = n
        · rw [e] at hc; exact absurd hc c
        · exact h4 i (by omega) hc
/-- the first of the best -/
theorem fb_spec {LSk : Nat → Int32} {pp : Nat → Nat} : ∀ n, (∀ k, k < n → LSk k = -9 ∨ (onI (LSk k) 8 = nI (pp k) ∧ pp k ≤ 8)) → (fbF LSk n = (-9, 0) ∧ ∀ k, k < n → LSk k = -9) ∨ (∃ k, k < n ∧ LSk k ≠ -9 ∧ fbF LSk n = (nI (pp k), k) ∧ (∀ j, j < n → LSk j ≠ -9 → pp k ≤ pp j) ∧ ∀ j, j < k → LSk j ≠ -9 → pp k < pp j)
  | 0, _ => Or.inl ⟨rfl, fun k h => absurd h (Nat.not_lt_zero _)⟩
  | n + 1, h => by
    have ih := fb_spec (LSk := LSk) (pp := pp) n (fun k hk => h k (by omega))
    have hn := h n (by omega)
    unfold fbF
    by_cases c : LSk n = -9
    · rw [if_neg (fun q => q.1 c)]
      rcases ih with ⟨h1, h2⟩ | ⟨k, h1, h2, h3, h4, h5⟩
      · refine Or.inl ⟨h1, fun k hk => ?_⟩
        by_cases e : k = n
        · rw [e]; exact c
        · exact h2 k (by omega)
      · refine Or.inr ⟨k, by omega, h2, h3, fun j hj hne => ?_, h5⟩
        by_cases e : j = n
        · rw [e] at hne; exact absurd c hne
        · exact h4 j (by omega) hne
    · obtain ⟨e1, e2⟩ := hn.resolve_left c
      rcases ih with ⟨h1, h2⟩ | ⟨k, h1, h2, h3, h4, h5⟩
      · rw [if_pos ⟨c, Or.inl (by rw [h1])⟩, e1]
        refine Or.inr ⟨n, by omega, c, rfl, fun j hj hne => ?_, fun j hj hne => absurd (h2 j hj) hne⟩
        by_cases e : j = n
        · rw [e]; exact Nat.le_refl _
        · exact absurd (h2 j (by omega)) hne
      · have e3 := ((h k (by omega)).resolve_left h2).2
        rw [h3, e1]
        by_cases g : pp n < pp k
        · rw [if_pos ⟨c, Or.inr (nI_lt g (by omega))⟩]
          refine Or.inr ⟨n, by omega, c, rfl, fun j hj hne => ?_, fun j hj hne => ?_⟩
          · by_cases e : j = n
            · rw [e]; exact Nat.le_refl _
            · have := h4 j (by omega) hne; omega
          · have := h4 j hj hne; omega
        · rw [if_neg (fun q => q.2.elim (nI_ne9 (by omega)) (fun z => g ((nI_ltI (by omega) (by omega)).mp z)))]
          refine Or.inr ⟨k, by omega, h2, rfl, fun j hj hne => ?_, h5⟩
          by_cases e : j = n
          · rw [e]; omega
          · exact h4 j (by omega) hne
/-! a set of inks in an order is a row -/
theorem cby_row {D : Nat} {cl o : Nat → Nat} (S : Nat) : ∀ q, cbyF D o cl S q = CSr D cl (((List.range q).map o).filter (S.testBit ·))
  | 0 => rfl
  | q + 1 => by
    unfold cbyF
    rw [cby_row S q, List.range_succ, List.map_append, List.filter_append]
    cases h : S.testBit (o q) with
    | true =>
      rw [if_pos rfl, List.map_singleton, List.filter_cons_of_pos (by exact h), List.filter_nil, CSr_app]
    | false =>
      rw [if_neg (by decide), List.map_singleton, List.filter_cons_of_neg (by rw [h]; decide), List.filter_nil, List.append_nil]
theorem filt_len {S : Nat} : ∀ n, ((List.range n).filter (S.testBit ·)).length = cX (S.testBit ·) n
  | 0 => rfl
  | n + 1 => by
    rw [List.range_succ, List.filter_append, List.length_append, filt_len n]
    show cX (S.testBit ·) n + _ = cX (S.testBit ·) n + (if S.testBit n then 1 else 0)
    cases h : S.testBit n with
    | true => rw [List.filter_cons_of_pos (by exact h)]; rfl
    | false => rw [List.filter_cons_of_neg (by rw [h]; decide)]; rfl
theorem filt_mem : ∀ {π r : List Nat}, π.Nodup → List.Sublist r π → π.filter (fun x => decide (x ∈ r)) = r
  | [], r, _, hs => by rw [List.sublist_nil.mp hs]; rfl
  | p :: π, r, hn, hs => by
    obtain ⟨h1, h2⟩ := List.nodup_cons.mp hn
    cases hs with
    | cons _ h =>
      have : p ∉ r := fun q => h1 (h.subset q)
      rw [List.filter_cons_of_neg (by simp [this])]
      exact filt_mem h2 h
    | cons_cons _ h =>
      rename_i r
      rw [List.filter_cons_of_pos (by simp)]
      congr 1
      have e := filt_mem h2 h
      rw [← e]
      refine List.filter_congr (fun x hx => ?_)
      have hxp : x ≠ p := fun q => h1 (q ▸ hx)
      rw [decide_eq_decide, e, List.mem_cons]
      exact ⟨fun q => q.resolve_left hxp, Or.inr⟩
theorem pf_map {N k : Nat} (hN : N < 7) (hk : k < (PL N).length) : (List.range N).map (pfO N k) = (PL N).getD k [] := by
  have h1 := (PL_at hN hk).1
  apply List.ext_getElem?
  intro i
  rcases Nat.lt_or_ge i N with hi | hi
  · rw [List.getElem?_map, List.getElem?_range hi]
    unfold pfO
    show some (if i < N then _ else _) = _
    rw [if_pos hi, List.getD_eq_getElem?_getD, List.getElem?_eq_getElem (by omega)]
    rfl
  · rw [List.getElem?_eq_none (by rw [List.length_map, List.length_range]; exact hi), List.getElem?_eq_none (by omega)]
theorem pf_inj {N k : Nat} (hN : N < 7) (hk : k < (PL N).length) : ∀ q z, q < N → z < N → pfO N k q = pfO N k z → q = z := by
  intro q z hq hz e
  have hnd : ((List.range N).map (pfO N k)).Nodup := by
    rw [pf_map hN hk]; exact (PL_at hN hk).2.1.symm.nodup List.nodup_range
  rcases Nat.lt_trichotomy q z with h | h | h
  · have := List.pairwise_iff_getElem.mp hnd q z (by rw [List.length_map, List.length_range]; exact hq) (by rw [List.length_map, List.length_range]; exact hz) h
    simp at this
    exact absurd e this
  · exact h
  · have := List.pairwise_iff_getElem.mp hnd z q (by rw [List.length_map, List.length_range]; exact hz) (by rw [List.length_map, List.length_range]; exact hq) h
    simp at this
    exact absurd e.symm this
