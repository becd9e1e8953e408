/-! the best order: rows -/
def ocN : List Nat → Nat
  | [] => 0
  | a :: L => a * 8 ^ L.length + ocN L
theorem ocN_lt : ∀ L : List Nat, (∀ x ∈ L, x < 8) → ocN L < 8 ^ L.length
  | [], _ => by show 0 < 1; decide
  | a :: L, h => by
    have ih := ocN_lt L (fun x hx => h x (List.mem_cons_of_mem _ hx))
    have ha := h a List.mem_cons_self
    show a * 8 ^ L.length + ocN L < 8 ^ (L.length + 1)
    rw [Nat.pow_succ]
    have : a * 8 ^ L.length ≤ 7 * 8 ^ L.length := Nat.mul_le_mul_right _ (by omega)
    omega
theorem ocN_hd {a b : Nat} {L M : List Nat} (hab : a < b) (hl : L.length = M.length) (h : ∀ x ∈ L, x < 8) : ocN (a :: L) ≤ ocN (b :: M) := by
  have h1 := ocN_lt L h
  show a * 8 ^ L.length + ocN L ≤ b * 8 ^ M.length + ocN M
  rw [← hl]
  have : (a + 1) * 8 ^ L.length ≤ b * 8 ^ L.length := Nat.mul_le_mul_right _ (by omega)
  rw [Nat.add_mul, Nat.one_mul] at this
  omega
def mg : List Nat → List Nat → List Nat
  | [], s => s
  | c :: C, s => erS c (mg C) s
theorem erS_perm {c : Nat} {K : List Nat → List Nat} {C : List Nat} (hK : ∀ s, (K s).Perm (C ++ s)) : ∀ s, (erS c K s).Perm (c :: C ++ s)
  | [] => by show (c :: K []).Perm (c :: (C ++ [])); exact (hK []).cons c
  | x :: r => by
    unfold erS
    by_cases h : x < c
    · rw [if_pos h]
      exact ((erS_perm hK r).cons x).trans List.perm_middle.symm
    · rw [if_neg h]; exact (hK (x :: r)).cons c
theorem mg_perm : ∀ C s, (mg C s).Perm (C ++ s)
  | [], s => List.Perm.refl s
  | c :: C, s => erS_perm (mg_perm C) s
theorem erS_sub {c : Nat} {K : List Nat → List Nat} (hK : ∀ s, List.Sublist s (K s)) : ∀ s, List.Sublist s (erS c K s)
  | [] => List.nil_sublist _
  | x :: r => by
    unfold erS
    by_cases h : x < c
    · rw [if_pos h]; exact List.Sublist.cons_cons x (erS_sub hK r)
    · rw [if_neg h]; exact (hK (x :: r)).cons c
theorem mg_sub : ∀ C s, List.Sublist s (mg C s)
  | [], s => List.Sublist.refl s
  | _ :: C, s => erS_sub (mg_sub C) s
theorem mg_cc {c x : Nat} {C s : List Nat} : mg (c :: C) (x :: s) = if x < c then x :: mg (c :: C) s else c :: mg C (x :: s) := rfl
theorem mg_min : ∀ (π C s : List Nat), C.Pairwise (· < ·) → π.Nodup → π.Perm (C ++ s) → List.Sublist s π → (∀ x ∈ π, x < 8) → ocN (mg C s) ≤ ocN π
  | [], C, s, _, _, hp, _, _ => by
    have := hp.length_eq
    rw [List.length_append] at this
    have h1 : C = [] := List.length_eq_zero_iff.mp (by simp at this; omega)
    have h2 : s = [] := List.length_eq_zero_iff.mp (by simp at this; omega)
    rw [h1, h2]; exact Nat.le_refl _
  | p :: π, [], s, _, _, hp, hs, _ => by
    have := hs.eq_of_length hp.length_eq.symm
    rw [this]; exact Nat.le_refl _
  | p :: π, c :: C, s, hC, hn, hp, hs, h8 => by
    obtain ⟨hC1, hC2⟩ := List.pairwise_cons.mp hC
    obtain ⟨hn1, hn2⟩ := List.nodup_cons.mp hn
    have hm8 : ∀ L : List Nat, (∀ x ∈ L, x ∈ p :: π) → ∀ x ∈ L, x < 8 := fun L h x hx => h8 x (h x hx)
    have hpm : p ∈ c :: C ++ s := hp.mem_iff.mp List.mem_cons_self
    have h8t : ∀ x ∈ π, x < 8 := fun x hx => h8 x (List.mem_cons_of_mem _ hx)
    have hlen := hp.length_eq
    cases s with
    | nil =>
      show ocN (c :: mg C []) ≤ _
      by_cases e : p = c
      · subst e
        have hp' : π.Perm (C ++ []) := List.Perm.cons_inv hp
        have ih := mg_min π C [] hC2 hn2 hp' (List.nil_sublist _) h8t
        have hl := (mg_perm C []).length_eq.trans hp'.length_eq.symm
        show p * 8 ^ (mg C []).length + ocN (mg C []) ≤ p * 8 ^ π.length + ocN π
        rw [hl]; omega
      · have hpC : p ∈ C := by
          rw [List.append_nil] at hpm
          exact (List.mem_cons.mp hpm).resolve_left e
        refine ocN_hd (hC1 p hpC) ?_ (hm8 _ (fun x hx => hp.mem_iff.mpr (List.mem_cons_of_mem _ ((mg_perm C []).mem_iff.mp hx))))
        have := (mg_perm C []).length_eq
        simp at this hlen ⊢; omega
    | cons x s =>
      have hx8 : x < 8 := h8 x (hp.mem_iff.mpr (by simp))
      rw [mg_cc]
      by_cases h : x < c
      · rw [if_pos h]
        by_cases e : p = x
        · subst e
          have hp' : π.Perm (c :: C ++ s) := List.Perm.cons_inv (hp.trans List.perm_middle)
          have ih := mg_min π (c :: C) s hC hn2 hp' (List.Sublist.of_cons_cons hs) h8t
          have hl := (mg_perm (c :: C) s).length_eq.trans hp'.length_eq.symm
          show p * 8 ^ (mg (c :: C) s).length + ocN (mg (c :: C) s) ≤ p * 8 ^ π.length + ocN π
          rw [hl]; omega
        · have hs2 : List.Sublist (x :: s) π := by
            cases hs with
            | cons _ h => exact h
            | cons_cons _ h => exact absurd rfl e
          have hpC : p ∈ c :: C := by
            rcases List.mem_append.mp hpm with q | q
            · exact q
            · exact absurd (hs2.subset q) hn1
          have hxp : x < p := by
            rcases List.mem_cons.mp hpC with q | q
            · rw [q]; exact h
            · exact Nat.lt_trans h (hC1 p q)
          refine ocN_hd hxp ?_ (hm8 _ (fun z hz => hp.mem_iff.mpr ?_))
          · have := (mg_perm (c :: C) s).length_eq
            simp at this hlen ⊢; omega
          · have := (mg_perm (c :: C) s).mem_iff.mp hz
            rcases List.mem_append.mp this with q | q
            · exact List.mem_append_left _ q
            · exact List.mem_append_right _ (List.mem_cons_of_mem _ q)
      · rw [if_neg h]
        have hnd : (c :: C ++ x :: s).Nodup := hp.nodup hn
        have hcx : c ≠ x := fun q => by
          have := (List.nodup_cons.mp hnd).1
          exact this (List.mem_append_right _ (by rw [q]; exact List.mem_cons_self))
        by_cases e : p = c
        · subst e
          have hs2 : List.Sublist (x :: s) π := by
            cases hs with
            | cons _ h => exact h
            | cons_cons _ h => exact absurd rfl hcx
          have hp' : π.Perm (C ++ x :: s) := List.Perm.cons_inv hp
          have ih := mg_min π C (x :: s) hC2 hn2 hp' hs2 h8t
          have hl := (mg_perm C (x :: s)).length_eq.trans hp'.length_eq.symm
          show p * 8 ^ (mg C (x :: s)).length + ocN (mg C (x :: s)) ≤ p * 8 ^ π.length + ocN π
          rw [hl]; omega
        · have hcp : c < p := by
            rcases List.mem_append.mp hpm with q | q
            · exact hC1 p ((List.mem_cons.mp q).resolve_left e)
            · by_cases f : p = x
              · omega
              · have hs2 : List.Sublist (x :: s) π := by
                  cases hs with
                  | cons _ h => exact h
                  | cons_cons _ h => exact absurd rfl f
                exact absurd (hs2.subset q) hn1
          refine ocN_hd hcp ?_ (hm8 _ (fun z hz => hp.mem_iff.mpr ?_))
          · have := (mg_perm C (x :: s)).length_eq
            simp at this hlen ⊢; omega
          · exact List.mem_cons_of_mem _ ((mg_perm C (x :: s)).mem_iff.mp hz)
theorem erL_mg (U : Nat) : ∀ k i s, erL U k i s = mg ((List.range' i k).filter (fun j => !U.testBit j)) s
  | 0, i, s => rfl
  | k + 1, i, s => by
    have ih := erL_mg U k (i + 1)
    unfold erL
    rw [List.range'_succ]
    cases h : U.testBit i with
    | true =>
      rw [if_pos rfl, ih, List.filter_cons_of_neg (by rw [h]; decide)]
    | false =>
      rw [if_neg (by decide), List.filter_cons_of_pos (by rw [h]; decide)]
      show erS i (erL U k (i + 1)) s = erS i (mg _) s
      rw [show erL U k (i + 1) = mg ((List.range' (i + 1) k).filter (fun j => !U.testBit j)) from funext ih]
/-- the inks of a row, as bits -/
def UR (r : List Nat) : Nat := r.foldl (fun u i => u ||| 2 ^ i) 0
theorem UR_app (r : List Nat) (i : Nat) : UR (r ++ [i]) = UR r ||| 2 ^ i := by
  unfold UR; rw [List.foldl_append]; rfl
theorem UR_bit_g (j : Nat) : ∀ (r : List Nat) (u : Nat), (r.foldl (fun u i => u ||| 2 ^ i) u).testBit j = (u.testBit j || decide (j ∈ r))
  | [], u => by simp
  | i :: r, u => by
    rw [List.foldl_cons, UR_bit_g j r, Nat.testBit_or, Nat.testBit_two_pow, Bool.or_assoc]
    congr 1
    rw [Bool.eq_iff_iff]
    simp only [Bool.or_eq_true, decide_eq_true_eq, List.mem_cons]
    constructor
    · rintro (h | h)
      · exact Or.inl h.symm
      · exact Or.inr h
    · rintro (h | h)
      · exact Or.inl h.symm
      · exact Or.inr h
theorem UR_bit (r : List Nat) (j : Nat) : (UR r).testBit j = decide (j ∈ r) := by
  unfold UR; rw [UR_bit_g, Nat.zero_testBit, Bool.false_or]
def GoodR (N : Nat) (r : List Nat) : Prop := r.Nodup ∧ ∀ x ∈ r, x < N
theorem GoodR.len {N : Nat} {r : List Nat} (h : GoodR N r) : r.length ≤ N := by
  have := List.Nodup.length_le_of_subset h.1 (l₂ := List.range N) (fun x hx => List.mem_range.mpr (h.2 x hx))
  rw [List.length_range] at this; exact this
def erR (N : Nat) (r : List Nat) : List Nat := erL (UR r) N 0 r
theorem erR_mg (N : Nat) (r : List Nat) : erR N r = mg ((List.range N).filter (fun j => !decide (j ∈ r))) r := by
  unfold erR
  rw [erL_mg, List.range_eq_range']
  congr 1
  exact List.filter_congr (fun j _ => by rw [UR_bit])
theorem rest_perm {N : Nat} {r : List Nat} (h : GoodR N r) : ((List.range N).filter (fun j => !decide (j ∈ r)) ++ r).Perm (List.range N) := by
  refine (List.perm_ext_iff_of_nodup ?_ List.nodup_range).mpr (fun a => ?_)
  · refine List.nodup_append.mpr ⟨List.nodup_range.filter _, h.1, fun a ha b hb e => ?_⟩
    have := (List.mem_filter.mp ha).2
    rw [e] at this
    simp [hb] at this
  · rw [List.mem_append, List.mem_filter, List.mem_range]
    constructor
    · rintro (q | q)
      · exact q.1
      · exact h.2 a q
    · intro q
      by_cases e : a ∈ r
      · exact Or.inr e
      · exact Or.inl ⟨q, by simp [e]⟩
theorem erR_perm {N : Nat} {r : List Nat} (h : GoodR N r) : (erR N r).Perm (List.range N) := by
  rw [erR_mg]; exact (mg_perm _ _).trans (rest_perm h)
theorem erR_sub (N : Nat) (r : List Nat) : List.Sublist r (erR N r) := by
  rw [erR_mg]; exact mg_sub _ _
theorem erR_min {N : Nat} (hN : N ≤ 6) {r π : List Nat} (h : GoodR N r) (hp : π.Perm (List.range N)) (hs : List.Sublist r π) : ocN (erR N r) ≤ ocN π := by
  rw [erR_mg]
  refine mg_min π _ r ?_ (hp.symm.nodup List.nodup_range) (hp.trans (rest_perm h).symm) hs (fun x hx => ?_)
  · exact List.pairwise_lt_range.filter _
  · have := List.mem_range.mp (hp.mem_iff.mp hx); omega
/-! all orders -/
theorem insA_mem (N : Nat) : ∀ k l t, t.length = k → (l ++ t).Nodup → (∀ x ∈ t, x < N) → l ++ t ∈ insA N k l
  | 0, l, t, h, _, _ => by
    rw [List.length_eq_zero_iff.mp h, List.append_nil]; exact List.mem_singleton.mpr rfl
  | k + 1, l, [], h, _, _ => absurd h (by simp)
  | k + 1, l, x :: t, h, hn, hx => by
    unfold insA
    refine List.mem_flatMap.mpr ⟨x, List.mem_range.mpr (hx x List.mem_cons_self), ?_⟩
    have hxl : x ∉ l := fun q => by
      have := (List.nodup_append.mp hn).2.2 x q x List.mem_cons_self
      exact this rfl
    rw [if_neg hxl, show l ++ x :: t = (l ++ [x]) ++ t from by simp]
    exact insA_mem N k (l ++ [x]) t (by simpa using h) (by simpa using hn) (fun z hz => hx z (List.mem_cons_of_mem _ hz))
theorem PL_mem {N : Nat} {π : List Nat} (hp : π.Perm (List.range N)) : π ∈ PL N := by
  have := insA_mem N N [] π (by rw [hp.length_eq, List.length_range]) (by rw [List.nil_append]; exact hp.symm.nodup List.nodup_range) (fun x hx => List.mem_range.mp (hp.mem_iff.mp hx))
  rw [List.nil_append] at this; exact this
theorem PL_ck : ∀ N, N < 7 → (PL N).all (fun π => decide (π.length = N) && (decide π.Nodup && ((List.range N).all (fun x => decide (x ∈ π)) && (decide (octI π = nI (ocN π)) && (decide (ocN π < 2 ^ 18) && (List.range N).all (fun i => decide ((octI π >>> (nI (3 * (N - 1 - i)) &&& 31)) &&& nI 7 = nI (π.getD i 0)))))))) = true := by decide +kernel
def incL : List (List Nat) → Bool
  | [] => true
  | [_] => true
  | a :: b :: r => decide (ocN a < ocN b) && incL (b :: r)
theorem PL_inc : ∀ N, N < 7 → incL (PL N) = true := by decide +kernel
theorem incL_step : ∀ (l : List (List Nat)), incL l = true → ∀ k, k + 1 < l.length → ocN (l.getD k []) < ocN (l.getD (k + 1) [])
  | [], _, k, h => absurd h (by simp)
  | [_], _, k, h => absurd h (by simp)
  | a :: b :: r, h, k, hk => by
    simp only [incL, Bool.and_eq_true, decide_eq_true_eq] at h
    cases k with
    | zero => exact h.1
    | succ k => exact incL_step (b :: r) h.2 k (by simp at hk ⊢; omega)
theorem incL_le {l : List (List Nat)} (h : incL l = true) {j : Nat} : ∀ d, j + d < l.length → ocN (l.getD j []) ≤ ocN (l.getD (j + d) [])
  | 0, _ => Nat.le_refl _
  | d + 1, hd => Nat.le_trans (incL_le h d (by omega)) (Nat.le_of_lt (incL_step l h (j + d) (by omega)))
theorem PL_at {N k : Nat} (hN : N < 7) (hk : k < (PL N).length) : ((PL N).getD k []).length = N ∧ ((PL N).getD k []).Perm (List.range N) ∧ octI ((PL N).getD k []) = nI (ocN ((PL N).getD k [])) ∧ ocN ((PL N).getD k []) < 2 ^ 18 ∧ ∀ i, i < N → (octI ((PL N).getD k []) >>> (nI (3 * (N - 1 - i)) &&& 31)) &&& nI 7 = nI (((PL N).getD k []).getD i 0) := by
  have hm : (PL N).getD k [] ∈ PL N := by
    rw [List.getD_eq_getElem?_getD, List.getElem?_eq_getElem hk]
    exact List.getElem_mem hk
  have h := List.all_eq_true.mp (PL_ck N hN) _ hm
  simp only [Bool.and_eq_true, decide_eq_true_eq, List.all_eq_true, List.mem_range] at h
  obtain ⟨h1, h2, h3, h4, h5, h6⟩ := h
  refine ⟨h1, (List.perm_ext_iff_of_nodup h2 List.nodup_range).mpr (fun a => ⟨fun q => ?_, fun q => h3 a (List.mem_range.mp q)⟩), h4, h5, h6⟩
  have hin := PL_in N hN
  have h7 := List.all_eq_true.mp (List.all_eq_true.mp hin _ hm)
  obtain ⟨i, hi, rfl⟩ := List.getElem_of_mem q
  have h8 := of_decide_eq_true (h7 i (List.mem_range.mpr (by omega)))
  rw [List.getD_eq_getElem?_getD, List.getElem?_eq_getElem hi] at h8
  exact List.mem_range.mpr h8
