/-! worlds in pieces: the order of the pieces is free, a call takes the pieces that its contract names -/
theorem nd_of : ∀ {l : List Nat}, l.Nodup → va_nd l = true
  | [], _ => rfl
  | a :: l, h => by
    obtain ⟨h1, h2⟩ := List.nodup_cons.mp h
    unfold va_nd
    rw [decide_eq_true h1, nd_of h2]; rfl
theorem rg_c (wc wr : va_W) : (List.range wc.length).map (fun i => (wc ++ wr)[i]?) = wc.map some := by
  apply List.ext_getElem?
  intro i
  rw [List.getElem?_map, List.getElem?_map]
  rcases Nat.lt_or_ge i wc.length with h | h
  · rw [List.getElem?_range h, Option.map_some, List.getElem?_append_left h, List.getElem?_eq_getElem h]; rfl
  · rw [List.getElem?_eq_none (by rw [List.length_range]; exact h), List.getElem?_eq_none h]; rfl
theorem rg_r (wc wr : va_W) : ((List.range wr.length).map (wc.length + ·)).map (fun i => (wc ++ wr)[i]?) = wr.map some := by
  apply List.ext_getElem?
  intro i
  rw [List.getElem?_map, List.getElem?_map, List.getElem?_map]
  rcases Nat.lt_or_ge i wr.length with h | h
  · rw [List.getElem?_range h, Option.map_some, Option.map_some, List.getElem?_append_right (by omega), show wc.length + i - wc.length = i from by omega, List.getElem?_eq_getElem h]; rfl
  · rw [List.getElem?_eq_none (by rw [List.length_range]; exact h), List.getElem?_eq_none h]; rfl
theorem rg_nd (a n : Nat) : va_nd ((List.range n).map (a + ·)) = true := by
  refine nd_of ?_
  refine List.pairwise_map.mpr ?_
  refine List.Pairwise.imp ?_ List.nodup_range
  intro x z h e
  exact h (by omega)
theorem P_perm {G : va_G} {cl : List vw_C} {ws ws' : va_W} {H : Heap} (h : ws.Perm ws') (hP : va_P G cl ws H) : va_P G cl ws' H := by
  intro k q hq
  obtain ⟨j, hj⟩ := List.mem_iff_getElem?.mp (h.mem_iff.mpr (List.mem_of_getElem? hq))
  exact hP j q hj
theorem D_nd {A : Nat → Prop} {ws : va_W} : va_D A ws ↔ ((ws.map (·.1)).Nodup ∧ ∀ q ∈ ws, A q.1) := by
  constructor
  · intro h
    refine ⟨?_, fun q hq => ?_⟩
    · refine List.pairwise_iff_getElem.mpr (fun i j hi hj hij e => ?_)
      rw [List.length_map] at hi hj
      rw [List.getElem_map, List.getElem_map] at e
      have := h.1 i j _ _ (List.getElem?_eq_getElem hi) (List.getElem?_eq_getElem hj) e
      omega
    · obtain ⟨j, hj⟩ := List.mem_iff_getElem?.mp hq
      exact h.2 j q hj
  · rintro ⟨h1, h2⟩
    refine ⟨fun i j p q hi hj e => ?_, fun k q hq => h2 q (List.mem_of_getElem? hq)⟩
    obtain ⟨ai, bi⟩ := List.getElem?_eq_some_iff.mp hi
    obtain ⟨aj, bj⟩ := List.getElem?_eq_some_iff.mp hj
    have pw := List.pairwise_iff_getElem.mp h1
    rcases Nat.lt_trichotomy i j with g | g | g
    · have := pw i j (by rw [List.length_map]; exact ai) (by rw [List.length_map]; exact aj) g
      rw [List.getElem_map, List.getElem_map, bi, bj] at this
      exact absurd e this
    · exact g
    · have := pw j i (by rw [List.length_map]; exact aj) (by rw [List.length_map]; exact ai) g
      rw [List.getElem_map, List.getElem_map, bi, bj] at this
      exact absurd e.symm this
theorem D_perm {A : Nat → Prop} {ws ws' : va_W} (h : ws.Perm ws') (hD : va_D A ws) : va_D A ws' := by
  obtain ⟨h1, h2⟩ := D_nd.mp hD
  exact D_nd.mpr ⟨(h.map _).nodup h1, fun q hq => h2 q (h.mem_iff.mpr hq)⟩
theorem fm_id {α : Type} (L : List α) : (List.range L.length).filterMap (fun i => L[i]?) = L := by
  have h : (List.range L.length).map (fun i => L[i]?) = L.map some := by
    apply List.ext_getElem?
    intro i
    rw [List.getElem?_map, List.getElem?_map]
    rcases Nat.lt_or_ge i L.length with h | h
    · rw [List.getElem?_range h, Option.map_some, List.getElem?_eq_getElem h]; rfl
    · rw [List.getElem?_eq_none (by rw [List.length_range]; exact h), List.getElem?_eq_none h]; rfl
  have h1 : (List.range L.length).filterMap (fun i => L[i]?) = ((List.range L.length).map (fun i => L[i]?)).filterMap id := by rw [List.filterMap_map]; rfl
  rw [h1, h, List.filterMap_map]
  exact List.filterMap_some
theorem pm_fl {L L' : List va_W} (is : List Nat) (n : Nat) (hn : L.length = n) (h1 : is.Perm (List.range n)) (h2 : is.filterMap (fun i => L[i]?) = L') : L.flatten.Perm L'.flatten := by
  subst hn
  have h := h1.filterMap (fun i => L[i]?)
  rw [fm_id, h2] at h
  exact h.symm.flatten
section FRM
variable {p : Program} {l : Launch} {e : Env} {R : Room} {s : State} {m : MethodId} {args : Array Value} {below : List Frame} {meth : Method} {c : Code} {cells slots : Nat} {Q : State → Prop}
variable {G : va_G} {A : Nat → Prop} {nL : Nat} {cc : ByteArray} {own : String} {Ts : List Cond} {ret : Option FieldType} {y : Nat → ClassId} {t : Nat} {ws : va_W} {lv : List (Nat × Value)} {pc : Nat} {rest : List Value}
theorem KW.perm {ws' : va_W} (h : ws.Perm ws') (k : KW p l e R s m args below meth c cells slots Q G A nL ws' lv pc rest) : KW p l e R s m args below meth c cells slots Q G A nL ws lv pc rest := fun H locs ls hP hD hS hl => k H locs ls (P_perm h hP) (D_perm h hD) hS hl
theorem kPreF {H : Heap} {locs : List Loc} {wc wr : va_W} {av : List Value} (C : Cx p s m args meth c cc nL own Ts ret A G y t) (hP : va_P G vwCl (wc ++ wr) H) (hD : va_D A (wc ++ wr)) (hS : va_S A s.heap H locs) : ∀ U : State, U.heap = H → s.WarmedH U.vm → va_Pc av (PR G y t wc H.size) av.toArray U :=
  kPre C hP hD hS (List.range wc.length) (rg_c wc wr) (nd_of List.nodup_range)
theorem kCallF_i {S : Type} {post : Int32 → S → Prop} {W1 : S → va_W} {wc wr : va_W} {st0 : List Value} {mc ms : Nat} {a : Array Value} (C : Cx p s m args meth c cc nL own Ts ret A G y t)
    (hr : ∀ (H : Heap) (locs : List Loc) (ls : Array Slot), va_P G vwCl (wc ++ wr) H → va_D A (wc ++ wr) → va_S A s.heap H locs → lv_has ls nL lv → va_Run p l e R s m args below meth c H locs cells slots mc ms (F0 m pc ls st0) rest (va_Qi post (fun u t => PO G (va_A wc H.size) (W1 u) t) (va_A wc H.size) a) (va_A wc H.size))
    (kk : ∀ (r : Int32) (u : S), post r u → KW p l e R s m args below meth c (cells + mc) (slots + ms) Q G A nL (wr ++ W1 u) lv (pc + 3) (.int r :: rest)) : KW p l e R s m args below meth c cells slots Q G A nL (wc ++ wr) lv pc st0 := by
  intro H locs ls hP hD hS hl
  have hC := rg_c wc wr
  have hF := va_free (wc := wc) hD hS C.2.2.2.2.2.2.2.1 (List.range wc.length) hC
  refine va_calli (hr H locs ls hP hD hS hl) hS (fun q _ h => hF q h) hF (fun r u t1 H1 locs1 ht hvm hw hB hz1 hk1 hS => ?_)
  obtain ⟨hP1, hD1⟩ := hB
  rw [ht] at hP1
  obtain ⟨hP, hD⟩ := va_join (wr := wr) (w1 := W1 u) hP hD (List.range wc.length) ((List.range wr.length).map (wc.length + ·)) hC (rg_r wc wr) (rg_nd _ _) (fun i hi hi2 => by
    obtain ⟨z, _, rfl⟩ := List.mem_map.mp hi
    have := List.mem_range.mp hi2
    omega) hk1 hF hP1 hD1
  exact kk r u hw H1 locs1 ls hP hD hS hl
/-- a call, by the pieces -/
theorem kVL_i {S : Type} {post : Int32 → S → Prop} {Y : MethodName} {bytes : ByteArray} {maxL mc ms n index : Nat} {rt : Option FieldType} {wsy : List Cond} {rm : Room} {wc : va_W} {W1 : S → va_W} {As : List Value} {b ci : Nat} {Cn : String} {T : u_T} {N : Nat} {fs : List Value} {L Lc Lr : List va_W} {W1L L' : S → List va_W} (C : Cx p s m args meth c cc nL own Ts ret A G y t)
    (hM : ∀ sz : Nat, Met l Y wsy rm (va_Pc (.ref b :: As) (PR G y t wc sz)) (va_Qi post (fun u t => PO G (va_A wc sz) (W1 u) t) (va_A wc sz)) mc ms (va_A wc sz))
    (cw : CallW R s args own Cn index Y bytes maxL rt wsy rm mc ms n) (is is2 : List Nat) (k1 k2 : Nat) (hk1 : L.length = k1) (h1 : is.Perm (List.range k1)) (h2 : is.filterMap (fun i => L[i]?) = Lc ++ Lr) (hwc : Lc.flatten = wc) (hw1 : ∀ u, (W1L u).flatten = W1 u) (hk2 : ∀ u, (Lr ++ W1L u).length = k2) (h3 : is2.Perm (List.range k2)) (h4 : ∀ u, is2.filterMap (fun i => (Lr ++ W1L u)[i]?) = L' u)
    (he : wc[0]? = some (b, .inr (ci, fs))) (hc : vwCl[ci]? = some (Cn, T, N)) (hn0 : As.length = n) (hW : (rest.map fun v => v.category).sum ≤ 8) (hf : cells + mc ≤ R.cells ∧ slots + ms ≤ R.slots) (hdg : decode cc pc = .ok (.invokevirtual index, 3))
    (kk : ∀ (r : Int32) (u : S), post r u → KW p l e R s m args below meth c (cells + mc) (slots + ms) Q G A nL (L' u).flatten lv (pc + 3) (.int r :: rest)) : KW p l e R s m args below meth c cells slots Q G A nL L.flatten lv pc (As.reverse ++ .ref b :: rest) := by
  refine KW.perm (pm_fl is k1 hk1 h1 h2) ?_
  rw [List.flatten_append, hwc]
  refine kCallF_i (wc := wc) (wr := Lr.flatten) (W1 := W1) (post := post) C (fun H locs ls hP hD hS hl => va_runV (Ts := Ts) ⟨C.1, C.2.1, C.2.2.1, C.2.2.2.1, C.2.2.2.2.1⟩ (hM H.size) cw ⟨PR_blind, va_recv (q0 := 0) C.2.2.2.2.2.2.2.2.1 hP hc (by rw [List.getElem?_append_left (List.getElem?_eq_some_iff.mp he).1]; exact he), kPreF C hP hD hS⟩ rfl hn0 hl.1 rfl (lv_room hW) hdg hf) (fun r u hu => ?_)
  rw [← hw1 u, ← List.flatten_append]
  exact KW.perm (pm_fl is2 k2 (hk2 u) h3 (h4 u)) (kk r u hu)
end FRM
