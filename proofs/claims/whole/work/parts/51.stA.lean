/-! the law's start: words, the end of the walk, what holds of new objects -/
set_option maxRecDepth 20000 in
theorem nwf_0 : (Jvm.Cond.fieldLinkNest "SlippedBlocks$Text" (59 : Nat) "SlippedBlocks$Work" "width" "I" "SlippedBlocks") ∈ lw_tbl := List.mem_of_getElem? (i := 84) rfl
set_option maxRecDepth 20000 in
theorem nwf_1 : (Jvm.Cond.fieldLinkNest "SlippedBlocks$Sightings" (75 : Nat) "SlippedBlocks$Work" "width" "I" "SlippedBlocks") ∈ lw_tbl := List.mem_of_getElem? (i := 85) rfl
set_option maxRecDepth 20000 in
theorem nwf_2 : (Jvm.Cond.fieldLinkNest "SlippedBlocks" (207 : Nat) "SlippedBlocks$Work" "width" "I" "SlippedBlocks") ∈ lw_tbl := List.mem_of_getElem? (i := 86) rfl
set_option maxRecDepth 20000 in
theorem nwf_3 : (Jvm.Cond.fieldLinkNest "SlippedBlocks$Text" (35 : Nat) "SlippedBlocks$Work" "height" "I" "SlippedBlocks") ∈ lw_tbl := List.mem_of_getElem? (i := 88) rfl
set_option maxRecDepth 20000 in
theorem nwf_4 : (Jvm.Cond.fieldLinkNest "SlippedBlocks" (87 : Nat) "SlippedBlocks$Work" "height" "I" "SlippedBlocks") ∈ lw_tbl := List.mem_of_getElem? (i := 89) rfl
set_option maxRecDepth 20000 in
theorem nwf_5 : (Jvm.Cond.fieldLinkNest "SlippedBlocks$Sightings" (72 : Nat) "SlippedBlocks$Work" "height" "I" "SlippedBlocks") ∈ lw_tbl := List.mem_of_getElem? (i := 90) rfl
set_option maxRecDepth 20000 in
theorem nwf_6 : (Jvm.Cond.fieldLinkNest "SlippedBlocks$Sightings" (35 : Nat) "SlippedBlocks$Work" "inks" "I" "SlippedBlocks") ∈ lw_tbl := List.mem_of_getElem? (i := 92) rfl
set_option maxRecDepth 20000 in
theorem nwf_7 : (Jvm.Cond.fieldLinkNest "SlippedBlocks$RowSearch" (38 : Nat) "SlippedBlocks$Work" "inks" "I" "SlippedBlocks") ∈ lw_tbl := List.mem_of_getElem? (i := 93) rfl
set_option maxRecDepth 20000 in
theorem nwf_8 : (Jvm.Cond.fieldLinkNest "SlippedBlocks" (84 : Nat) "SlippedBlocks$Work" "inks" "I" "SlippedBlocks") ∈ lw_tbl := List.mem_of_getElem? (i := 94) rfl
set_option maxRecDepth 20000 in
theorem nwf_9 : (Jvm.Cond.fieldLinkNest "SlippedBlocks$Text" (52 : Nat) "SlippedBlocks$Work" "inks" "I" "SlippedBlocks") ∈ lw_tbl := List.mem_of_getElem? (i := 95) rfl
set_option maxRecDepth 20000 in
theorem nwf_10 : (Jvm.Cond.fieldLinkNest "SlippedBlocks$Text" (62 : Nat) "SlippedBlocks$Work" "picture" "LSlippedBlocks$Sheet;" "SlippedBlocks") ∈ lw_tbl := List.mem_of_getElem? (i := 98) rfl
set_option maxRecDepth 20000 in
theorem nwf_11 : (Jvm.Cond.fieldLinkNest "SlippedBlocks" (138 : Nat) "SlippedBlocks$Work" "picture" "LSlippedBlocks$Sheet;" "SlippedBlocks") ∈ lw_tbl := List.mem_of_getElem? (i := 99) rfl
set_option maxRecDepth 20000 in
theorem nwf_12 : (Jvm.Cond.fieldLinkNest "SlippedBlocks" (152 : Nat) "SlippedBlocks$Work" "colour" "[I" "SlippedBlocks") ∈ lw_tbl := List.mem_of_getElem? (i := 101) rfl
set_option maxRecDepth 20000 in
theorem nwf_13 : (Jvm.Cond.fieldLinkNest "SlippedBlocks" (111 : Nat) "SlippedBlocks$Work" "block" "[J" "SlippedBlocks") ∈ lw_tbl := List.mem_of_getElem? (i := 104) rfl
set_option maxRecDepth 20000 in
theorem nwf_14 : (Jvm.Cond.fieldLinkNest "SlippedBlocks$Sightings" (49 : Nat) "SlippedBlocks$Work" "slip" "[I" "SlippedBlocks") ∈ lw_tbl := List.mem_of_getElem? (i := 106) rfl
set_option maxRecDepth 20000 in
theorem nwf_15 : (Jvm.Cond.fieldLinkNest "SlippedBlocks" (123 : Nat) "SlippedBlocks$Work" "slip" "[I" "SlippedBlocks") ∈ lw_tbl := List.mem_of_getElem? (i := 107) rfl
set_option maxRecDepth 20000 in
theorem nwf_16 : (Jvm.Cond.fieldLinkNest "SlippedBlocks" (66 : Nat) "SlippedBlocks$Text" "length" "I" "SlippedBlocks") ∈ lw_tbl := List.mem_of_getElem? (i := 137) rfl
set_option maxRecDepth 20000 in
theorem nwf_17 : (Jvm.Cond.fieldLinkNest "SlippedBlocks" (134 : Nat) "SlippedBlocks$Past" "many" "I" "SlippedBlocks") ∈ lw_tbl := List.mem_of_getElem? (i := 162) rfl
set_option maxRecDepth 20000 in
theorem nwf_18 : (Jvm.Cond.fieldLinkNest "SlippedBlocks" (81 : Nat) "SlippedBlocks$Sightings" "many" "I" "SlippedBlocks") ∈ lw_tbl := List.mem_of_getElem? (i := 182) rfl
set_option maxRecDepth 20000 in
theorem nwf_19 : (Jvm.Cond.fieldLinkNest "SlippedBlocks" (181 : Nat) "SlippedBlocks$RowSearch" "found" "Z" "SlippedBlocks") ∈ lw_tbl := List.mem_of_getElem? (i := 208) rfl
set_option maxRecDepth 20000 in
theorem nwf_20 : (Jvm.Cond.fieldLinkNest "SlippedBlocks" (185 : Nat) "SlippedBlocks$RowSearch" "fewest" "I" "SlippedBlocks") ∈ lw_tbl := List.mem_of_getElem? (i := 210) rfl
set_option maxRecDepth 20000 in
theorem nwm_0 : (Jvm.Cond.methodLinkNest "SlippedBlocks" (9 : Nat) ({ cls := "SlippedBlocks$Work", name := "<init>", desc := "()V" } : Jvm.MethodName) "SlippedBlocks") ∈ lw_tbl := List.mem_of_getElem? (i := 63) rfl
set_option maxRecDepth 20000 in
theorem nwm_1 : (Jvm.Cond.methodLinkNest "SlippedBlocks$Work" (26 : Nat) ({ cls := "SlippedBlocks$Sheet", name := "<init>", desc := "()V" } : Jvm.MethodName) "SlippedBlocks") ∈ lw_tbl := List.mem_of_getElem? (i := 69) rfl
set_option maxRecDepth 20000 in
theorem nwm_2 : (Jvm.Cond.methodLinkNest "SlippedBlocks" (21 : Nat) ({ cls := "SlippedBlocks$Text", name := "<init>", desc := "()V" } : Jvm.MethodName) "SlippedBlocks") ∈ lw_tbl := List.mem_of_getElem? (i := 131) rfl
set_option maxRecDepth 20000 in
theorem nwm_3 : (Jvm.Cond.methodLinkNest "SlippedBlocks$Past" (24 : Nat) ({ cls := "SlippedBlocks$Work", name := "<init>", desc := "()V" } : Jvm.MethodName) "SlippedBlocks") ∈ lw_tbl := List.mem_of_getElem? (i := 158) rfl
set_option maxRecDepth 20000 in
theorem nwm_4 : (Jvm.Cond.methodLinkNest "SlippedBlocks" (43 : Nat) ({ cls := "SlippedBlocks$Sightings", name := "<init>", desc := "()V" } : Jvm.MethodName) "SlippedBlocks") ∈ lw_tbl := List.mem_of_getElem? (i := 172) rfl
set_option maxRecDepth 20000 in
theorem nwm_5 : (Jvm.Cond.methodLinkNest "SlippedBlocks$Sightings" (27 : Nat) ({ cls := "SlippedBlocks$Sheet", name := "<init>", desc := "()V" } : Jvm.MethodName) "SlippedBlocks") ∈ lw_tbl := List.mem_of_getElem? (i := 177) rfl
set_option maxRecDepth 20000 in
theorem nwm_6 : (Jvm.Cond.methodLinkNest "SlippedBlocks" (50 : Nat) ({ cls := "SlippedBlocks$RowSearch", name := "<init>", desc := "()V" } : Jvm.MethodName) "SlippedBlocks") ∈ lw_tbl := List.mem_of_getElem? (i := 201) rfl
set_option maxRecDepth 20000 in
theorem nwm_7 : (Jvm.Cond.methodLinkNest "SlippedBlocks" (57 : Nat) ({ cls := "SlippedBlocks$Sheet", name := "<init>", desc := "()V" } : Jvm.MethodName) "SlippedBlocks") ∈ lw_tbl := List.mem_of_getElem? (i := 224) rfl
set_option maxRecDepth 20000 in
theorem nwm_8 : (Jvm.Cond.methodLinkNest "SlippedBlocks$Text" (66 : Nat) ({ cls := "SlippedBlocks", name := "cellBit", desc := "(II)J" } : Jvm.MethodName) "SlippedBlocks") ∈ lw_tbl := List.mem_of_getElem? (i := 293) rfl
set_option maxRecDepth 20000 in
theorem nwm_9 : (Jvm.Cond.methodLinkNest "SlippedBlocks$Work" (76 : Nat) ({ cls := "SlippedBlocks", name := "slipped", desc := "(JI)J" } : Jvm.MethodName) "SlippedBlocks") ∈ lw_tbl := List.mem_of_getElem? (i := 436) rfl
set_option maxRecDepth 20000 in
theorem nwm_10 : (Jvm.Cond.methodLinkNest "SlippedBlocks$Sheet" (25 : Nat) ({ cls := "SlippedBlocks", name := "cellBit", desc := "(II)J" } : Jvm.MethodName) "SlippedBlocks") ∈ lw_tbl := List.mem_of_getElem? (i := 472) rfl
set_option maxRecDepth 20000 in
theorem nwm_11 : (Jvm.Cond.methodLinkNest "SlippedBlocks$Work" (62 : Nat) ({ cls := "SlippedBlocks", name := "cellBit", desc := "(II)J" } : Jvm.MethodName) "SlippedBlocks") ∈ lw_tbl := List.mem_of_getElem? (i := 477) rfl
set_option maxRecDepth 20000 in
theorem wAO : (Jvm.Cond.arrayOver (Jvm.ClassFile.FieldType.object "SlippedBlocks$Work")) ∈ lw_tbl := List.mem_of_getElem? (i := 157) rfl
set_option maxRecDepth 20000 in
theorem wLS : (Jvm.Cond.laysStatic "SlippedBlocks$Work" "HAVING" "[I") ∈ lw_tbl := List.mem_of_getElem? (i := 378) rfl
theorem nwF_in : ∀ q ∈ nwF, Cond.fieldLinkNest q.1 q.2.1 q.2.2.1 q.2.2.2.1 q.2.2.2.2.1 q.2.2.2.2.2 ∈ lw_tbl := by
  unfold nwF
  exact List.forall_mem_cons.mpr ⟨nwf_0, List.forall_mem_cons.mpr ⟨nwf_1, List.forall_mem_cons.mpr ⟨nwf_2, List.forall_mem_cons.mpr ⟨nwf_3, List.forall_mem_cons.mpr ⟨nwf_4, List.forall_mem_cons.mpr ⟨nwf_5, List.forall_mem_cons.mpr ⟨nwf_6, List.forall_mem_cons.mpr ⟨nwf_7, List.forall_mem_cons.mpr ⟨nwf_8, List.forall_mem_cons.mpr ⟨nwf_9, List.forall_mem_cons.mpr ⟨nwf_10, List.forall_mem_cons.mpr ⟨nwf_11, List.forall_mem_cons.mpr ⟨nwf_12, List.forall_mem_cons.mpr ⟨nwf_13, List.forall_mem_cons.mpr ⟨nwf_14, List.forall_mem_cons.mpr ⟨nwf_15, List.forall_mem_cons.mpr ⟨nwf_16, List.forall_mem_cons.mpr ⟨nwf_17, List.forall_mem_cons.mpr ⟨nwf_18, List.forall_mem_cons.mpr ⟨nwf_19, List.forall_mem_cons.mpr ⟨nwf_20, fun _ h => absurd h List.not_mem_nil⟩⟩⟩⟩⟩⟩⟩⟩⟩⟩⟩⟩⟩⟩⟩⟩⟩⟩⟩⟩⟩
theorem nwM_in : ∀ q ∈ nwM, Cond.methodLinkNest q.1 q.2.1 q.2.2.1 q.2.2.2 ∈ lw_tbl := by
  unfold nwM
  exact List.forall_mem_cons.mpr ⟨nwm_0, List.forall_mem_cons.mpr ⟨nwm_1, List.forall_mem_cons.mpr ⟨nwm_2, List.forall_mem_cons.mpr ⟨nwm_3, List.forall_mem_cons.mpr ⟨nwm_4, List.forall_mem_cons.mpr ⟨nwm_5, List.forall_mem_cons.mpr ⟨nwm_6, List.forall_mem_cons.mpr ⟨nwm_7, List.forall_mem_cons.mpr ⟨nwm_8, List.forall_mem_cons.mpr ⟨nwm_9, List.forall_mem_cons.mpr ⟨nwm_10, List.forall_mem_cons.mpr ⟨nwm_11, fun _ h => absurd h List.not_mem_nil⟩⟩⟩⟩⟩⟩⟩⟩⟩⟩⟩⟩
section STA
variable {p : Program} {l : Launch} {e : Env} {R : Room} {s : State} {m : MethodId} {args : Array Value} {below : List Frame} {meth : Method} {c : Code} {cells slots : Nat} {Q : State → Prop}
variable {G : va_G} {A : Nat → Prop} {nL : Nat} {cc : ByteArray} {own : String} {Ts : List Cond} {rtt : Option FieldType} {y : Nat → ClassId} {t : Nat} {ws : va_W} {lv : List (Nat × Value)} {pc : Nat} {rest : List Value}
theorem kw_slen (C : Cx p s m args meth c cc nL own Ts rtt A G y t) {b L : Nat} {zs : Nat → Int32} (hX : va_X b L zs s s.heap ∧ b < s.heap.size ∧ ¬ A b ∧ L ≤ 2048) (hdg : decode cc pc = .ok (.arraylength, 1)) (kk : KW p l e R s m args below meth c cells slots Q G A nL ws lv (pc + 1) (.int (nI L) :: rest)) : KW p l e R s m args below meth c cells slots Q G A nL ws lv pc (.ref b :: rest) := fun H locs ls hP hD hS hl => va_slen C.1 C.2.1 hX.1 hX.2.1 hX.2.2.1 hS hdg (kk H locs ls hP hD hS hl)
theorem kCallF_v {S : Type} {post : S → Prop} {W1 : S → va_W} {wc wr : va_W} {st0 : List Value} {mc ms : Nat} {a : Array Value} (C : Cx p s m args meth c cc nL own Ts rtt A G y t)
    (hr : ∀ (H : Heap) (locs : List Loc) (ls : Array Slot), va_P G vwCl (wc ++ wr) H → va_D A (wc ++ wr) → va_S A s.heap H locs → lv_has ls nL lv → va_Run p l e R s m args below meth c H locs cells slots mc ms (F0 m pc ls st0) rest (va_Qv post (fun u t => PO G (va_A wc H.size) (W1 u) t) (va_A wc H.size) a) (va_A wc H.size))
    (kk : ∀ (u : S), post u → KW p l e R s m args below meth c (cells + mc) (slots + ms) Q G A nL (wr ++ W1 u) lv (pc + 3) rest) : KW p l e R s m args below meth c cells slots Q G A nL (wc ++ wr) lv pc st0 := by
  intro H locs ls hP hD hS hl
  have hC := rg_c wc wr
  have hF := va_free (wc := wc) hD hS C.2.2.2.2.2.2.2.1 (List.range wc.length) hC
  refine va_callv (hr H locs ls hP hD hS hl) hS (fun q _ h => hF q h) hF (fun u t1 H1 locs1 ht hvm hw hB hz1 hk1 hS => ?_)
  obtain ⟨hP1, hD1⟩ := hB
  rw [ht] at hP1
  obtain ⟨hP, hD⟩ := va_join (wr := wr) (w1 := W1 u) hP hD (List.range wc.length) ((List.range wr.length).map (wc.length + ·)) hC (rg_r wc wr) (rg_nd _ _) (fun i hi hi2 => by
    obtain ⟨z, _, rfl⟩ := List.mem_map.mp hi
    have := List.mem_range.mp hi2
    omega) hk1 hF hP1 hD1
  exact kk u hw H1 locs1 ls hP hD hS hl
/-- a constructor, its object the last of the world -/
theorem kIF_v {S : Type} {post : S → Prop} {Y : MethodName} {bytes : ByteArray} {maxL mc ms n index b : Nat} {wsy : List Cond} {rm : Room} {wc wr : va_W} {W1 : S → va_W} {As : List Value} (C : Cx p s m args meth c cc nL own Ts rtt A G y t) (hAO : va_AO "SlippedBlocks$Work" s)
    (hM : ∀ sz : Nat, Met l Y wsy rm (va_Pc (.ref b :: As) (PRO G y t wc sz)) (va_Qv post (fun u t => PO G (va_A wc sz) (W1 u) t) (va_A wc sz)) mc ms (va_A wc sz)) (cw : CallB R s args own index Y bytes maxL none wsy rm mc ms n ∧ Y.name = "<init>" ∧ (Cond.instanceMethod Y).before args s = true) (hn0 : As.length = n) (hW : (rest.map fun v => v.category).sum ≤ 8) (hf : cells + mc ≤ R.cells ∧ slots + ms ≤ R.slots) (hdg : decode cc pc = .ok (.invokespecial index, 3))
    (kk : ∀ (u : S), post u → KW p l e R s m args below meth c (cells + mc) (slots + ms) Q G A nL (wr ++ W1 u) lv (pc + 3) rest) : KW p l e R s m args below meth c cells slots Q G A nL (wr ++ wc) lv pc (As.reverse ++ .ref b :: rest) := by
  refine KW.perm List.perm_append_comm ?_
  exact kCallF_v C (fun H locs ls hP hD hS hl => va_runI (Ts := Ts) ⟨C.1, C.2.1, C.2.2.1, C.2.2.2.1, C.2.2.2.2.1⟩ (hM H.size) cw ⟨PRO_blind, fun U hU hW => ⟨(kPreF (av := .ref b :: As) C hP hD hS U hU hW).1, (kPreF (av := .ref b :: As) C hP hD hS U hU hW).2, va_AO.moved hW.alike hAO⟩⟩ rfl hn0 hl.1 rfl (lv_room hW) hdg hf) kk
end STA
theorem law_end {p : Program} {l : Launch} {e : Env} {s : State} {m : MethodId} {below : List Frame} {meth : Method} {c : Code} {G : va_G} {A : Nat → Prop} {y : Nat → ClassId} {t b : Nat} {ws : va_W} {lv : List (Nat × Value)} (C : Cx p s m #[Value.ref b] meth c code 4 R_law lw_tbl ret A G y t) (hA : ∀ q, A q → s.heap.size ≤ q) : KW p l e room_1 s m #[Value.ref b] below meth c 90 2411 (lw_Z below #[Value.ref b] s) G A 4 ws lv 679 [.int 1] := fun H locs ls hP hD hS hl => va_forget (fun q hq => hA _ (hS.2.2 q hq)) (W.widen (k := 600000) (n := 7302250) (Nat.le_of_ble_eq_true rfl) (Nat.le_of_ble_eq_true rfl) (lw_ret C.1 C.2.1 C.2.2.2.2.2.1 C.2.2.2.2.2.2.1 dL_law_679))
theorem Inv0 {ltr tx xs ys cs pa im sn : Nat → Int32} {wp wi : Nat → TWork} : Inv 1 1 0 0 0 0 0 (fun _ => nI 0) (fun _ => nI 0) (fun _ => 0) (fun _ => nI 0) 0 ltr 0 0 wp (fun _ => nI 0) wi 0 xs ys cs (upd (upd (fun _ => nI 0) 0 (nI 1)) 1 (nI 1)) pa im (fun _ => nI 0) tx sn := by
  refine ⟨⟨fun _ => 0, fun _ => 0, fun _ => 0, fun _ => 0, fun _ => 0, ⟨?_, ?_, ?_, by decide, by decide, by decide, ?_, fun i h => absurd h (Nat.not_lt_zero _), fun i h => absurd h (Nat.not_lt_zero _), fun i _ h => absurd h (Nat.not_lt_zero _), fun i h => absurd h (Nat.not_lt_zero _)⟩, by decide, fun i h => absurd h (Nat.not_lt_zero _), fun i h => absurd h (Nat.not_lt_zero _), fun i _ h => absurd h (Nat.not_lt_zero _), fun i h => absurd h (Nat.not_lt_zero _), fun i _ _ h => absurd h (Nat.not_lt_zero _), ?_⟩, TRl_0, ⟨by decide, by decide, fun r h => absurd h (Nat.not_lt_zero _)⟩, IRl_0, SRl_0⟩
  · rw [pk_un (by decide), pk_us]
  · rw [pk_us]
  · rw [pk_un (by decide), pk_un (by decide)]
  · intro yy xx hy hx
    refine ⟨?_, show 0 < 8 by decide⟩
    rw [pk_un (by omega), pk_un (by omega)]
  · intro yy xx _ _
    rw [bL_0, Nat.zero_testBit, Nat.zero_testBit, Nat.zero_testBit, Bool.and_false]
    exact ⟨rfl, rfl, rfl⟩
