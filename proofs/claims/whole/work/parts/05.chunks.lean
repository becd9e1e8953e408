/-! the worlds of the two systems, by chunks; numbers; switches -/
abbrev TSheet : Type := Int64 × Int64 × Int64
def kSheet (a : Nat) (w : TSheet) : va_W := [(a, .inr (2, [.long w.1, .long w.2.1, .long w.2.2]))]
abbrev TWork : Type := Int32 × Int32 × Int32 × Int32 × Int64 × Int64 × Int64 × (Nat → Int32) × (Nat → Int32) × (Nat → Int64) × (Nat → Int32)
def kWork (y : Nat → ClassId) (a : Nat → Nat) (w : TWork) : va_W := [((a 0), .inr (5, [.int w.1, .int w.2.1, .int w.2.2.1, .int w.2.2.2.1, .ref (a 1), .ref (a 2), .ref (a 3), .ref (a 4), .ref (a 5)])), ((a 1), .inr (2, [.long w.2.2.2.2.1, .long w.2.2.2.2.2.1, .long w.2.2.2.2.2.2.1])), ((a 2), .inl (y 1, 6, .inl w.2.2.2.2.2.2.2.1)), ((a 3), .inl (y 1, 6, .inl w.2.2.2.2.2.2.2.2.1)), ((a 4), .inl (y 2, 6, .inr (.inl w.2.2.2.2.2.2.2.2.2.1))), ((a 5), .inl (y 1, 6, .inl w.2.2.2.2.2.2.2.2.2.2))]
abbrev TText : Type := Int32 × Int32 × Int32 × (Nat → Int32)
def kText (y : Nat → ClassId) (a : Nat → Nat) (w : TText) : va_W := [((a 0), .inr (4, [.ref (a 1), .int w.1, .int w.2.1, .int w.2.2.1])), ((a 1), .inl (y 0, 100, .inl w.2.2.2))]
abbrev TPast : Type := Int32 × Int32 × (Nat → Option Nat)
def kPast (y : Nat → ClassId) (a : Nat → Nat) (w : TPast) : va_W := [((a 0), .inr (0, [.ref (a 1), .int w.1, .int w.2.1])), ((a 1), .inl (y 4, 6, .inr (.inr (.inr (.inr w.2.2)))))]
abbrev TSearch : Type := Int32 × Int32 × Int32 × Int32 × (Nat → Int32)
def kSearch (y : Nat → ClassId) (a : Nat → Nat) (w : TSearch) : va_W := [((a 0), .inr (1, [.ref (a 1), .int w.1, .int w.2.1, .int w.2.2.1, .int w.2.2.2.1])), ((a 1), .inl (y 1, 6, .inl w.2.2.2.2))]
abbrev TSight : Type := Int32 × Int64 × Int64 × Int64 × (Nat → Int32) × (Nat → Int32) × (Nat → Int32) × (Nat → Int32)
def kSight (y : Nat → ClassId) (a : Nat → Nat) (w : TSight) : va_W := [((a 0), .inr (3, [.ref (a 1), .ref (a 2), .ref (a 3), .int w.1, .ref (a 4), .ref (a 5)])), ((a 1), .inl (y 1, 6, .inl w.2.2.2.2.1)), ((a 2), .inl (y 1, 6, .inl w.2.2.2.2.2.1)), ((a 3), .inl (y 1, 6, .inl w.2.2.2.2.2.2.1)), ((a 4), .inr (2, [.long w.2.1, .long w.2.2.1, .long w.2.2.2.1])), ((a 5), .inl (y 1, 288, .inl w.2.2.2.2.2.2.2))]
abbrev TModel : Type := Int32 × (Nat → Int32) × (Nat → Int32) × (Nat → Int32) × Int32 × (Nat → Int32) × (Nat → Int32) × (Nat → Int32) × Int32 × (Nat → Int32) × Int32 × Int32 × Int32 × Int32 × Int32 × Int32 × (Nat → Int32) × (Nat → Int32) × (Nat → Int32) × (Nat → Int32) × (Nat → Int32) × (Nat → Int32)
def kModel (y : Nat → ClassId) (a : Nat → Nat) (w : TModel) : va_W := [((a 0), .inr (7, [.int w.1, .ref (a 1), .ref (a 2), .ref (a 3), .int w.2.2.2.2.1, .ref (a 4), .ref (a 5), .ref (a 6), .int w.2.2.2.2.2.2.2.2.1, .ref (a 7), .int w.2.2.2.2.2.2.2.2.2.2.1, .int w.2.2.2.2.2.2.2.2.2.2.2.1, .int w.2.2.2.2.2.2.2.2.2.2.2.2.1, .int w.2.2.2.2.2.2.2.2.2.2.2.2.2.1, .int w.2.2.2.2.2.2.2.2.2.2.2.2.2.2.1, .int w.2.2.2.2.2.2.2.2.2.2.2.2.2.2.2.1, .ref (a 8), .ref (a 9), .ref (a 10), .ref (a 11), .ref (a 12), .ref (a 13)])), ((a 1), .inl (y 1, 99, .inl w.2.1)), ((a 2), .inl (y 1, 99, .inl w.2.2.1)), ((a 3), .inl (y 1, 594, .inl w.2.2.2.1)), ((a 4), .inl (y 1, 198, .inl w.2.2.2.2.2.1)), ((a 5), .inl (y 3, 2, .inl w.2.2.2.2.2.2.1)), ((a 6), .inl (y 1, 100, .inl w.2.2.2.2.2.2.2.1)), ((a 7), .inl (y 1, 18, .inl w.2.2.2.2.2.2.2.2.2.1)), ((a 8), .inl (y 1, 36, .inl w.2.2.2.2.2.2.2.2.2.2.2.2.2.2.2.2.1)), ((a 9), .inl (y 1, 6, .inl w.2.2.2.2.2.2.2.2.2.2.2.2.2.2.2.2.2.1)), ((a 10), .inl (y 1, 64, .inl w.2.2.2.2.2.2.2.2.2.2.2.2.2.2.2.2.2.2.1)), ((a 11), .inl (y 1, 64, .inl w.2.2.2.2.2.2.2.2.2.2.2.2.2.2.2.2.2.2.2.1)), ((a 12), .inl (y 1, 6, .inl w.2.2.2.2.2.2.2.2.2.2.2.2.2.2.2.2.2.2.2.2.1)), ((a 13), .inl (y 1, 288, .inl w.2.2.2.2.2.2.2.2.2.2.2.2.2.2.2.2.2.2.2.2.2))]
theorem n_and (a b : Nat) : nI a &&& nI b = nI (a &&& b) := by
  apply Int32.toBitVec_inj.1
  show BitVec.ofNat 32 a &&& BitVec.ofNat 32 b = BitVec.ofNat 32 (a &&& b)
  apply BitVec.eq_of_getLsbD_eq
  intro i hi
  simp [hi]
theorem n_or (a b : Nat) : nI a ||| nI b = nI (a ||| b) := by
  apply Int32.toBitVec_inj.1
  show BitVec.ofNat 32 a ||| BitVec.ofNat 32 b = BitVec.ofNat 32 (a ||| b)
  apply BitVec.eq_of_getLsbD_eq
  intro i hi
  simp [hi]
theorem n_xor (a b : Nat) : nI a ^^^ nI b = nI (a ^^^ b) := by
  apply Int32.toBitVec_inj.1
  show BitVec.ofNat 32 a ^^^ BitVec.ofNat 32 b = BitVec.ofNat 32 (a ^^^ b)
  apply BitVec.eq_of_getLsbD_eq
  intro i hi
  simp [hi]
theorem n_cnt : ∀ n, n < 32 → ((nI n &&& 31).toBitVec.smod 32).toNat = n := by decide +kernel
theorem n_shl {a k : Nat} (hk : k < 32) (h : a * 2 ^ k < 2 ^ 32) : nI a <<< (nI k &&& 31) = nI (a * 2 ^ k) := pk_shlN _ k (n_cnt k hk) h
theorem n_shl1 {k : Nat} (hk : k < 32) : nI 1 <<< (nI k &&& 31) = nI (2 ^ k) := by
  rw [n_shl hk (by rw [Nat.one_mul]; exact Nat.pow_lt_pow_right (by decide) hk), Nat.one_mul]
theorem n_shr {a k : Nat} (hk : k < 32) (h : a < 2 ^ 31) : nI a >>> (nI k &&& 31) = nI (a / 2 ^ k) := pk_shrN h _ k (n_cnt k hk)
theorem nI_inc (a b : Nat) : nI a + Int32.ofInt (b : Int) = nI (a + b) := by
  rw [← nI_add]; rfl
theorem bI_fit (b : Bool) : fits .boolean (.int (bI b)) = true := by cases b <;> decide
theorem bI_1 : bI true = 1 := rfl
theorem bI_0 : bI false = 0 := rfl
section SW
variable {p : Program} {l : Launch} {e : Env} {R : Room} {s : State} {m : MethodId} {args : Array Value} {below : List Frame} {meth : Method} {c : Code} {cells slots : Nat} {Q : State → Prop}
variable {G : va_G} {A : Nat → Prop} {nL : Nat} {cc : ByteArray} {own : String} {Ts : List Cond} {ret : Option FieldType} {y : Nat → ClassId} {t : Nat} {ws : va_W} {lv : List (Nat × Value)} {pc : Nat} {rest : List Value}
theorem kw_tabIn (C : Cx p s m args meth c cc nL own Ts ret A G y t) {dflt lo hi : Int} {offs : Array Int} {len : Nat} {x v : Int32} {off : Int} {tgt : Nat} (hx : x = v) (hdg : decode cc pc = .ok (.tableswitch dflt lo hi offs, len)) (h1 : ¬ v.toInt < lo) (h2 : ¬ hi < v.toInt) (ho : offs[(v.toInt - lo).toNat]? = some off) (ht : (pc : Int) + off = (tgt : Int)) (k : KW p l e R s m args below meth c cells slots Q G A nL ws lv tgt rest) : KW p l e R s m args below meth c cells slots Q G A nL ws lv pc (.int x :: rest) := by
  subst hx
  exact fun H locs ls hP hD hS hl => lv_tableIn C.1 C.2.1 hdg h1 h2 ho ht (k H locs ls hP hD hS hl)
theorem kw_tabOut (C : Cx p s m args meth c cc nL own Ts ret A G y t) {dflt lo hi : Int} {offs : Array Int} {len : Nat} {x : Int32} {tgt : Nat} (hdg : decode cc pc = .ok (.tableswitch dflt lo hi offs, len)) (h : x.toInt < lo ∨ hi < x.toInt) (ht : (pc : Int) + dflt = (tgt : Int)) (k : KW p l e R s m args below meth c cells slots Q G A nL ws lv tgt rest) : KW p l e R s m args below meth c cells slots Q G A nL ws lv pc (.int x :: rest) := fun H locs ls hP hD hS hl => lv_tableOut C.1 C.2.1 hdg h ht (k H locs ls hP hD hS hl)
theorem kw_look (C : Cx p s m args meth c cc nL own Ts ret A G y t) {dflt : Int} {ps : Array (Int × Int)} {len : Nat} {x : Int32} {off : Int} {tgt : Nat} (hdg : decode cc pc = .ok (.lookupswitch dflt ps, len)) (hp : (ps.toList.zip (ps.toList.drop 1)).all (fun (a, next) => a.1 < next.1) = true) (ho : Op.lookupswitch.offset ps.toList dflt x.toInt = off) (ht : (pc : Int) + off = (tgt : Int)) (k : KW p l e R s m args below meth c cells slots Q G A nL ws lv tgt rest) : KW p l e R s m args below meth c cells slots Q G A nL ws lv pc (.int x :: rest) := fun H locs ls hP hD hS hl => lv_lookup C.1 C.2.1 hdg hp ho ht (k H locs ls hP hD hS hl)
theorem KW.asl {lv' : List (Nat × Value)} (h : lv = lv') (k : KW p l e R s m args below meth c cells slots Q G A nL ws lv' pc rest) : KW p l e R s m args below meth c cells slots Q G A nL ws lv pc rest := h ▸ k
theorem KW.asw {ws' : va_W} (h : ws = ws') (k : KW p l e R s m args below meth c cells slots Q G A nL ws' lv pc rest) : KW p l e R s m args below meth c cells slots Q G A nL ws lv pc rest := h ▸ k
theorem KW.ass {st' : List Value} (h : rest = st') (k : KW p l e R s m args below meth c cells slots Q G A nL ws lv pc st') : KW p l e R s m args below meth c cells slots Q G A nL ws lv pc rest := h ▸ k
end SW
theorem arrV_cong {ci : ClassId} {n : Nat} {f g : Nat → Value} (h : ∀ j, j < n → f j = g j) : arrV ci n f = arrV ci n g := by
  have e : (fun j : Fin n => f j.val) = (fun j : Fin n => g j.val) := funext fun j => h j.val j.isLt
  unfold arrV
  rw [e]
section EXT
variable {p : Program} {l : Launch} {e : Env} {R : Room} {s : State} {m : MethodId} {args : Array Value} {below : List Frame} {meth : Method} {c : Code} {cells slots : Nat} {Q : State → Prop}
variable {G : va_G} {A : Nat → Prop} {nL : Nat} {ws : va_W} {lv : List (Nat × Value)} {pc : Nat} {rest : List Value}
theorem kw_exti {a n : Nat} {ci : ClassId} {f : Nat → Int32} (g : Nat → Int32) (q0 : Nat) (ws' : va_W) (ha : ws[q0]? = some (a, .inl (ci, n, .inl f))) (h : ∀ j, j < n → f j = g j) (hw : ws.set q0 (a, .inl (ci, n, .inl g)) = ws') (k : KW p l e R s m args below meth c cells slots Q G A nL ws' lv pc rest) : KW p l e R s m args below meth c cells slots Q G A nL ws lv pc rest := by
  intro H locs ls hP hD hS hl
  subst hw
  have e1 : H[a]? = some (vp_cell ci (n, .inl f)) := hP q0 _ ha
  have e2 : vp_cell ci (n, .inl f) = vp_cell ci (n, .inl g) := by
    show arrV ci n (fun j => Value.int (f j)) = arrV ci n (fun j => Value.int (g j))
    exact arrV_cong fun j hj => by rw [h j hj]
  rw [e2] at e1
  exact k H locs ls (hP.set hD ha (show va_at G vwCl (a, .inl (ci, n, .inl g)) H from e1) (fun _ _ => rfl)) (hD.set ha) hS hl
theorem kw_extl {a n : Nat} {ci : ClassId} {f : Nat → Int64} (g : Nat → Int64) (q0 : Nat) (ws' : va_W) (ha : ws[q0]? = some (a, .inl (ci, n, .inr (.inl f)))) (h : ∀ j, j < n → f j = g j) (hw : ws.set q0 (a, .inl (ci, n, .inr (.inl g))) = ws') (k : KW p l e R s m args below meth c cells slots Q G A nL ws' lv pc rest) : KW p l e R s m args below meth c cells slots Q G A nL ws lv pc rest := by
  intro H locs ls hP hD hS hl
  subst hw
  have e1 : H[a]? = some (vp_cell ci (n, .inr (.inl f))) := hP q0 _ ha
  have e2 : vp_cell ci (n, .inr (.inl f)) = vp_cell ci (n, .inr (.inl g)) := by
    show arrV ci n (fun j => Value.long (f j)) = arrV ci n (fun j => Value.long (g j))
    exact arrV_cong fun j hj => by rw [h j hj]
  rw [e2] at e1
  exact k H locs ls (hP.set hD ha (show va_at G vwCl (a, .inl (ci, n, .inr (.inl g))) H from e1) (fun _ _ => rfl)) (hD.set ha) hS hl
theorem kw_extq {a n : Nat} {ci : ClassId} {f : Nat → Option Nat} (g : Nat → Option Nat) (q0 : Nat) (ws' : va_W) (ha : ws[q0]? = some (a, .inl (ci, n, .inr (.inr (.inr (.inr f)))))) (h : ∀ j, j < n → f j = g j) (hw : ws.set q0 (a, .inl (ci, n, .inr (.inr (.inr (.inr g))))) = ws') (k : KW p l e R s m args below meth c cells slots Q G A nL ws' lv pc rest) : KW p l e R s m args below meth c cells slots Q G A nL ws lv pc rest := by
  intro H locs ls hP hD hS hl
  subst hw
  have e1 : H[a]? = some (vp_cell ci (n, .inr (.inr (.inr (.inr f))))) := hP q0 _ ha
  have e2 : vp_cell ci (n, .inr (.inr (.inr (.inr f)))) = vp_cell ci (n, .inr (.inr (.inr (.inr g)))) := by
    show arrV ci n (fun j => va_rf (f j)) = arrV ci n (fun j => va_rf (g j))
    exact arrV_cong fun j hj => by rw [h j hj]
  rw [e2] at e1
  exact k H locs ls (hP.set hD ha (show va_at G vwCl (a, .inl (ci, n, .inr (.inr (.inr (.inr g))))) H from e1) (fun _ _ => rfl)) (hD.set ha) hS hl
end EXT
theorem sw_out3 {x : Int32} (h0 : ¬ x = 0) (h1 : ¬ x = 1) (h2 : ¬ x = 2) : x.toInt < 0 ∨ 2 < x.toInt := by
  rcases (show x.toInt < 0 ∨ 2 < x.toInt ∨ x.toInt = 0 ∨ x.toInt = 1 ∨ x.toInt = 2 by omega) with h | h | h | h | h
  · exact Or.inl h
  · exact Or.inr h
  · exact absurd (Int32.toInt_inj.mp (h.trans (by decide))) h0
  · exact absurd (Int32.toInt_inj.mp (h.trans (by decide))) h1
  · exact absurd (Int32.toInt_inj.mp (h.trans (by decide))) h2
theorem sw_out5 {x : Int32} (h0 : ¬ x = 0) (h1 : ¬ x = 1) (h2 : ¬ x = 2) (h3 : ¬ x = 3) (h4 : ¬ x = 4) : x.toInt < 0 ∨ 4 < x.toInt := by
  rcases (show x.toInt < 0 ∨ 4 < x.toInt ∨ x.toInt = 0 ∨ x.toInt = 1 ∨ x.toInt = 2 ∨ x.toInt = 3 ∨ x.toInt = 4 by omega) with h | h | h | h | h | h | h
  · exact Or.inl h
  · exact Or.inr h
  · exact absurd (Int32.toInt_inj.mp (h.trans (by decide))) h0
  · exact absurd (Int32.toInt_inj.mp (h.trans (by decide))) h1
  · exact absurd (Int32.toInt_inj.mp (h.trans (by decide))) h2
  · exact absurd (Int32.toInt_inj.mp (h.trans (by decide))) h3
  · exact absurd (Int32.toInt_inj.mp (h.trans (by decide))) h4
theorem sw_out6 {x : Int32} (h0 : ¬ x = 0) (h1 : ¬ x = 1) (h2 : ¬ x = 2) (h3 : ¬ x = 3) (h4 : ¬ x = 4) (h5 : ¬ x = 5) : x.toInt < 0 ∨ 5 < x.toInt := by
  rcases (show x.toInt < 0 ∨ 5 < x.toInt ∨ x.toInt = 0 ∨ x.toInt = 1 ∨ x.toInt = 2 ∨ x.toInt = 3 ∨ x.toInt = 4 ∨ x.toInt = 5 by omega) with h | h | h | h | h | h | h | h
  · exact Or.inl h
  · exact Or.inr h
  · exact absurd (Int32.toInt_inj.mp (h.trans (by decide))) h0
  · exact absurd (Int32.toInt_inj.mp (h.trans (by decide))) h1
  · exact absurd (Int32.toInt_inj.mp (h.trans (by decide))) h2
  · exact absurd (Int32.toInt_inj.mp (h.trans (by decide))) h3
  · exact absurd (Int32.toInt_inj.mp (h.trans (by decide))) h4
  · exact absurd (Int32.toInt_inj.mp (h.trans (by decide))) h5
theorem sw_out9 {x : Int32} (h0 : ¬ x = 0) (h1 : ¬ x = 1) (h2 : ¬ x = 2) (h3 : ¬ x = 3) (h4 : ¬ x = 4) (h5 : ¬ x = 5) (h6 : ¬ x = 6) (h7 : ¬ x = 7) (h8 : ¬ x = 8) : x.toInt < 0 ∨ 8 < x.toInt := by
  rcases (show x.toInt < 0 ∨ 8 < x.toInt ∨ x.toInt = 0 ∨ x.toInt = 1 ∨ x.toInt = 2 ∨ x.toInt = 3 ∨ x.toInt = 4 ∨ x.toInt = 5 ∨ x.toInt = 6 ∨ x.toInt = 7 ∨ x.toInt = 8 by omega) with h | h | h | h | h | h | h | h | h | h | h
  · exact Or.inl h
  · exact Or.inr h
  · exact absurd (Int32.toInt_inj.mp (h.trans (by decide))) h0
  · exact absurd (Int32.toInt_inj.mp (h.trans (by decide))) h1
  · exact absurd (Int32.toInt_inj.mp (h.trans (by decide))) h2
  · exact absurd (Int32.toInt_inj.mp (h.trans (by decide))) h3
  · exact absurd (Int32.toInt_inj.mp (h.trans (by decide))) h4
  · exact absurd (Int32.toInt_inj.mp (h.trans (by decide))) h5
  · exact absurd (Int32.toInt_inj.mp (h.trans (by decide))) h6
  · exact absurd (Int32.toInt_inj.mp (h.trans (by decide))) h7
  · exact absurd (Int32.toInt_inj.mp (h.trans (by decide))) h8
theorem sw_out22 {x : Int32} (h0 : ¬ x = 0) (h1 : ¬ x = 1) (h2 : ¬ x = 2) (h3 : ¬ x = 3) (h4 : ¬ x = 4) (h5 : ¬ x = 5) (h6 : ¬ x = 6) (h7 : ¬ x = 7) (h8 : ¬ x = 8) (h9 : ¬ x = 9) (h10 : ¬ x = 10) (h11 : ¬ x = 11) (h12 : ¬ x = 12) (h13 : ¬ x = 13) (h14 : ¬ x = 14) (h15 : ¬ x = 15) (h16 : ¬ x = 16) (h17 : ¬ x = 17) (h18 : ¬ x = 18) (h19 : ¬ x = 19) (h20 : ¬ x = 20) (h21 : ¬ x = 21) : x.toInt < 0 ∨ 21 < x.toInt := by
  rcases (show x.toInt < 0 ∨ 21 < x.toInt ∨ x.toInt = 0 ∨ x.toInt = 1 ∨ x.toInt = 2 ∨ x.toInt = 3 ∨ x.toInt = 4 ∨ x.toInt = 5 ∨ x.toInt = 6 ∨ x.toInt = 7 ∨ x.toInt = 8 ∨ x.toInt = 9 ∨ x.toInt = 10 ∨ x.toInt = 11 ∨ x.toInt = 12 ∨ x.toInt = 13 ∨ x.toInt = 14 ∨ x.toInt = 15 ∨ x.toInt = 16 ∨ x.toInt = 17 ∨ x.toInt = 18 ∨ x.toInt = 19 ∨ x.toInt = 20 ∨ x.toInt = 21 by omega) with h | h | h | h | h | h | h | h | h | h | h | h | h | h | h | h | h | h | h | h | h | h | h | h
  · exact Or.inl h
  · exact Or.inr h
  · exact absurd (Int32.toInt_inj.mp (h.trans (by decide))) h0
  · exact absurd (Int32.toInt_inj.mp (h.trans (by decide))) h1
  · exact absurd (Int32.toInt_inj.mp (h.trans (by decide))) h2
  · exact absurd (Int32.toInt_inj.mp (h.trans (by decide))) h3
  · exact absurd (Int32.toInt_inj.mp (h.trans (by decide))) h4
  · exact absurd (Int32.toInt_inj.mp (h.trans (by decide))) h5
  · exact absurd (Int32.toInt_inj.mp (h.trans (by decide))) h6
  · exact absurd (Int32.toInt_inj.mp (h.trans (by decide))) h7
  · exact absurd (Int32.toInt_inj.mp (h.trans (by decide))) h8
  · exact absurd (Int32.toInt_inj.mp (h.trans (by decide))) h9
  · exact absurd (Int32.toInt_inj.mp (h.trans (by decide))) h10
  · exact absurd (Int32.toInt_inj.mp (h.trans (by decide))) h11
  · exact absurd (Int32.toInt_inj.mp (h.trans (by decide))) h12
  · exact absurd (Int32.toInt_inj.mp (h.trans (by decide))) h13
  · exact absurd (Int32.toInt_inj.mp (h.trans (by decide))) h14
  · exact absurd (Int32.toInt_inj.mp (h.trans (by decide))) h15
  · exact absurd (Int32.toInt_inj.mp (h.trans (by decide))) h16
  · exact absurd (Int32.toInt_inj.mp (h.trans (by decide))) h17
  · exact absurd (Int32.toInt_inj.mp (h.trans (by decide))) h18
  · exact absurd (Int32.toInt_inj.mp (h.trans (by decide))) h19
  · exact absurd (Int32.toInt_inj.mp (h.trans (by decide))) h20
  · exact absurd (Int32.toInt_inj.mp (h.trans (by decide))) h21
