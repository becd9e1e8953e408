/-! the class' own functions, in numbers -/
def cbL (k : Nat) : Int64 := (1 : Int64) <<< ((nI k).toInt64 &&& 63)
def byS (k : Nat) : Int32 := nI 8 * (nI (k / 3) - nI 1) + (nI (k % 3) - nI 1)
def slipL (c : Int64) (k : Nat) : Int64 := if byS k < 0 then (c.toUInt64 >>> ((-byS k).toInt64.toUInt64 &&& Int64.toUInt64 63)).toInt64 else c <<< ((byS k).toInt64 &&& 63)
abbrev inR (x : Int32) (n : Nat) : Prop := 0 ≤ x.toInt ∧ x.toInt < n
theorem ir1 {x : Int32} {n : Nat} (hn : n < 2 ^ 31) (h0 : ¬ x < 0) (h1 : ¬ nI n ≤ x) : inR x n := by
  have a : ¬ x.toInt < (0 : Int32).toInt := fun q => h0 (Int32.lt_iff_toInt_lt.mpr q)
  have b : ¬ (nI n).toInt ≤ x.toInt := fun q => h1 (Int32.le_iff_toInt_le.mpr q)
  rw [nI_toInt hn] at b
  have z : (0 : Int32).toInt = 0 := rfl
  omega
theorem ir2 {x : Int32} {n : Nat} (h0 : x < 0) : ¬ inR x n := by
  have a := Int32.lt_iff_toInt_lt.mp h0
  have z : (0 : Int32).toInt = 0 := rfl
  intro h
  omega
theorem ir3 {x : Int32} {n : Nat} (hn : n < 2 ^ 31) (h1 : nI n ≤ x) : ¬ inR x n := by
  have b := Int32.le_iff_toInt_le.mp h1
  rw [nI_toInt hn] at b
  intro h
  omega
theorem inR_nI {x : Int32} {n : Nat} (h : inR x n) : ∃ k : Nat, k < n ∧ x = nI k := by
  refine ⟨x.toInt.toNat, by omega, ?_⟩
  have h2 : x.toInt < 2 ^ 31 := Int32.toInt_lt x
  apply Int32.toInt_inj.mp
  rw [nI_toInt (by omega)]
  omega
theorem inR_of {n k : Nat} (h : k < n) (hn : n < 2 ^ 31) : inR (nI k) n := by
  constructor
  · rw [nI_toInt (by omega)]; omega
  · rw [nI_toInt (by omega)]; omega
def prL (pl ce : Int64) (has dn : Bool) : Int64 := if has then pl ||| ce else if dn then pl &&& (ce ^^^ (-1)) else pl
theorem bt_0 {q : Nat} (k : Nat) (h : q &&& 2 ^ k = 0) : nI 0 = bI (q.testBit k) := by
  have e : q.testBit k = false := by
    have h1 := congrArg (fun z => z.testBit k) h
    simpa [Nat.testBit_and, Nat.testBit_two_pow_self] using h1
  rw [e]; rfl
theorem bt_1 {q : Nat} (k : Nat) (h : ¬ q &&& 2 ^ k = 0) : nI 1 = bI (q.testBit k) := by
  cases e : q.testBit k with
  | true => rfl
  | false =>
    exfalso; apply h
    apply Nat.eq_of_testBit_eq
    intro i
    rw [Nat.testBit_and, Nat.testBit_two_pow, Nat.zero_testBit]
    by_cases hi : k = i
    · subst hi; simp [e]
    · simp [hi]
theorem lgc {x : Int64} : lg_cmp x 0 = 0 ↔ x = 0 := by
  unfold lg_cmp
  by_cases h2 : x = 0
  · subst h2; simp
  · by_cases h3 : (0 : Int64) < x
    · simp [h2, h3]
    · simp [h2, h3]
/-- whether the cell k is in a plane -/
def tl (p : Int64) (k : Nat) : Bool := decide (¬ p &&& cbL k = 0)
def atL (p1 p2 p3 : Int64) (k : Nat) : Nat := ((if tl p1 k then 1 else 0) ||| (if tl p2 k then 2 else 0)) ||| (if tl p3 k then 4 else 0)
def ofL (p1 p2 p3 : Int64) (q : Nat) : Int64 := ((if q.testBit 0 then p1 else p1 ^^^ (-1)) &&& (if q.testBit 1 then p2 else p2 ^^^ (-1))) &&& (if q.testBit 2 then p3 else p3 ^^^ (-1))
def rowL (W : Nat) : Int64 := ((1 : Int64) <<< ((nI W).toInt64 &&& 63)) - 1
def papL (W : Nat) : Nat → Int64
  | 0 => 0
  | y + 1 => papL W y ||| (rowL W <<< ((nI (8 * y)).toInt64 &&& 63))
theorem dns_0 {D k : Nat} (h : D / 2 ^ k &&& 1 = 0) : nI 0 = bI (D.testBit k) := by
  have e : D.testBit k = false := by
    rw [Nat.testBit, Nat.shiftRight_eq_div_pow, Nat.and_comm, h]; rfl
  rw [e]; rfl
theorem dns_1 {D k : Nat} (h : ¬ D / 2 ^ k &&& 1 = 0) : nI 1 = bI (D.testBit k) := by
  have e : D.testBit k = true := by
    rw [Nat.testBit, Nat.shiftRight_eq_div_pow, Nat.and_comm]; simpa using h
  rw [e]; rfl
theorem tb_f {q : Nat} (k : Nat) (h : q &&& 2 ^ k = 0) : q.testBit k = false := by
  have h1 := congrArg (fun z => z.testBit k) h
  simpa [Nat.testBit_and, Nat.testBit_two_pow_self] using h1
theorem tb_t {q : Nat} (k : Nat) (h : ¬ q &&& 2 ^ k = 0) : q.testBit k = true := by
  cases e : q.testBit k with
  | true => rfl
  | false =>
    exfalso; apply h
    apply Nat.eq_of_testBit_eq
    intro i
    rw [Nat.testBit_and, Nat.testBit_two_pow, Nat.zero_testBit]
    by_cases hi : k = i
    · subst hi; simp [e]
    · simp [hi]
section LC
variable {p : Program} {l : Launch} {e : Env} {R : Room} {s : State} {m : MethodId} {args : Array Value} {below : List Frame} {meth : Method} {c : Code} {cells slots : Nat} {Q : State → Prop}
variable {G : va_G} {A : Nat → Prop} {nL : Nat} {cc : ByteArray} {own : String} {Ts : List Cond} {ret : Option FieldType} {y : Nat → ClassId} {t : Nat} {ws : va_W} {lv : List (Nat × Value)} {pc : Nat} {rest : List Value}
theorem kw_if_eq_L (C : Cx p s m args meth c cc nL own Ts ret A G y t) {x : Int64} {off : Int} {tgt : Nat} (hdg : decode cc pc = .ok (.ifCond .eq off, 3)) (ht : (pc : Int) + off = (tgt : Int)) (kt : x = 0 → KW p l e R s m args below meth c cells slots Q G A nL ws lv tgt rest) (kf : ¬ x = 0 → KW p l e R s m args below meth c cells slots Q G A nL ws lv (pc + 3) rest) : KW p l e R s m args below meth c cells slots Q G A nL ws lv pc (.int (lg_cmp x 0) :: rest) := kw_if_eq C hdg ht (fun h => kt (lgc.mp h)) (fun h => kf (fun q => h (lgc.mpr q)))
theorem kw_if_ne_L (C : Cx p s m args meth c cc nL own Ts ret A G y t) {x : Int64} {off : Int} {tgt : Nat} (hdg : decode cc pc = .ok (.ifCond .ne off, 3)) (ht : (pc : Int) + off = (tgt : Int)) (kt : ¬ x = 0 → KW p l e R s m args below meth c cells slots Q G A nL ws lv tgt rest) (kf : x = 0 → KW p l e R s m args below meth c cells slots Q G A nL ws lv (pc + 3) rest) : KW p l e R s m args below meth c cells slots Q G A nL ws lv pc (.int (lg_cmp x 0) :: rest) := kw_if_ne C hdg ht (fun h => kt (fun q => h (lgc.mpr q))) (fun h => kf (lgc.mp h))
theorem kw_if_eq_B (C : Cx p s m args meth c cc nL own Ts ret A G y t) {b : Bool} {off : Int} {tgt : Nat} (hdg : decode cc pc = .ok (.ifCond .eq off, 3)) (ht : (pc : Int) + off = (tgt : Int)) (kt : b = false → KW p l e R s m args below meth c cells slots Q G A nL ws lv tgt rest) (kf : b = true → KW p l e R s m args below meth c cells slots Q G A nL ws lv (pc + 3) rest) : KW p l e R s m args below meth c cells slots Q G A nL ws lv pc (.int (bI b) :: rest) := kw_if_eq C hdg ht (fun h => kt (bI_eq0.mp h)) (fun h => kf (by cases b; exact absurd rfl h; rfl))
theorem kw_if_ne_B (C : Cx p s m args meth c cc nL own Ts ret A G y t) {b : Bool} {off : Int} {tgt : Nat} (hdg : decode cc pc = .ok (.ifCond .ne off, 3)) (ht : (pc : Int) + off = (tgt : Int)) (kt : b = true → KW p l e R s m args below meth c cells slots Q G A nL ws lv tgt rest) (kf : b = false → KW p l e R s m args below meth c cells slots Q G A nL ws lv (pc + 3) rest) : KW p l e R s m args below meth c cells slots Q G A nL ws lv pc (.int (bI b) :: rest) := kw_if_ne C hdg ht (fun h => kt (by cases b; exact absurd rfl h; rfl)) (fun h => kf (bI_eq0.mp h))
end LC
