/-! the reference's functions, in numbers -/
def aN (f : Nat → Nat) : Nat → Int32 := fun j => nI (f j)
theorem upd_aN (f : Nat → Nat) (i v : Nat) : upd (aN f) i (nI v) = aN (va_up f i v) := by
  funext j
  by_cases h : j = i
  · subst h; rw [pk_us]; simp [aN, va_up]
  · rw [pk_un h]; simp [aN, va_up, h]
/-- a row of the reference, in numbers -/
def RowOk (Sr : Nat → Int32) (W H N : Nat) (pcl ik o bk kk : Nat → Nat) : Prop :=
  Sr 0 = nI W ∧ Sr 1 = nI H ∧ Sr 2 = nI N ∧ W ≤ 6 ∧ H ≤ 6 ∧ N ≤ 6 ∧ (∀ yy xx, yy < H → xx < W → Sr (3 + 6 * yy + xx) = nI (pcl (6 * yy + xx)) ∧ pcl (6 * yy + xx) < 8) ∧ (∀ i, i < N → Sr (39 + i) = nI (ik i) ∧ ik i < 16) ∧ (∀ q, q < N → Sr (45 + q) = nI (o q) ∧ o q < N) ∧ (∀ i yy, i < N → yy < 6 → Sr (51 + 6 * i + yy) = nI (bk (6 * i + yy)) ∧ bk (6 * i + yy) < 64) ∧ (∀ i, i < N → Sr (87 + i) = dI (kk i % 3) ∧ Sr (93 + i) = dI (kk i / 3) ∧ kk i < 9)
def onI (x : Int32) : Nat → Int32
  | 0 => nI 0
  | k + 1 => onI x k + ((x >>> (nI k &&& 31)) &&& nI 1)
theorem nI_0' : nI 0 = (0 : Int32) := nI_0
theorem in_R {v : Int32} {n : Nat} (hn : n < 2 ^ 30) : (¬ v < nI 0 ∧ ¬ (nI n - nI 1) < v) ↔ inR v n := by
  have e := pk_sub_toInt (a := n) (b := 1) hn (by decide)
  have z : (nI 0).toInt = 0 := by decide
  rw [Int32.lt_iff_toInt_lt, Int32.lt_iff_toInt_lt, e, z]
  unfold inR
  omega
theorem in_R1 {v : Int32} {n : Nat} (hn : n < 2 ^ 30) : (¬ v < nI 0 ∧ ¬ nI n < v) ↔ inR v (n + 1) := by
  have e := nI_toInt (n := n) (by omega)
  have z : (nI 0).toInt = 0 := by decide
  rw [Int32.lt_iff_toInt_lt, Int32.lt_iff_toInt_lt, e, z]
  unfold inR
  omega
theorem bI_iff {P R : Prop} {dP : Decidable P} {dR : Decidable R} (h : P ↔ R) : bI (@decide P dP) = bI (@decide R dR) := by
  by_cases q : P
  · rw [bI_t q, bI_t (h.mp q)]
  · rw [bI_f q, bI_f (fun z => q (h.mpr z))]
def prN (a b : Nat) : Nat := if a < 8 then b ||| a else a - 8
theorem prN_lt {a b : Nat} (ha : a < 16) (hb : b < 8) : prN a b < 8 := by
  unfold prN; split
  · exact Nat.or_lt_two_pow (n := 3) hb (by omega)
  · omega
/-- whether a column (a row) goes on to one that there is -/
abbrev okd (u a W : Nat) : Prop := 0 < u + a ∧ u + a < W + 1
/-- one block printed: behind k cells -/
def pvP (W H : Nat) (bk : Nat → Nat) (cd i a b : Nat) : Nat → (Nat → Nat) → Nat → Nat
  | 0, f => f
  | k + 1, f => if (bk (6 * i + k / 6)).testBit (k % 6) = true ∧ okd (k % 6) a W ∧ okd (k / 6) b H then va_up (pvP W H bk cd i a b k f) (6 * (k / 6 + b - 1) + (k % 6 + a - 1)) (prN cd (pvP W H bk cd i a b k f (6 * (k / 6 + b - 1) + (k % 6 + a - 1)))) else pvP W H bk cd i a b k f
/-- the proof behind some places -/
def pvF (W H : Nat) (bk ik o kk : Nat → Nat) (ox : Int32) (sk : Nat) : Nat → Nat → Nat
  | 0 => fun _ => 0
  | q + 1 => pvP W H bk (ik (o q)) (o q) (slOf ox sk kk (o q) % 3) (slOf ox sk kk (o q) / 3) 36 (pvF W H bk ik o kk ox sk q)
theorem pvP_lt {W H : Nat} {bk : Nat → Nat} {cd i a b : Nat} {f : Nat → Nat} (hc : cd < 16) (hf : ∀ j, f j < 8) : ∀ k j, pvP W H bk cd i a b k f j < 8
  | 0, j => hf j
  | k + 1, j => by
    unfold pvP
    have ih := pvP_lt (W := W) (H := H) (bk := bk) (i := i) (a := a) (b := b) hc hf k
    split
    · unfold va_up; split
      · exact prN_lt hc (ih _)
      · exact ih j
    · exact ih j
def wcX (pv pcl : Nat → Nat) (yy : Nat) : Nat → Nat
  | 0 => 0
  | xx + 1 => wcX pv pcl yy xx + (if pv (6 * yy + xx) = pcl (6 * yy + xx) then 0 else 1)
def wcY (pv pcl : Nat → Nat) (W : Nat) : Nat → Nat
  | 0 => 0
  | yy + 1 => wcY pv pcl W yy + wcX pv pcl yy W
theorem wcX_le (pv pcl : Nat → Nat) (yy n : Nat) : wcX pv pcl yy n ≤ n := by
  induction n with
  | zero => exact Nat.le_refl _
  | succ n ih => unfold wcX; split <;> omega
def gvF (oo ik : Nat → Nat) (set : Nat) : Nat → Nat
  | 0 => 0
  | q + 1 => if set.testBit (oo q) then prN (ik (oo q)) (gvF oo ik set q) else gvF oo ik set q
theorem gvF_lt {N : Nat} {oo ik : Nat → Nat} (set : Nat) (ho : ∀ q, q < N → oo q < N) (hi : ∀ i, i < N → ik i < 16) : ∀ q, q ≤ N → gvF oo ik set q < 8
  | 0, _ => by show 0 < 8; decide
  | q + 1, hq => by
    unfold gvF
    have ih := gvF_lt set ho hi q (by omega)
    split
    · exact prN_lt (hi _ (ho q (by omega))) ih
    · exact ih
def mkP (gvs : Nat → Nat) (set : Nat) : Nat → Nat
  | 0 => 0
  | q + 1 => if (nI q &&& (nI set ^^^ (-1))) = 0 then mkP gvs set q ||| 2 ^ gvs q else mkP gvs set q
theorem mkP_lt {gvs : Nat → Nat} {set : Nat} : ∀ n, (∀ q, q < n → gvs q < 8) → mkP gvs set n < 256
  | 0, _ => by show 0 < 256; decide
  | n + 1, h => by
    unfold mkP
    have ih := mkP_lt (gvs := gvs) (set := set) n (fun q hq => h q (by omega))
    split
    · exact Nat.or_lt_two_pow (n := 8) ih (Nat.pow_lt_pow_right (a := 2) (by decide) (h n (by omega)))
    · exact ih
def lsM (due : Nat) (mks : Nat → Nat) : Nat → Int32
  | 0 => -9
  | i + 1 => if (lsM due mks i = -9 ∨ onI (nI i) 8 < onI (lsM due mks i) 8) ∧ (nI due &&& (nI (mks i) ^^^ (-1))) = 0 then nI i else lsM due mks i
def wtX (pcl : Nat → Nat) (yy : Nat) : Nat → Nat → Nat
  | 0, v => v
  | xx + 1, v => wtX pcl yy xx v ||| 2 ^ pcl (6 * yy + xx)
def wtY (pcl : Nat → Nat) (W : Nat) : Nat → Nat
  | 0 => 0
  | yy + 1 => wtX pcl yy W (wtY pcl W yy)
def csI (bk : Nat → Nat) (i : Nat) : Nat → Int32
  | 0 => nI 0
  | yy + 1 => csI bk i yy + onI (nI (bk (6 * i + yy))) 8
def csA (bk : Nat → Nat) : Nat → Int32
  | 0 => nI 0
  | i + 1 => csA bk i + csI bk i 6
def slC (kk : Nat → Nat) : Nat → Nat
  | 0 => 0
  | i + 1 => slC kk i + (if kk i = 4 then 0 else 1)
theorem slC_le (kk : Nat → Nat) (n : Nat) : slC kk n ≤ n := by
  induction n with
  | zero => exact Nat.le_refl _
  | succ n ih => unfold slC; split <;> omega
theorem dI_0 : ∀ a, a < 3 → (dI a = 0 ↔ a = 1) := by decide
theorem tbm_t {D k : Nat} (h : D / 2 ^ k &&& 1 = 1) : D.testBit k = true := tbd_t (by omega)
theorem tbm_f {D k : Nat} (h : ¬ D / 2 ^ k &&& 1 = 1) : D.testBit k = false := tbd_f (by have := Nat.and_le_right (n := D / 2 ^ k) (m := 1); omega)
theorem tbm_d (D k : Nat) : D / 2 ^ k &&& 1 = if D.testBit k then 1 else 0 := by
  have h1 := Nat.and_le_right (n := D / 2 ^ k) (m := 1)
  by_cases q : D / 2 ^ k &&& 1 = 1
  · rw [tbm_t q, q]; rfl
  · rw [tbm_f q]
    show _ = 0
    omega
/-- the cells of a place that is printed: x by a slip -/
theorem ix_ok : ∀ u, u < 6 → ∀ a, a < 3 → ∀ W, W ≤ 6 → (inR (nI u + dI a) W ↔ okd u a W) := by decide +kernel
theorem ix_eq : ∀ u, u < 6 → ∀ a, a < 3 → 0 < u + a → nI u + dI a = nI (u + a - 1) := by decide +kernel
theorem cpR (f g : Nat → Int32) (b : Nat) : ∀ j, j < 99 → va_cpy f g b 0 99 j = f (b + j) := fun j hj => by
  rw [pk_cpy_in (Nat.zero_le _) (by omega)]; congr 1
theorem nt_step {pa p1 : Nat → Int32} {i : Nat} (h : ∀ j, p1 j = if j < i then pa (99 + j) else pa j) : ∀ j, upd p1 i (p1 (99 + i)) j = if j < i + 1 then pa (99 + j) else pa j := by
  intro j
  by_cases q : j = i
  · rw [q, pk_us, h, if_neg (by omega), if_pos (by omega)]
  · rw [pk_un q, h]
    by_cases q2 : j < i
    · rw [if_pos q2, if_pos (by omega)]
    · rw [if_neg q2, if_neg (by omega)]
theorem dI_inj : ∀ a, a < 3 → ∀ b, b < 3 → dI a = dI b → a = b := by decide
theorem sl4 : ∀ k, k < 9 → dI (k % 3) = 0 → dI (k / 3) = 0 → k = 4 := by decide
theorem fur_x1 : ∀ k, k < 9 → dI (k % 3) = nI 1 → nI 0 = dI (fur k % 3) := by decide
theorem fur_x2 : ∀ k, k < 9 → ¬ dI (k % 3) = nI 1 → dI (k % 3) + nI 1 = dI (fur k % 3) := by decide
theorem fur_y : ∀ k, k < 9 → dI (k / 3) = dI (fur k / 3) := by decide
theorem pvF_lt {W H N : Nat} {bk ik o kk : Nat → Nat} {Sr : Nat → Int32} {ox : Int32} {sk : Nat} (hi : ∀ i, i < N → Sr (39 + i) = nI (ik i) ∧ ik i < 16) {So : Nat → Int32} (ho : ∀ q, q < N → So (45 + q) = nI (o q) ∧ o q < N) : ∀ q, q ≤ N → ∀ j, pvF W H bk ik o kk ox sk q j < 8
  | 0, _ => fun _ => by show 0 < 8; decide
  | q + 1, hq => fun j => pvP_lt (hi _ (ho q (by omega)).2).2 (pvF_lt hi ho q (by omega)) 36 j
theorem RowOk_sw {Sr : Nat → Int32} {W H N : Nat} {pcl ik o bk kk : Nat → Nat} {qa qb ii jj : Nat} (h : RowOk Sr W H N pcl ik o bk kk) (hqa : qa < N) (hqb : qb < N) (hii : ii < N) (hjj : jj < N) : RowOk (upd (upd Sr (45 + qa) (nI jj)) (45 + qb) (nI ii)) W H N pcl ik (swO o qa qb ii jj) bk kk := by
  obtain ⟨h0, h1, h2, hW, hH, hN, hp, hi, ho, hb, hd⟩ := h
  have un : ∀ z, (z < 45 ∨ 51 ≤ z) → upd (upd Sr (45 + qa) (nI jj)) (45 + qb) (nI ii) z = Sr z := fun z hz => by rw [pk_un (by omega), pk_un (by omega)]
  refine ⟨by rw [un _ (by omega)]; exact h0, by rw [un _ (by omega)]; exact h1, by rw [un _ (by omega)]; exact h2, hW, hH, hN, fun yy xx a b => by rw [un _ (by omega)]; exact hp yy xx a b, fun i a => by rw [un _ (by omega)]; exact hi i a, fun z hz => ?_, fun i yy a b => by rw [un _ (by omega)]; exact hb i yy a b, fun i a => by rw [un _ (by omega), un _ (by omega)]; exact hd i a⟩
  have e := swO_ok (od := fun z => Sr (45 + z)) (q := qa) (r0 := qb) (i := ii) (j := jj) ho hii hjj z hz
  refine ⟨?_, e.2⟩
  rw [← e.1]
  by_cases h1 : z = qb
  · subst h1; rw [pk_us, pk_us]
  · rw [pk_un (by omega), pk_un h1]
    by_cases h2 : z = qa
    · subst h2; rw [pk_us, pk_us]
    · rw [pk_un (by omega), pk_un h2]
theorem RowOk_ord {Sr : Nat → Int32} {W H N : Nat} {pcl ik o bk kk : Nat → Nat} (h : RowOk Sr W H N pcl ik o bk kk) : ∀ q, q < N → Sr (45 + q) = nI (o q) ∧ o q < N := h.2.2.2.2.2.2.2.2.1
def ikS (bk : Nat → Nat) (xx zz : Nat) : Nat → Nat
  | 0 => 0
  | i + 1 => ikS bk xx zz i ||| (bk (6 * i + zz) / 2 ^ xx &&& 1) * 2 ^ i
theorem sh1_lt (D k : Nat) {i : Nat} (hi : i < 6) : (D / 2 ^ k &&& 1) * 2 ^ i < 2 ^ 32 := by
  have h1 := Nat.and_le_right (n := D / 2 ^ k) (m := 1)
  have h2 := pw2lt hi
  exact Nat.lt_of_le_of_lt (Nat.mul_le_mul h1 (Nat.le_of_lt h2)) (by decide)
def kMod (y : Nat → ClassId) (a : Nat → Nat) (m_thrown : Int32) (m_s : Nat → Int32) (m_draft : Nat → Int32) (m_past : Nat → Int32) (m_undoMany : Int32) (m_images : Nat → Int32) (m_isKept : Nat → Int32) (m_text : Nat → Int32) (m_typed : Int32) (m_seen : Nat → Int32) (m_seenMany : Int32) (m_at : Int32) (m_place : Int32) (m_token : Int32) (m_value : Int32) (m_fault : Int32) (m_proof : Nat → Int32) (m_order : Nat → Int32) (m_gives : Nat → Int32) (m_makes : Nat → Int32) (m_bestOrder : Nat → Int32) (m_by : Nat → Int32) : va_W := [((a 0), .inr (7, [.int m_thrown, .ref (a 1), .ref (a 2), .ref (a 3), .int m_undoMany, .ref (a 4), .ref (a 5), .ref (a 6), .int m_typed, .ref (a 7), .int m_seenMany, .int m_at, .int m_place, .int m_token, .int m_value, .int m_fault, .ref (a 8), .ref (a 9), .ref (a 10), .ref (a 11), .ref (a 12), .ref (a 13)])), ((a 1), .inl (y 1, 99, .inl m_s)), ((a 2), .inl (y 1, 99, .inl m_draft)), ((a 3), .inl (y 1, 594, .inl m_past)), ((a 4), .inl (y 1, 198, .inl m_images)), ((a 5), .inl (y 3, 2, .inl m_isKept)), ((a 6), .inl (y 1, 100, .inl m_text)), ((a 7), .inl (y 1, 18, .inl m_seen)), ((a 8), .inl (y 1, 36, .inl m_proof)), ((a 9), .inl (y 1, 6, .inl m_order)), ((a 10), .inl (y 1, 64, .inl m_gives)), ((a 11), .inl (y 1, 64, .inl m_makes)), ((a 12), .inl (y 1, 6, .inl m_bestOrder)), ((a 13), .inl (y 1, 288, .inl m_by))]
