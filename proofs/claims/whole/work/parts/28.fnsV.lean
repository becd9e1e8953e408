/-! the reader and the reading, step by step -/
theorem sc_some {lt : Nat → Nat} {n j : Nat} {u v : MSt} (hj : j < n) (hb : lt j ≠ 32) (h : tkM (lt j) u = some v) : scanM lt (n - j) j u = scanM lt (n - nx lt n (j + 1)) (nx lt n (j + 1)) v := by
  rw [← scan_nx v _ (j + 1) rfl, show n - j = (n - (j + 1)) + 1 from by omega]
  conv => lhs; unfold scanM
  rw [if_neg hb, h]
theorem sc_none {lt : Nat → Nat} {n j : Nat} {u : MSt} (hj : j < n) (hb : lt j ≠ 32) (h : tkM (lt j) u = none) : scanM lt (n - j) j u = (some j, u) := by
  rw [show n - j = (n - (j + 1)) + 1 from by omega]
  unfold scanM; rw [if_neg hb, h]
theorem sc_stuck {lt : Nat → Nat} {n j : Nat} {u : MSt} (hj : j ≤ n) (hb : j < n → lt j ≠ 32) (h : j < n → tkM (lt j) u = none) (hu : ¬ (u.1 = 32 ∧ 0 < u.2.2.2.1)) : rdM n (scanM lt (n - j) j u) = nI j := by
  by_cases q : j < n
  · rw [sc_none q (hb q) (h q)]; rfl
  · rw [show n - j = 0 from by omega]
    show (if u.1 = 32 ∧ 0 < u.2.2.2.1 then (-9 : Int32) else nI n) = nI j
    rw [if_neg hu, show n = j from by omega]
theorem tkJ_1 (lt : Nat → Nat) (n j : Nat) : tkJ lt n (-9) true j = nx lt n (j + 1) := if_pos ⟨rfl, rfl⟩
theorem tkJ_2 (lt : Nat → Nat) (n : Nat) (fa : Int32) (j : Nat) : tkJ lt n fa false j = j := if_neg (fun h => by cases h.2)
theorem tkJ_3 {fa : Int32} (h : fa ≠ -9) (lt : Nat → Nat) (n : Nat) (b : Bool) (j : Nat) : tkJ lt n fa b j = j := if_neg (fun q => h q.1)
theorem tkA_1 (j : Nat) : tkA (-9) true j = -9 := rfl
theorem tkA_2 (j : Nat) : tkA (-9) false j = nI j := rfl
theorem tkA_3 {fa : Int32} (h : fa ≠ -9) (b : Bool) (j : Nat) : tkA fa b j = fa := if_neg h
theorem tkM_beg {ch : Nat} {fg W H N : Nat} {ikf pcf : Nat → Nat} (h : ((ch = 99 ∨ ch = 100) ∧ N < 6) ∨ (ch = 114 ∧ H < 6)) : tkM ch (32, fg, W, H, N, ikf, pcf) = some (ch, 0, W, H, N, ikf, pcf) := by
  unfold tkM; rw [if_neg (by omega), if_neg (by omega)]
  exact if_pos ⟨rfl, h⟩
theorem tkM_beg0 {ch : Nat} {fg W H N : Nat} {ikf pcf : Nat → Nat} (h : ¬ (((ch = 99 ∨ ch = 100) ∧ N < 6) ∨ (ch = 114 ∧ H < 6))) : tkM ch (32, fg, W, H, N, ikf, pcf) = none := by
  unfold tkM
  split
  · rfl
  · split
    · split
      · rename_i q; exact absurd q (show ¬ ((32 : Nat) = 114) from by decide)
      · rfl
    · exact if_neg (fun q => h q.2)
theorem ink_step {lt : Nat → Nat} {n j W H N fg : Nat} {b : Bool} {ikf pcf : Nat → Nat} {J2 J3 J4 : Nat} {F2 F3 F4 : Int32} (hn : n ≤ 100) (hj : j < n) (hb : (b = true ∧ lt j = 100) ∨ (b = false ∧ lt j = 99)) (e2 : J2 = tkJ lt n (-9) (decide (N < 6)) j) (g2 : F2 = tkA (-9) (decide (N < 6)) j) (e3 : J3 = tkJ lt n F2 (figG 1 lt n J2) J2) (g3 : F3 = tkA F2 (figG 1 lt n J2) J2) (e4 : J4 = tkJ lt n F3 (decide (tokN lt n J3 = 3)) J3) (g4 : F4 = tkA F3 (decide (tokN lt n J3 = 3)) J3) :
    (F4 = -9 ∧ F3 = -9 ∧ N < 6 ∧ j < J4 ∧ J4 ≤ n ∧ (J4 < n → lt J4 ≠ 32) ∧ scanM lt (n - J4) J4 (32, 1, W, H, N + 1, va_up ikf N (dnV b (lt J2 - 48)), pcf) = scanM lt (n - j) j (32, fg, W, H, N, ikf, pcf)) ∨ (F4 ≠ -9 ∧ J4 ≤ n ∧ F4 = rdM n (scanM lt (n - j) j (32, fg, W, H, N, ikf, pcf))) := by
  have hne : lt j = 99 ∨ lt j = 100 := by rcases hb with h | h; exact Or.inr h.2; exact Or.inl h.2
  have hb32 : lt j ≠ 32 := by omega
  by_cases hN : N < 6
  · rw [decide_eq_true hN, tkJ_1] at e2
    rw [decide_eq_true hN, tkA_1] at g2
    subst g2
    have s1 := sc_some hj hb32 (tkM_beg (fg := fg) (W := W) (H := H) (N := N) (ikf := ikf) (pcf := pcf) (Or.inl ⟨hne, hN⟩))
    rw [← e2] at s1
    have hj2 : j < J2 ∧ J2 ≤ n := by have := nx_le (lt := lt) (show j + 1 ≤ n from hj); rw [← e2] at this; omega
    have nb2 : J2 < n → lt J2 ≠ 32 := by rw [e2]; exact nx_nb _ _ rfl
    rw [s1]
    by_cases hF : figG 1 lt n J2 = true
    · have q := figG_t hF
      rw [hF, tkJ_1] at e3
      rw [hF, tkA_1] at g3
      subst g3
      have hd : (if lt j = 100 then 8 + (lt J2 - 48) else lt J2 - 48) = dnV b (lt J2 - 48) := by
        rcases hb with h | h
        · rw [if_pos h.2, h.1]; rfl
        · rw [if_neg (by rw [h.2]; decide), h.1]; rfl
      have t2 : tkM (lt J2) (lt j, 0, W, H, N, ikf, pcf) = some (lt j, 1, W, H, N + 1, va_up ikf N (dnV b (lt J2 - 48)), pcf) := by
        unfold tkM; rw [if_neg (by omega), if_pos (by omega), if_neg (show ¬ (lt j = 114) from by omega), ← hd]
        exact if_neg (by omega)
      have s2 := sc_some q.1 (nb2 q.1) t2
      rw [← e3] at s2
      rw [s2]
      have hj3 : J2 < J3 ∧ J3 ≤ n := by have := nx_le (lt := lt) (show J2 + 1 ≤ n from q.1); rw [← e3] at this; omega
      have nb3 : J3 < n → lt J3 ≠ 32 := by rw [e3]; exact nx_nb _ _ rfl
      by_cases hT : tokN lt n J3 = 3
      · have q3 := tok3.mp hT
        rw [decide_eq_true hT, tkJ_1] at e4
        rw [decide_eq_true hT, tkA_1] at g4
        have t3 : tkM (lt J3) (lt j, 1, W, H, N + 1, va_up ikf N (dnV b (lt J2 - 48)), pcf) = some (32, 1, W, H, N + 1, va_up ikf N (dnV b (lt J2 - 48)), pcf) := by
          unfold tkM; rw [if_pos q3.2]
          exact (if_neg (by omega)).trans (if_neg (by omega))
        have s3 := sc_some q3.1 (nb3 q3.1) t3
        rw [← e4] at s3
        have hj4 : J3 < J4 ∧ J4 ≤ n := by have := nx_le (lt := lt) (show J3 + 1 ≤ n from q3.1); rw [← e4] at this; omega
        refine Or.inl ⟨g4, rfl, hN, by omega, hj4.2, ?_, s3.symm⟩
        rw [e4]; exact nx_nb _ _ rfl
      · rw [decide_eq_false hT, tkJ_2] at e4
        rw [decide_eq_false hT, tkA_2] at g4
        refine Or.inr ⟨by rw [g4]; exact nI_ne9 (by omega), by omega, ?_⟩
        rw [g4]; refine (sc_stuck hj3.2 nb3 (fun h => ?_) (fun h => by have h1 : lt j = 32 := h.1; omega)).symm
        have h59 : lt J3 ≠ 59 := fun f => hT (tok3.mpr ⟨h, f⟩)
        unfold tkM; rw [if_neg h59]
        split
        · rw [if_neg (show ¬ (lt j = 114) from by omega)]; exact if_pos (Or.inr (Or.inl (by decide)))
        · exact if_neg (fun f => by have := f.1; omega)
    · have hF' : figG 1 lt n J2 = false := by cases h : figG 1 lt n J2; rfl; exact absurd h hF
      rw [hF', tkJ_2] at e3
      rw [hF', tkA_2] at g3
      have h9 : F3 ≠ -9 := by rw [g3]; exact nI_ne9 (by omega)
      rw [tkJ_3 h9] at e4
      rw [tkA_3 h9] at g4
      refine Or.inr ⟨by rw [g4]; exact h9, by omega, ?_⟩
      rw [g4, g3]; refine (sc_stuck hj2.2 nb2 (fun h => ?_) (fun h => by have h1 : lt j = 32 := h.1; omega)).symm
      have hnf : ¬ (49 ≤ lt J2 ∧ lt J2 ≤ 55) := fun f => hF (decide_eq_true ⟨h, by omega, by omega⟩)
      unfold tkM
      split
      · exact if_pos (Or.inr rfl)
      · split
        · rw [if_neg (show ¬ (lt j = 114) from by omega)]; exact if_pos (Or.inr (Or.inr (by omega)))
        · exact if_neg (fun f => by have := f.1; omega)
  · rw [decide_eq_false hN, tkJ_2] at e2
    rw [decide_eq_false hN, tkA_2] at g2
    have h9 : F2 ≠ -9 := by rw [g2]; exact nI_ne9 (by omega)
    rw [tkJ_3 h9] at e3
    rw [tkA_3 h9] at g3
    rw [g3, tkJ_3 h9] at e4
    rw [g3, tkA_3 h9] at g4
    refine Or.inr ⟨by rw [g4]; exact h9, by omega, ?_⟩
    rw [g4, g2, sc_none hj hb32 (tkM_beg0 (by omega))]; rfl
/-- a row, cell by cell -/
theorem row_loop {lt : Nat → Nat} {n W H N : Nat} {ikf : Nat → Nat} (hn : n ≤ 100) (hW0 : H = 0 → W = 0) (hW1 : 0 < H → 0 < W) (SC : Option Nat × MSt) : ∀ (k q j : Nat) (pcf : Nat → Nat), 7 ≤ q + k → q ≤ (if H = 0 then 6 else W) → (if H = 0 then 6 else W) ≤ 6 → j ≤ n → (j < n → lt j ≠ 32) → scanM lt (n - j) j (114, q, W, H, N, ikf, pcf) = SC →
    ∃ q1 j1 f1 pcf1, rwL lt n W H k (q, j, -9, pcf) = (q1, j1, f1, pcf1) ∧ j ≤ j1 ∧ j1 ≤ n ∧ q1 ≤ 6 ∧ (j1 < n → lt j1 ≠ 32) ∧ ((f1 = -9 ∧ 0 < q1 ∧ (H = 0 → tokN lt n j1 = 3) ∧ (0 < H → q1 = W) ∧ scanM lt (n - j1) j1 (114, q1, W, H, N, ikf, pcf1) = SC) ∨ (f1 ≠ -9 ∧ f1 = rdM n SC))
  | 0, q, j, pcf, h7, hq, h6, hj, hb, hs => by omega
  | k + 1, q, j, pcf, h7, hq, h6, hj, hb, hs => by
    by_cases hc : q = 0 ∨ q < W ∨ (H = 0 ∧ tokN lt n j ≠ 3)
    · have hu : rwL lt n W H (k + 1) (q, j, -9, pcf) = rwL lt n W H k (rwS lt n W H (q, j, -9, pcf)) := rwL_s (v := (q, j, -9, pcf)) ⟨rfl, hc⟩ (Nat.succ_pos k)
      rw [hu]; unfold rwS
      by_cases hB : rwG lt n W H q j = true
      · rw [if_pos hB]
        have g := rwG_t hB
        have q1 := figG_t g.1
        dsimp only
        rw [hB, tkJ_1, tkA_1]
        have t2 : tkM (lt j) (114, q, W, H, N, ikf, pcf) = some (114, q + 1, W, H, N, ikf, va_up pcf (6 * H + q) (lt j - 48)) := by
          unfold tkM; rw [if_neg (by omega), if_pos (by omega), if_pos rfl]
          exact if_pos g.2
        have s2 := sc_some q1.1 (hb q1.1) t2
        have hl := nx_le (lt := lt) (show j + 1 ≤ n from q1.1)
        obtain ⟨a1, a2, a3, a4, r1, r2, r3, r4, r5, r6⟩ := row_loop hn hW0 hW1 SC k (q + 1) (nx lt n (j + 1)) (va_up pcf (6 * H + q) (lt j - 48)) (by omega) g.2 h6 hl.2 (nx_nb _ _ rfl) (s2.symm.trans hs)
        exact ⟨a1, a2, a3, a4, r1, by omega, r3, r4, r5, r6⟩
      · rw [if_neg hB]
        have hB' : rwG lt n W H q j = false := by cases h : rwG lt n W H q j; rfl; exact absurd h hB
        dsimp only
        rw [hB', tkJ_2, tkA_2, rwL_e (fun h => absurd h.1 (nI_ne9 (by omega)))]
        refine ⟨q, j, nI j, pcf, rfl, Nat.le_refl _, hj, by omega, hb, Or.inr ⟨nI_ne9 (by omega), ?_⟩⟩
        rw [← hs]
        refine (sc_stuck hj hb (fun h => ?_) (fun h => absurd h.1 (show ¬ ((114 : Nat) = 32) from by decide))).symm
        have hnf : ¬ (48 ≤ lt j ∧ lt j ≤ 55 ∧ q < (if H = 0 then 6 else W)) := fun f => hB (rwG_1 rfl (decide_eq_true ⟨h, by omega, f.2.1⟩) f.2.2)
        unfold tkM
        split
        · rename_i h59
          have ht : tokN lt n j = 3 := tok3.mpr ⟨h, h59⟩
          by_cases hq0 : q = 0
          · refine if_pos ?_; exact Or.inr hq0
          · refine (if_neg (by omega)).trans ((if_pos rfl).trans (if_pos ?_)); omega
        · split
          · rw [if_pos rfl]; refine if_neg (fun f => hnf ⟨by omega, by omega, f⟩)
          · rfl
    · rw [rwL_e (fun h => hc h.2)]
      refine ⟨q, j, -9, pcf, rfl, Nat.le_refl _, hj, by omega, hb, Or.inl ⟨rfl, by omega, fun h => ?_, fun h => ?_, hs⟩⟩
      · omega
      · rw [if_neg (by omega)] at hq; omega
theorem row_step {lt : Nat → Nat} {n j W H N fg : Nat} {ikf pcf : Nat → Nat} {RS : RwS} {J4 : Nat} {F4 : Int32} (hn : n ≤ 100) (hj : j < n) (hr : lt j = 114) (hW0 : H = 0 → W = 0) (hW1 : 0 < H → 0 < W) (hW : W ≤ 6) (e4 : J4 = tkJ lt n RS.2.2.1 (decide (tokN lt n RS.2.1 = 3)) RS.2.1) (g4 : F4 = tkA RS.2.2.1 (decide (tokN lt n RS.2.1 = 3)) RS.2.1) (eR : RS = rwL lt n W H 7 (0, tkJ lt n (-9) (decide (H < 6)) j, tkA (-9) (decide (H < 6)) j, pcf)) :
    (F4 = -9 ∧ H < 6 ∧ j < J4 ∧ J4 ≤ n ∧ (J4 < n → lt J4 ≠ 32) ∧ 0 < (if H = 0 then RS.1 else W) ∧ (if H = 0 then RS.1 else W) ≤ 6 ∧ scanM lt (n - J4) J4 (32, RS.1, (if H = 0 then RS.1 else W), H + 1, N, ikf, RS.2.2.2) = scanM lt (n - j) j (32, fg, W, H, N, ikf, pcf)) ∨ (F4 ≠ -9 ∧ J4 ≤ n ∧ F4 = rdM n (scanM lt (n - j) j (32, fg, W, H, N, ikf, pcf))) := by
  have hb32 : lt j ≠ 32 := by omega
  by_cases hH : H < 6
  · rw [decide_eq_true hH, tkJ_1, tkA_1] at eR
    have s1 := sc_some hj hb32 (tkM_beg (fg := fg) (W := W) (H := H) (N := N) (ikf := ikf) (pcf := pcf) (Or.inr ⟨hr, hH⟩))
    rw [s1, hr]
    have hl := nx_le (lt := lt) (show j + 1 ≤ n from hj)
    have h6 : (if H = 0 then 6 else W) ≤ 6 := by split <;> omega
    obtain ⟨q1, j1, f1, p1, r1, r2, r3, r4, r5, r6⟩ := row_loop (N := N) (ikf := ikf) hn hW0 hW1 (scanM lt (n - nx lt n (j + 1)) (nx lt n (j + 1)) (114, 0, W, H, N, ikf, pcf)) 7 0 (nx lt n (j + 1)) pcf (by omega) (Nat.zero_le _) h6 hl.2 (nx_nb _ _ rfl) rfl
    rw [r1] at eR
    subst eR
    dsimp only at e4 g4 ⊢
    rcases r6 with ⟨a1, a2, a3, a4, a5⟩ | ⟨a1, a2⟩
    · subst a1
      have hWq : (if H = 0 then q1 else W) = q1 := by split; rfl; exact (a4 (by omega)).symm
      rw [hWq, ← a5]
      by_cases hT : tokN lt n j1 = 3
      · have q3 := tok3.mp hT
        rw [decide_eq_true hT, tkJ_1] at e4
        rw [decide_eq_true hT, tkA_1] at g4
        have t3 : tkM (lt j1) (114, q1, W, H, N, ikf, p1) = some (32, q1, q1, H + 1, N, ikf, p1) := by
          unfold tkM; rw [if_pos q3.2]
          exact (if_neg (by omega)).trans ((if_pos rfl).trans (if_neg (fun h => h.2 (a4 h.1))))
        have s3 := sc_some q3.1 (r5 q3.1) t3
        rw [← e4] at s3
        have hj4 : j1 < J4 ∧ J4 ≤ n := by have := nx_le (lt := lt) (show j1 + 1 ≤ n from q3.1); rw [← e4] at this; omega
        refine Or.inl ⟨g4, hH, by omega, hj4.2, ?_, a2, r4, s3.symm⟩
        rw [e4]; exact nx_nb _ _ rfl
      · rw [decide_eq_false hT, tkJ_2] at e4
        rw [decide_eq_false hT, tkA_2] at g4
        refine Or.inr ⟨by rw [g4]; exact nI_ne9 (by omega), by omega, ?_⟩
        rw [g4]; refine (sc_stuck r3 r5 (fun h => ?_) (fun h => absurd h.1 (show ¬ ((114 : Nat) = 32) from by decide))).symm
        have h59 : lt j1 ≠ 59 := fun f => hT (tok3.mpr ⟨h, f⟩)
        have hH0 : H ≠ 0 := fun f => hT (a3 f)
        unfold tkM; rw [if_neg h59]
        split
        · rw [if_pos rfl]; refine if_neg ?_; rw [if_neg hH0, a4 (by omega)]; exact Nat.lt_irrefl _
        · rfl
    · rw [tkJ_3 a1] at e4
      rw [tkA_3 a1] at g4
      exact Or.inr ⟨by rw [g4]; exact a1, by omega, by rw [g4, a2]⟩
  · rw [decide_eq_false hH, tkJ_2, tkA_2, rwL_e (fun h => absurd h.1 (nI_ne9 (by omega)))] at eR
    subst eR
    dsimp only at e4 g4 ⊢
    have h9 : nI j ≠ -9 := nI_ne9 (by omega)
    rw [tkJ_3 h9] at e4
    rw [tkA_3 h9] at g4
    refine Or.inr ⟨by rw [g4]; exact h9, by omega, ?_⟩
    rw [g4, sc_none hj hb32 (tkM_beg0 (by omega))]; rfl
def rtP (SC : Option Nat × MSt) (n : Nat) (r f1 : Int32) (W1 H1 N1 : Nat) (ik1 pc1 : Nat → Nat) : Prop := f1 = rdM n SC ∧ (f1 = -9 → r = nI (N1 + H1) ∧ W1 ≤ 6 ∧ H1 ≤ 6 ∧ N1 ≤ 6 ∧ 0 < W1 ∧ 0 < H1 ∧ ∃ fg, SC = (none, (32, fg, W1, H1, N1, ik1, pc1)))
def rtI (SC : Option Nat × MSt) (lt : Nat → Nat) (n it j : Nat) (f : Int32) (W H N fg : Nat) (ik pc : Nat → Nat) : Prop := j ≤ n ∧ (f = -9 → scanM lt (n - j) j (32, fg, W, H, N, ik, pc) = SC ∧ (j < n → lt j ≠ 32) ∧ W ≤ 6 ∧ H ≤ 6 ∧ N ≤ 6 ∧ it = N + H ∧ (H = 0 → W = 0) ∧ (0 < H → 0 < W)) ∧ (f ≠ -9 → f = rdM n SC)
theorem rt_0 {lt : Nat → Nat} {n : Nat} : rtI (scanM lt n 0 (32, 0, 0, 0, 0, fun _ => 0, fun _ => 0)) lt n 0 (nx lt n 0) (-9) 0 0 0 0 (fun _ => 0) (fun _ => 0) :=
  ⟨(nx_le (Nat.zero_le n)).2, fun _ => ⟨(scan_nx _ _ 0 rfl).symm, nx_nb _ _ rfl, by decide, by decide, by decide, rfl, fun _ => rfl, fun h => absurd h (by decide)⟩, fun h => absurd rfl h⟩
theorem rt_e1 {SC : Option Nat × MSt} {lt : Nat → Nat} {n it j W H N fg : Nat} {f : Int32} {ik pc : Nat → Nat} (h : rtI SC lt n it j f W H N fg ik pc) (hf : ¬ f = -9) : rtP SC n (nI it) f W H N ik pc := ⟨h.2.2 hf, fun q => absurd q hf⟩
theorem rt_e2 {SC : Option Nat × MSt} {lt : Nat → Nat} {n it j W H N fg : Nat} {f : Int32} {ik pc : Nat → Nat} (h : rtI SC lt n it j f W H N fg ik pc) (hf : f = -9) (ht : tokN lt n j = 0) (hH : H ≠ 0) : rtP SC n (nI it) f W H N ik pc := by
  obtain ⟨a1, a2, a3, a4, a5, a6, a7, a8⟩ := h.2.1 hf
  have hjn := tok0.mp ht
  rw [show n - j = 0 from by omega] at a1
  have hS : SC = (none, (32, fg, W, H, N, ik, pc)) := a1.symm
  refine ⟨?_, fun _ => ⟨by rw [a6], a3, a4, a5, a8 (by omega), by omega, fg, hS⟩⟩
  have h0 : 0 < H := by omega
  rw [hS, hf]; exact (if_pos ⟨rfl, h0⟩).symm
theorem rt_ink {SC : Option Nat × MSt} {lt : Nat → Nat} {n it j W H N fg : Nat} {b : Bool} {f : Int32} {ikf pcf : Nat → Nat} {J2 J3 J4 : Nat} {F2 F3 F4 : Int32} (hn : n ≤ 100) (h : rtI SC lt n it j f W H N fg ikf pcf) (hf : f = -9) (hj : j < n) (hb : (b = true ∧ lt j = 100) ∨ (b = false ∧ lt j = 99)) (e4 : J4 = tkJ lt n F3 (decide (tokN lt n J3 = 3)) J3) (g4 : F4 = tkA F3 (decide (tokN lt n J3 = 3)) J3) (e3 : J3 = tkJ lt n F2 (figG 1 lt n J2) J2) (g3 : F3 = tkA F2 (figG 1 lt n J2) J2) (e2 : J2 = tkJ lt n (-9) (decide (N < 6)) j) (g2 : F2 = tkA (-9) (decide (N < 6)) j) :
    rtI SC lt n (it + 1) J4 F4 W H (if F3 = -9 then N + 1 else N) 1 (if F3 = -9 then va_up ikf N (dnV b (lt J2 - 48)) else ikf) pcf ∧ (F4 = -9 → j < J4) := by
  obtain ⟨a1, a2, a3, a4, a5, a6, a7, a8⟩ := h.2.1 hf
  rcases ink_step (W := W) (H := H) (fg := fg) (ikf := ikf) (pcf := pcf) hn hj hb e2 g2 e3 g3 e4 g4 with ⟨b1, b2, b3, b4, b5, b6, b7⟩ | ⟨b1, b2, b3⟩
  · rw [if_pos b2, if_pos b2]
    exact ⟨⟨b5, fun _ => ⟨b7.trans a1, b6, a3, a4, by omega, by omega, a7, a8⟩, fun q => absurd b1 q⟩, fun _ => b4⟩
  · exact ⟨⟨b2, fun q => absurd q b1, fun _ => by rw [← a1]; exact b3⟩, fun q => absurd q b1⟩
theorem rt_row {SC : Option Nat × MSt} {lt : Nat → Nat} {n it j W H N fg : Nat} {f : Int32} {ikf pcf : Nat → Nat} {RS : RwS} {J4 : Nat} {F4 : Int32} (hn : n ≤ 100) (h : rtI SC lt n it j f W H N fg ikf pcf) (hf : f = -9) (hj : j < n) (hr : lt j = 114) (e4 : J4 = tkJ lt n RS.2.2.1 (decide (tokN lt n RS.2.1 = 3)) RS.2.1) (g4 : F4 = tkA RS.2.2.1 (decide (tokN lt n RS.2.1 = 3)) RS.2.1) (eR : RS = rwL lt n W H 7 (0, tkJ lt n (-9) (decide (H < 6)) j, tkA (-9) (decide (H < 6)) j, pcf)) :
    rtI SC lt n (it + 1) J4 F4 (if H = 0 then RS.1 else W) (H + 1) N RS.1 ikf RS.2.2.2 ∧ (F4 = -9 → j < J4) := by
  obtain ⟨a1, a2, a3, a4, a5, a6, a7, a8⟩ := h.2.1 hf
  rcases row_step (N := N) (fg := fg) (ikf := ikf) hn hj hr a7 a8 a3 e4 g4 eR with ⟨b1, b2, b3, b4, b5, b6, b7, b8⟩ | ⟨b1, b2, b3⟩
  · exact ⟨⟨b4, fun _ => ⟨b8.trans a1, b5, b7, by omega, a5, by omega, fun q => absurd q (by omega), fun _ => b6⟩, fun q => absurd b1 q⟩, fun _ => b3⟩
  · exact ⟨⟨b2, fun q => absurd q b1, fun _ => by rw [← a1]; exact b3⟩, fun q => absurd q b1⟩
theorem rt_oth {SC : Option Nat × MSt} {lt : Nat → Nat} {n it j W H N fg : Nat} {f : Int32} {ikf pcf : Nat → Nat} {b : Bool} (k fg' : Nat) (hn : n ≤ 100) (h : rtI SC lt n it j f W H N fg ikf pcf) (hf : f = -9) (ht : tokN lt n j ≠ 1) (hc : tokN lt n j ≠ 0 ∨ H = 0) :
    rtI SC lt n k (tkJ lt n (tkA (-9) false j) b (tkJ lt n (-9) false j)) (tkA (tkA (-9) false j) b (tkJ lt n (-9) false j)) W H N fg' ikf pcf ∧ (tkA (tkA (-9) false j) b (tkJ lt n (-9) false j) = -9 → j < tkJ lt n (tkA (-9) false j) b (tkJ lt n (-9) false j)) := by
  obtain ⟨a1, a2, a3, a4, a5, a6, a7, a8⟩ := h.2.1 hf
  have hj := h.1
  have h9 : nI j ≠ -9 := nI_ne9 (by omega)
  rw [tkJ_2, tkA_2, tkJ_3 h9, tkA_3 h9]
  refine ⟨⟨hj, fun q => absurd q h9, fun _ => ?_⟩, fun q => absurd q h9⟩
  rw [← a1]
  by_cases q : j < n
  · have : ¬ (lt j = 99 ∨ lt j = 100 ∨ lt j = 114) := fun f => ht (tok1.mpr ⟨q, f⟩)
    rw [sc_none q (a2 q) (tkM_beg0 (by omega))]; rfl
  · have h0 : tokN lt n j = 0 := tok0.mpr (by omega)
    have hH : H = 0 := by omega
    exact (sc_stuck hj a2 (fun f => absurd f q) (fun f => by have f2 : 0 < H := f.2; omega)).symm
theorem rt_m {n j j' k : Nat} {f f' : Int32} (hj : j ≤ n) (hf : f = -9) (h : f' = -9 → j < j') (hm : (if f = -9 then n + 2 - j else 0) < k + 1) : (if f' = -9 then n + 2 - j' else 0) < k := by
  rw [if_pos hf] at hm
  split
  · rename_i q; have := h q; omega
  · omega
def drP (i : Nat) (W H N : Nat) (ikf pcf : Nat → Nat) : Nat → Int32 := fun z => if 45 ≤ z ∧ z < 45 + i then nI (z - 45) else drF W H N ikf pcf z
theorem drP_up {i : Nat} (W H N : Nat) (ikf pcf : Nat → Nat) (z : Nat) : upd (drP i W H N ikf pcf) (45 + i) (nI i) z = drP (i + 1) W H N ikf pcf z := by
  by_cases q : z = 45 + i
  · subst q; rw [pk_us]; unfold drP; rw [if_pos (by omega), show 45 + i - 45 = i from by omega]
  · rw [pk_un q]; unfold drP
    by_cases h : 45 ≤ z ∧ z < 45 + i
    · rw [if_pos h, if_pos (by omega)]
    · rw [if_neg h, if_neg (by omega)]
theorem drP_0 (W H N : Nat) (ikf pcf : Nat → Nat) (z : Nat) : drF W H N ikf pcf z = drP 0 W H N ikf pcf z := by
  unfold drP; rw [if_neg (by omega)]
theorem dr_0 (z : Nat) : (nI 0 : Int32) = drF 0 0 0 (fun _ => 0) (fun _ => 0) z := by
  unfold drF; repeat' split
  all_goals rfl
theorem inkD_eq (fa : Int32) (W H N v : Nat) (ikf pcf : Nat → Nat) (z : Nat) : inkD fa W H N v ikf pcf z = drF W H (if fa = -9 then N + 1 else N) (if fa = -9 then va_up ikf N v else ikf) pcf z := by
  unfold inkD; split <;> rfl
