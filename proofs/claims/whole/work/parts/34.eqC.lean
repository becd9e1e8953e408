/-- what is told lies on the paper -/
def MI : MSt → Prop
  | (it, fg, W, H, _, _, pcf) => fg ≤ 6 ∧ W ≤ 6 ∧ ∀ yy xx, xx < 6 → pcf (6 * yy + xx) < 8 ∧ (pcf (6 * yy + xx) ≠ 0 → (yy < H ∧ xx < W) ∨ (it = 114 ∧ yy = H ∧ xx < fg))
theorem MI_tk {ch : Nat} {v v' : MSt} (h : MI v) (e : tkM ch v = some v') : MI v' := by
  obtain ⟨it, fg, W, H, N, ikf, pcf⟩ := v
  obtain ⟨h1, h2, h3⟩ := h
  unfold tkM at e
  split at e
  · simp only [endM] at e
    split at e
    · cases e
    · split at e
      · rename_i d2
        split at e
        · cases e
        · cases e
          refine ⟨h1, h1, fun yy xx hx => ⟨(h3 yy xx hx).1, fun q => Or.inl ?_⟩⟩
          rcases (h3 yy xx hx).2 q with a | a <;> omega
      · cases e
        refine ⟨h1, h2, fun yy xx hx => ⟨(h3 yy xx hx).1, fun q => Or.inl ?_⟩⟩
        rcases (h3 yy xx hx).2 q with a | a <;> omega
  · split at e
    · split at e
      · rename_i c2 c3
        replace c3 : it = 114 := c3
        simp only [cellM] at e
        by_cases d1 : fg < (if H = 0 then 6 else W)
        · rw [if_pos d1] at e
          have hf : fg < 6 := by split at d1 <;> omega
          cases e
          refine ⟨hf, h2, fun yy xx hx => ?_⟩
          unfold va_up
          by_cases g : yy = H ∧ xx = fg
          · rw [if_pos (by omega)]; exact ⟨by omega, fun _ => Or.inr ⟨c3, g.1, by omega⟩⟩
          · rw [if_neg (by omega)]
            refine ⟨(h3 yy xx hx).1, fun q => ?_⟩
            rcases (h3 yy xx hx).2 q with a | a
            · exact Or.inl a
            · exact Or.inr ⟨a.1, a.2.1, by omega⟩
        · rw [if_neg d1] at e; cases e
      · rename_i c2 c3
        replace c3 : it ≠ 114 := c3
        simp only [inkM] at e
        split at e
        · cases e
        · cases e
          refine ⟨by decide, h2, fun yy xx hx => ⟨(h3 yy xx hx).1, fun q => ?_⟩⟩
          rcases (h3 yy xx hx).2 q with a | a
          · exact Or.inl a
          · exact absurd a.1 c3
    · simp only [begM] at e
      split at e
      · rename_i d1
        cases e
        refine ⟨by decide, h2, fun yy xx hx => ⟨(h3 yy xx hx).1, fun q => ?_⟩⟩
        rcases (h3 yy xx hx).2 q with a | a
        · exact Or.inl a
        · omega
      · cases e
theorem MI_scan {lt : Nat → Nat} : ∀ (k i : Nat) (v : MSt), MI v → MI (scanM lt k i v).2
  | 0, i, v, h => h
  | k + 1, i, v, h => by
    unfold scanM
    by_cases b : lt i = 32
    · rw [if_pos b]; exact MI_scan k (i + 1) v h
    · rw [if_neg b]
      cases e : tkM (lt i) v with
      | none => exact h
      | some v' => exact MI_scan k (i + 1) v' (MI_tk h e)
