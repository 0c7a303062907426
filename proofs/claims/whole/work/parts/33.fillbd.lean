theorem fo_fill_row {L : Nat → Nat} {n S : Nat} {rows parts : Nat → Nat} (hL : ∀ e, e < n → L e < 2 ^ 24) : ∀ m, m ≤ n → ∀ i, i < (fo_fill L S rows parts m).2.2 → (fo_fill L S rows parts m).1 i < 2 ^ 24 := by
  intro m
  induction m with
  | zero => intro _ i hi; exact absurd hi (Nat.not_lt_zero i)
  | succ m ih =>
    intro hm
    have h1 := ih (by omega)
    simp only [fo_fill]
    split
    · unfold fo_takes
      split
      · exact h1
      · intro i hi
        dsimp only at hi ⊢
        rcases Nat.lt_or_ge i (fo_fill L S rows parts m).2.2 with q | q
        · rw [fo_up_lt _ _ q]; exact h1 i q
        · have : i = (fo_fill L S rows parts m).2.2 := by omega
          rw [this, fo_up_self]
          exact fo_rest_lt (hL m (by omega)) h1 _ (Nat.le_refl _)
    · exact h1
theorem fo_fill_bd {L : Nat → Nat} {n S : Nat} {rows parts : Nat → Nat} (hn : n ≤ 12) (hL : ∀ e, e < n → L e < 2 ^ 24) (m : Nat) (hm : m ≤ n) : (fo_fill L S rows parts m).2.2 ≤ 12 ∧ (∀ j, j < (fo_fill L S rows parts m).2.2 → (fo_fill L S rows parts m).1 j < 2 ^ 24) ∧ (m < n → fo_rest (fo_fill L S rows parts m).1 (L m) (fo_fill L S rows parts m).2.2 ≠ 0 → (fo_fill L S rows parts m).2.2 < 12) := by
  obtain ⟨B, h1, _, _, _⟩ := fo_fill_ok (L := L) (n := n) (S := S) (rows := rows) (parts := parts) m hm
  refine ⟨?_, fo_fill_row hL m hm, fun h h0 => ?_⟩
  · have := cf_card_le n B
    rw [h1.2.2.1] at this; omega
  · have := fo_room h1 h h0
    omega
theorem fo_fill_in {L : Nat → Nat} {S : Nat} {rows parts : Nat → Nat} {m : Nat} (h : S.testBit m = true) : fo_fill L S rows parts (m + 1) = fo_takes L m (fo_fill L S rows parts m) := by
  simp only [fo_fill]; rw [if_pos h]
theorem fo_fill_out {L : Nat → Nat} {S : Nat} {rows parts : Nat → Nat} {m : Nat} (h : S.testBit m = false) : fo_fill L S rows parts (m + 1) = fo_fill L S rows parts m := by
  simp only [fo_fill]; rw [if_neg (by rw [h]; simp)]
theorem fo_takes_no {L : Nat → Nat} {e : Nat} {q : fo_St} (h : fo_rest q.1 (L e) q.2.2 = 0) : fo_takes L e q = q := by unfold fo_takes; rw [if_pos h]
theorem fo_takes_yes {L : Nat → Nat} {e : Nat} {q : fo_St} (h : fo_rest q.1 (L e) q.2.2 ≠ 0) : fo_takes L e q = (fo_up q.1 q.2.2 (fo_rest q.1 (L e) q.2.2), fo_up q.2.1 q.2.2 (fo_way q.1 q.2.1 (L e) q.2.2 ^^^ 2 ^ e), q.2.2 + 1) := by unfold fo_takes; rw [if_neg h]
