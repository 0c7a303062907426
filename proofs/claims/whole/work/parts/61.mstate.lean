/-! THE MODEL'S OBJECT: at place q, with its arrays behind it -/
def atM (w : va_W) (q : Nat) (k0 : Nat → ClassId) (am : Nat → Nat) (mv mc mo me : Nat → Nat) (mw : Nat → Int32) (mm : Nat → Nat) (mk : Nat) (mn fb sb : Nat → Nat) : Prop :=
  w[q]? = some (am 0, .inr (3, [.ref (am 1), .ref (am 2), .ref (am 3), .ref (am 4), .ref (am 5), .ref (am 6), .int (nI mk), .ref (am 7), .ref (am 8), .ref (am 9)]))
  ∧ w[q + 1]? = some (am 1, .inl (k0 0, 8, .inl (fun j => nI (mv j)))) ∧ w[q + 2]? = some (am 2, .inl (k0 0, 8, .inl (fun j => nI (mc j))))
  ∧ w[q + 3]? = some (am 3, .inl (k0 2, 8, .inl (fun j => nI (mo j)))) ∧ w[q + 4]? = some (am 4, .inl (k0 0, 192, .inl (fun j => nI (me j))))
  ∧ w[q + 5]? = some (am 5, .inl (k0 0, 96, .inl mw)) ∧ w[q + 6]? = some (am 6, .inl (k0 0, 24, .inl (fun j => nI (mm j))))
  ∧ w[q + 7]? = some (am 7, .inl (k0 0, 32, .inl (fun j => nI (mn j)))) ∧ w[q + 8]? = some (am 8, .inl (k0 3, 4096, .inl (fun j => nI (fb j))))
  ∧ w[q + 9]? = some (am 9, .inl (k0 3, 4096, .inl (fun j => nI (sb j))))
theorem atM_fr {w u : va_W} {q : Nat} {k0 : Nat → ClassId} {am mv mc mo me : Nat → Nat} {mw : Nat → Int32} {mm : Nat → Nat} {mk : Nat} {mn fb sb : Nat → Nat} {P : Nat → Prop} (h : atM w q k0 am mv mc mo me mw mm mk mn fb sb) (hf : kx_fr w u P) (hP : ∀ j, q ≤ j → j < q + 10 → ¬ P j) : atM u q k0 am mv mc mo me mw mm mk mn fb sb := by
  obtain ⟨h0, h1, h2, h3, h4, h5, h6, h7, h8, h9⟩ := h
  exact ⟨by rw [hf _ (hP _ (by omega) (by omega))]; exact h0, by rw [hf _ (hP _ (by omega) (by omega))]; exact h1, by rw [hf _ (hP _ (by omega) (by omega))]; exact h2, by rw [hf _ (hP _ (by omega) (by omega))]; exact h3, by rw [hf _ (hP _ (by omega) (by omega))]; exact h4, by rw [hf _ (hP _ (by omega) (by omega))]; exact h5, by rw [hf _ (hP _ (by omega) (by omega))]; exact h6, by rw [hf _ (hP _ (by omega) (by omega))]; exact h7, by rw [hf _ (hP _ (by omega) (by omega))]; exact h8, by rw [hf _ (hP _ (by omega) (by omega))]; exact h9⟩
/-- bounds of what it holds -/
def minv (mv mc mo me : Nat → Nat) (mw : Nat → Int32) : Prop := ∀ g, g < 8 → mc g ≤ 12 ∧ mv g ≤ 24 ∧ mo g ≤ 1 ∧ (∀ e, e < mc g → me (24 * g + 2 * e) < 24 ∧ me (24 * g + 2 * e + 1) < 24) ∧ gw_in (fun e => mw (12 * g + e)) (mc g)
/-- ORDER, as the model asks for it -/
def mo_lt (a b : Nat) : Prop := cf_card 12 a < cf_card 12 b ∨ (cf_card 12 a = cf_card 12 b ∧ cf_lex a b)
