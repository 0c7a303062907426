/-! WHERE THE FORESTS AND THE GRAPHS LIE -/
/-- a forest at place q: its object, its rows, its parts -/
def atF (w : va_W) (q : Nat) (k0 : Nat → ClassId) (f r t : Nat) (rows parts : Nat → Nat) (k : Nat) : Prop :=
  w[q]? = some (f, .inr (0, [.ref r, .ref t, .int (nI k)])) ∧ w[q + 1]? = some (r, .inl (k0 0, 12, .inl (fun j => nI (rows j)))) ∧ w[q + 2]? = some (t, .inl (k0 0, 12, .inl (fun j => nI (parts j))))
/-- a graph at place q: its object, its lines, its weights -/
def atG (w : va_W) (q : Nat) (k0 : Nat → ClassId) (g a b : Nat) (L : Nat → Nat) (f : Nat → Int32) (n : Nat) (v o : Int32) : Prop :=
  w[q]? = some (g, .inr (1, [.ref a, .ref b, .int (nI n), .int v, .int o])) ∧ w[q + 1]? = some (a, .inl (k0 0, 12, .inl (fun j => nI (L j)))) ∧ w[q + 2]? = some (b, .inl (k0 0, 12, .inl f))
theorem atF_fr {w u : va_W} {q : Nat} {k0 : Nat → ClassId} {f r t : Nat} {rows parts : Nat → Nat} {k : Nat} {P : Nat → Prop} (h : atF w q k0 f r t rows parts k) (hf : kx_fr w u P) (hp : ¬ P q ∧ ¬ P (q + 1) ∧ ¬ P (q + 2)) : atF u q k0 f r t rows parts k :=
  ⟨by rw [hf _ hp.1]; exact h.1, by rw [hf _ hp.2.1]; exact h.2.1, by rw [hf _ hp.2.2]; exact h.2.2⟩
theorem atG_fr {w u : va_W} {q : Nat} {k0 : Nat → ClassId} {g a b : Nat} {L : Nat → Nat} {f : Nat → Int32} {n : Nat} {v o : Int32} {P : Nat → Prop} (h : atG w q k0 g a b L f n v o) (hf : kx_fr w u P) (hp : ¬ P q ∧ ¬ P (q + 1) ∧ ¬ P (q + 2)) : atG u q k0 g a b L f n v o :=
  ⟨by rw [hf _ hp.1]; exact h.1, by rw [hf _ hp.2.1]; exact h.2.1, by rw [hf _ hp.2.2]; exact h.2.2⟩
/-- bounds of rests and ways -/
theorem fo_rest_lt {rows : Nat → Nat} {v k : Nat} (hv : v < 2 ^ 24) (h : ∀ i, i < k → rows i < 2 ^ 24) : ∀ i, i ≤ k → fo_rest rows v i < 2 ^ 24 := by
  intro i
  induction i with
  | zero => intro _; exact hv
  | succ i ih =>
    intro hi
    have h1 := ih (by omega)
    show fo_step _ _ < _
    unfold fo_step
    split
    · exact Nat.xor_lt_two_pow h1 (h i (by omega))
    · exact h1
theorem fo_way_lt {rows parts : Nat → Nat} {v k : Nat} (h : ∀ i, i < k → parts i < 2 ^ 12) : ∀ i, i ≤ k → fo_way rows parts v i < 2 ^ 12 := by
  intro i
  induction i with
  | zero => intro _; exact Nat.two_pow_pos 12
  | succ i ih =>
    intro hi
    have h1 := ih (by omega)
    simp only [fo_way]
    split
    · exact Nat.xor_lt_two_pow h1 (h i (by omega))
    · exact h1
