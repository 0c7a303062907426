/-! THE CLASS'S OBJECT: at place b, with its cells behind it -/
def atC (w : va_W) (b : Nat) (k0 : Nat → ClassId) (ad : Nat → Nat) (nE nV : Nat → Nat) (op : Nat → Int32) (LL : Nat → Nat → Nat) (ww : Nat → Nat → Int32) : Prop :=
  w[b]? = some (ad 0, .inr (2, [.ref (ad 1), .ref (ad 2), .ref (ad 5), .ref (ad 8)]))
  ∧ (∃ fq : Nat → Option Nat, w[b + 1]? = some (ad 1, .inl (k0 1, 8, .inr (.inr (.inr (.inr fq))))) ∧ ∀ i, i < 8 → fq i = some (ad (9 + 3 * i)))
  ∧ (∃ (rows parts : Nat → Nat) (k : Nat), atF w (b + 2) k0 (ad 2) (ad 3) (ad 4) rows parts k)
  ∧ (∃ (rows parts : Nat → Nat) (k : Nat), atF w (b + 5) k0 (ad 5) (ad 6) (ad 7) rows parts k)
  ∧ (∃ d : Nat → Nat, w[b + 8]? = some (ad 8, .inl (k0 0, 12, .inl (fun j => nI (d j)))))
  ∧ ∀ i, i < 8 → atG w (b + 9 + 3 * i) k0 (ad (9 + 3 * i)) (ad (10 + 3 * i)) (ad (11 + 3 * i)) (LL i) (ww i) (nE i) (nI (nV i)) (op i)
/-- one graph changed -/
theorem atC_put {w u : va_W} {b : Nat} {k0 : Nat → ClassId} {ad nE nV : Nat → Nat} {op : Nat → Int32} {LL : Nat → Nat → Nat} {ww : Nat → Nat → Int32} (h : atC w b k0 ad nE nV op LL ww) {i : Nat} {L : Nat → Nat} {f : Nat → Int32} {n v : Nat} {o : Int32}
    (hf : kx_fr w u (fun j => j = b + 9 + 3 * i ∨ j = b + 9 + 3 * i + 1 ∨ j = b + 9 + 3 * i + 2)) (hg : atG u (b + 9 + 3 * i) k0 (ad (9 + 3 * i)) (ad (10 + 3 * i)) (ad (11 + 3 * i)) L f n (nI v) o) :
    atC u b k0 ad (va_up nE i n) (va_up nV i v) (va_up op i o) (va_up LL i L) (va_up ww i f) := by
  obtain ⟨h1, ⟨fq, h2, h3⟩, ⟨r1, p1, k1, h4⟩, ⟨r2, p2, k2, h5⟩, ⟨d, h6⟩, h7⟩ := h
  refine ⟨by rw [hf _ (by omega)]; exact h1, ⟨fq, by rw [hf _ (by omega)]; exact h2, h3⟩, ⟨r1, p1, k1, atF_fr h4 hf ⟨by omega, by omega, by omega⟩⟩, ⟨r2, p2, k2, atF_fr h5 hf ⟨by omega, by omega, by omega⟩⟩, ⟨d, by rw [hf _ (by omega)]; exact h6⟩, fun j hj => ?_⟩
  by_cases c : j = i
  · subst c
    rw [va_up_self, va_up_self, va_up_self, va_up_self, va_up_self]; exact hg
  · rw [va_up_ne _ _ c, va_up_ne _ _ c, va_up_ne _ _ c, va_up_ne _ _ c, va_up_ne _ _ c]
    exact atG_fr (h7 j hj) hf ⟨by omega, by omega, by omega⟩
/-- the forests or the draft changed -/
theorem atC_rest {w u : va_W} {b : Nat} {k0 : Nat → ClassId} {ad nE nV : Nat → Nat} {op : Nat → Int32} {LL : Nat → Nat → Nat} {ww : Nat → Nat → Int32} (h : atC w b k0 ad nE nV op LL ww)
    (hf : kx_fr w u (fun j => b + 2 ≤ j ∧ j < b + 9)) (h4 : ∃ (rows parts : Nat → Nat) (k : Nat), atF u (b + 2) k0 (ad 2) (ad 3) (ad 4) rows parts k) (h5 : ∃ (rows parts : Nat → Nat) (k : Nat), atF u (b + 5) k0 (ad 5) (ad 6) (ad 7) rows parts k)
    (h6 : ∃ d : Nat → Nat, u[b + 8]? = some (ad 8, .inl (k0 0, 12, .inl (fun j => nI (d j))))) : atC u b k0 ad nE nV op LL ww := by
  obtain ⟨h1, ⟨fq, h2, h3⟩, _, _, _, h7⟩ := h
  exact ⟨by rw [hf _ (by omega)]; exact h1, ⟨fq, by rw [hf _ (by omega)]; exact h2, h3⟩, h4, h5, h6, fun j hj => atG_fr (h7 j hj) hf ⟨by omega, by omega, by omega⟩⟩
/-- nothing of it changed -/
theorem atC_fr {w u : va_W} {b : Nat} {k0 : Nat → ClassId} {ad nE nV : Nat → Nat} {op : Nat → Int32} {LL : Nat → Nat → Nat} {ww : Nat → Nat → Int32} {P : Nat → Prop} (h : atC w b k0 ad nE nV op LL ww) (hf : kx_fr w u P) (hP : ∀ j, b ≤ j → j < b + 33 → ¬ P j) : atC u b k0 ad nE nV op LL ww := by
  obtain ⟨h1, ⟨fq, h2, h3⟩, ⟨r1, p1, k1, h4⟩, ⟨r2, p2, k2, h5⟩, ⟨d, h6⟩, h7⟩ := h
  exact ⟨by rw [hf _ (hP _ (by omega) (by omega))]; exact h1, ⟨fq, by rw [hf _ (hP _ (by omega) (by omega))]; exact h2, h3⟩, ⟨r1, p1, k1, atF_fr h4 hf ⟨hP _ (by omega) (by omega), hP _ (by omega) (by omega), hP _ (by omega) (by omega)⟩⟩, ⟨r2, p2, k2, atF_fr h5 hf ⟨hP _ (by omega) (by omega), hP _ (by omega) (by omega), hP _ (by omega) (by omega)⟩⟩, ⟨d, by rw [hf _ (hP _ (by omega) (by omega))]; exact h6⟩, fun j hj => atG_fr (h7 j hj) hf ⟨hP _ (by omega) (by omega), hP _ (by omega) (by omega), hP _ (by omega) (by omega)⟩⟩
