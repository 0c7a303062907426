/-! THE LARGEST COMMON INDEPENDENT SETS OF TWO RANK FUNCTIONS -/
theorem cf_mat_con {r : Nat → Nat} {e : Nat} (h : cf_mat r) (h1 : r (2 ^ e) = 1) : cf_mat (fun S => r (S ||| 2 ^ e) - 1) := by
  obtain ⟨_, b, c, d⟩ := h
  have one : ∀ S, 1 ≤ r (S ||| 2 ^ e) := fun S => by
    rw [← h1]
    exact b _ _ fun i hi => by rw [Nat.testBit_or, hi, Bool.or_true]
  refine ⟨by simp [h1], fun S T q => ?_, fun S f => ?_, fun S T => ?_⟩
  · have := b (S ||| 2 ^ e) (T ||| 2 ^ e) fun i hi => by
      rw [Nat.testBit_or] at hi ⊢
      cases k : S.testBit i with
      | true => rw [q i k]; rfl
      | false => rw [k] at hi; simp only [Bool.false_or] at hi; rw [hi, Bool.or_true]
    dsimp only
    omega
  · have := c (S ||| 2 ^ e) f
    have e1 : S ||| 2 ^ f ||| 2 ^ e = S ||| 2 ^ e ||| 2 ^ f := by rw [Nat.or_assoc, Nat.or_comm (2 ^ f), ← Nat.or_assoc]
    dsimp only
    rw [e1]
    have := one S
    omega
  · have q := d (S ||| 2 ^ e) (T ||| 2 ^ e)
    have e1 : (S ||| 2 ^ e) ||| (T ||| 2 ^ e) = S ||| T ||| 2 ^ e := Nat.eq_of_testBit_eq fun i => by
      simp only [Nat.testBit_or]; cases S.testBit i <;> cases T.testBit i <;> cases (2 ^ e).testBit i <;> rfl
    have e2 : (S ||| 2 ^ e) &&& (T ||| 2 ^ e) = (S &&& T) ||| 2 ^ e := Nat.eq_of_testBit_eq fun i => by
      simp only [Nat.testBit_or, Nat.testBit_and]; cases S.testBit i <;> cases T.testBit i <;> cases (2 ^ e).testBit i <;> rfl
    rw [e1, e2] at q
    have a1 := one (S ||| T)
    have a2 := one (S &&& T)
    have a3 := one S
    have a4 := one T
    dsimp only
    omega
theorem cf_full_succ (n : Nat) : cf_full (n + 1) = cf_full n ||| 2 ^ n := Nat.eq_of_testBit_eq fun i => by
  rw [cf_add_bit, cf_full_bit, cf_full_bit]
  by_cases c : i < n
  · simp [c, Nat.lt_succ_of_lt c]
  · by_cases d : n = i
    · subst d; simp
    · have : ¬ i < n + 1 := by omega
      simp [c, d, this]
/-- what is left out has no bit from n on -/
theorem cf_sub_full {A n i : Nat} (h : cf_sub A (cf_full n)) (hi : n ≤ i) : A.testBit i = false := by
  cases c : A.testBit i with
  | false => rfl
  | true => have := h i c; rw [cf_full_bit] at this; have := of_decide_eq_true this; omega
theorem cf_edm : ∀ (n : Nat) (r1 r2 : Nat → Nat), cf_mat r1 → cf_mat r2 → ∀ k, (∀ A, cf_sub A (cf_full n) → k ≤ r1 A + r2 (cf_diff (cf_full n) A)) → ∃ I, cf_sub I (cf_full n) ∧ cf_card n I = k ∧ r1 I = k ∧ r2 I = k := by
  intro n
  induction n with
  | zero =>
    intro r1 r2 m1 m2 k hk
    have h := hk 0 (cf_sub_0 _)
    have e0 : cf_diff (cf_full 0) 0 = 0 := rfl
    rw [e0, m1.1, m2.1] at h
    have : k = 0 := by omega
    subst this
    exact ⟨0, cf_sub_0 _, rfl, m1.1, m2.1⟩
  | succ n ih =>
    intro r1 r2 m1 m2 k hk
    have hup : ∀ A, cf_sub A (cf_full n) → cf_sub A (cf_full (n + 1)) := fun A hA i hi => by
      have := hA i hi
      rw [cf_full_bit] at this ⊢
      exact decide_eq_true (by have := of_decide_eq_true this; omega)
    have hupe : ∀ A, cf_sub A (cf_full n) → cf_sub (A ||| 2 ^ n) (cf_full (n + 1)) := fun A hA i hi => by
      rw [cf_add_bit] at hi
      by_cases c : n = i
      · subst c; rw [cf_full_bit]; simp
      · exact hup A hA i (by simpa [c] using hi)
    by_cases hdel : ∀ A, cf_sub A (cf_full n) → k ≤ r1 A + r2 (cf_diff (cf_full n) A)
    · obtain ⟨I, i1, i2, i3, i4⟩ := ih r1 r2 m1 m2 k hdel
      refine ⟨I, hup I i1, ?_, i3, i4⟩
      simp only [cf_card]
      rw [cf_sub_full i1 (Nat.le_refl n), i2]
      rfl
    · have hA : ∃ A, cf_sub A (cf_full n) ∧ r1 A + r2 (cf_diff (cf_full n) A) < k := by
        rcases Classical.em (∃ A, cf_sub A (cf_full n) ∧ r1 A + r2 (cf_diff (cf_full n) A) < k) with q | q
        · exact q
        · exact absurd (fun A hA => Nat.le_of_not_lt fun hc => q ⟨A, hA, hc⟩) hdel
      obtain ⟨A, hA1, hA2⟩ := hA
      have hAn := cf_sub_full hA1 (Nat.le_refl n)
      -- the last element is no loop
      have l1 : r1 (2 ^ n) = 1 := by
        have u := m1.2.2.1 0 n
        rw [Nat.zero_or, m1.1] at u
        rcases Nat.lt_or_ge (r1 (2 ^ n)) 1 with q | q
        · exfalso
          have s := m1.2.2.2 A (2 ^ n)
          have g := hk (A ||| 2 ^ n) (hupe A hA1)
          have e1 : cf_diff (cf_full (n + 1)) (A ||| 2 ^ n) = cf_diff (cf_full n) A := Nat.eq_of_testBit_eq fun i => by
            rw [cf_diff_bit, cf_diff_bit, cf_full_succ, cf_add_bit, cf_add_bit, cf_full_bit]
            by_cases c : n = i
            · subst c; simp
            · simp [c]
          rw [e1] at g
          omega
        · omega
      have l2 : r2 (2 ^ n) = 1 := by
        have u := m2.2.2.1 0 n
        rw [Nat.zero_or, m2.1] at u
        rcases Nat.lt_or_ge (r2 (2 ^ n)) 1 with q | q
        · exfalso
          have s := m2.2.2.2 (cf_diff (cf_full n) A) (2 ^ n)
          have g := hk A (hup A hA1)
          have e1 : cf_diff (cf_full (n + 1)) A = cf_diff (cf_full n) A ||| 2 ^ n := Nat.eq_of_testBit_eq fun i => by
            rw [cf_diff_bit, cf_full_succ, cf_add_bit, cf_add_bit, cf_diff_bit]
            by_cases c : n = i
            · subst c; simp [hAn]
            · simp [c]
          rw [e1] at g
          omega
        · omega
      have m1' := cf_mat_con m1 l1
      have m2' := cf_mat_con m2 l2
      have one1 : ∀ S, 1 ≤ r1 (S ||| 2 ^ n) := fun S => by
        rw [← l1]; exact m1.2.1 _ _ fun i hi => by rw [Nat.testBit_or, hi, Bool.or_true]
      have one2 : ∀ S, 1 ≤ r2 (S ||| 2 ^ n) := fun S => by
        rw [← l2]; exact m2.2.1 _ _ fun i hi => by rw [Nat.testBit_or, hi, Bool.or_true]
      obtain ⟨I, i1, i2, i3, i4⟩ := ih _ _ m1' m2' (k - 1) (fun B hB => by
        rcases Nat.lt_or_ge ((r1 (B ||| 2 ^ n) - 1) + (r2 (cf_diff (cf_full n) B ||| 2 ^ n) - 1)) (k - 1) with q | q
        · exfalso
          have hBn := cf_sub_full hB (Nat.le_refl n)
          have a1 := one1 B
          have a2 := one2 (cf_diff (cf_full n) B)
          have s1 := m1.2.2.2 A (B ||| 2 ^ n)
          have s2 := m2.2.2.2 (cf_diff (cf_full n) A) (cf_diff (cf_full n) B ||| 2 ^ n)
          have g1 := hk (A ||| (B ||| 2 ^ n)) (fun i hi => by
            rw [Nat.testBit_or] at hi
            cases c : A.testBit i with
            | true => exact hup A hA1 i c
            | false => rw [c, Bool.false_or] at hi; exact hupe B hB i hi)
          have g2 := hk (A &&& (B ||| 2 ^ n)) (fun i hi => by
            rw [Nat.testBit_and] at hi
            cases c : A.testBit i with
            | true => exact hup A hA1 i c
            | false => rw [c] at hi; simp at hi)
          have e1 : cf_diff (cf_full (n + 1)) (A &&& (B ||| 2 ^ n)) = cf_diff (cf_full n) A ||| (cf_diff (cf_full n) B ||| 2 ^ n) := Nat.eq_of_testBit_eq fun i => by
            rw [cf_diff_bit, cf_full_succ, cf_add_bit, Nat.testBit_and, cf_add_bit, Nat.testBit_or, cf_diff_bit, cf_add_bit, cf_diff_bit]
            by_cases c : n = i
            · subst c; simp [hAn, hBn]
            · simp [c]; cases (cf_full n).testBit i <;> cases A.testBit i <;> cases B.testBit i <;> rfl
          have e2 : cf_diff (cf_full (n + 1)) (A ||| (B ||| 2 ^ n)) = cf_diff (cf_full n) A &&& (cf_diff (cf_full n) B ||| 2 ^ n) := Nat.eq_of_testBit_eq fun i => by
            rw [cf_diff_bit, cf_full_succ, cf_add_bit, Nat.testBit_or, cf_add_bit, Nat.testBit_and, cf_diff_bit, cf_add_bit, cf_diff_bit]
            by_cases c : n = i
            · subst c; simp [cf_full_bit]
            · simp [c]; cases (cf_full n).testBit i <;> cases A.testBit i <;> cases B.testBit i <;> rfl
          rw [e2] at g1
          rw [e1] at g2
          omega
        · exact q)
      try dsimp only at i3 i4
      have b1 := one1 I
      have b2 := one2 I
      refine ⟨I ||| 2 ^ n, hupe I i1, ?_, by omega, by omega⟩
      simp only [cf_card]
      rw [cf_card_congr (T := I) (fun i hi => by rw [cf_add_bit]; simp; omega), i2, cf_add_bit]
      simp
      omega
