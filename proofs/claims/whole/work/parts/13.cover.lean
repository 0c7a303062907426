/-! THE COVER: what is forced into every cover, if it is closed, is one -/
/-- a largest common set: independent in both, and no common one has more -/
def cf_com (L M : Nat → Nat) (n I : Nat) : Prop := cf_sub I (cf_full n) ∧ cf_ind L n I ∧ cf_ind M n I ∧ ∀ J, cf_sub J (cf_full n) → cf_ind L n J → cf_ind M n J → cf_card n J ≤ cf_card n I
/-- a cover: the rank of A in the first and that of the others in the second make no more than I has -/
def cf_cov (L M : Nat → Nat) (n I A : Nat) : Prop := cf_rk L n A + cf_rk M n (cf_diff (cf_full n) A) = cf_card n I
theorem cf_cov_ex {L M : Nat → Nat} {n I : Nat} (h : cf_com L M n I) : ∃ A, cf_sub A (cf_full n) ∧ cf_cov L M n I A := by
  obtain ⟨h0, h1, h2, h3⟩ := h
  rcases Classical.em (∃ A, cf_sub A (cf_full n) ∧ cf_rk L n A + cf_rk M n (cf_diff (cf_full n) A) ≤ cf_card n I) with ⟨A, a1, a2⟩ | q
  · refine ⟨A, a1, Nat.le_antisymm a2 ?_⟩
    have b1 : cf_card n (I &&& A) ≤ cf_rk L n A := cf_rk_ind (cf_ind_sub (fun i hi => by rw [Nat.testBit_and] at hi; cases c : I.testBit i <;> simp [c] at hi ⊢) h1) (fun j _ hj => by rw [Nat.testBit_and] at hj; cases c : A.testBit j <;> simp [c] at hj ⊢)
    have b2 : cf_card n (cf_diff I A) ≤ cf_rk M n (cf_diff (cf_full n) A) := cf_rk_ind (cf_ind_sub (fun i hi => by rw [cf_diff_bit] at hi; cases c : I.testBit i <;> simp [c] at hi ⊢) h2) (fun j hj hd => by rw [cf_diff_bit] at hd ⊢; rw [cf_full_bit]; cases c : A.testBit j <;> simp [c, hj] at hd ⊢)
    have b3 := cf_card_ui n (I &&& A) (cf_diff I A)
    have b4 : cf_card n ((I &&& A) &&& cf_diff I A) = 0 := cf_card_none fun i _ => by
      rw [Nat.testBit_and, Nat.testBit_and, cf_diff_bit]; cases I.testBit i <;> cases A.testBit i <;> rfl
    have b5 : cf_card n ((I &&& A) ||| cf_diff I A) = cf_card n I := cf_card_congr fun i _ => by
      rw [Nat.testBit_or, Nat.testBit_and, cf_diff_bit]; cases I.testBit i <;> cases A.testBit i <;> rfl
    omega
  · exfalso
    obtain ⟨J, j1, j2, j3, j4⟩ := cf_edm n _ _ (cf_rk_mat L n) (cf_rk_mat M n) (cf_card n I + 1) (fun A hA => by
      rcases Nat.lt_or_ge (cf_rk L n A + cf_rk M n (cf_diff (cf_full n) A)) (cf_card n I + 1) with r | r
      · exact absurd ⟨A, hA, by omega⟩ q
      · exact r)
    have := h3 J j1 (cf_ind_of_rk (by omega)) (cf_ind_of_rk (by omega))
    omega
/-- what a cover does with the common set: its edges in the cover span it in the first, the others span the others in the second -/
theorem cf_cov_sp {L M : Nat → Nat} {n I A : Nat} (h1 : cf_ind L n I) (h2 : cf_ind M n I) (h : cf_cov L M n I A) : (∀ e, e < n → A.testBit e = true → cf_sp L n (I &&& A) (L e)) ∧ ∀ e, e < n → A.testBit e = false → cf_sp M n (cf_diff I A) (M e) := by
  have s1 : cf_sub (I &&& A) I := fun i hi => by rw [Nat.testBit_and] at hi; cases c : I.testBit i <;> simp [c] at hi ⊢
  have s2 : cf_sub (cf_diff I A) I := fun i hi => by rw [cf_diff_bit] at hi; cases c : I.testBit i <;> simp [c] at hi ⊢
  have t1 : ∀ j, (I &&& A).testBit j = true → A.testBit j = true := fun j hj => by rw [Nat.testBit_and] at hj; cases c : A.testBit j <;> simp [c] at hj ⊢
  have t2 : ∀ j, j < n → (cf_diff I A).testBit j = true → (cf_diff (cf_full n) A).testBit j = true := fun j hj hd => by rw [cf_diff_bit] at hd ⊢; rw [cf_full_bit]; cases c : A.testBit j <;> simp [c, hj] at hd ⊢
  have b1 : cf_card n (I &&& A) ≤ cf_rk L n A := cf_rk_ind (cf_ind_sub s1 h1) (fun j _ hj => t1 j hj)
  have b2 : cf_card n (cf_diff I A) ≤ cf_rk M n (cf_diff (cf_full n) A) := cf_rk_ind (cf_ind_sub s2 h2) t2
  have b3 := cf_card_ui n (I &&& A) (cf_diff I A)
  have b4 : cf_card n ((I &&& A) &&& cf_diff I A) = 0 := cf_card_none fun i _ => by
    rw [Nat.testBit_and, Nat.testBit_and, cf_diff_bit]; cases I.testBit i <;> cases A.testBit i <;> rfl
  have b5 : cf_card n ((I &&& A) ||| cf_diff I A) = cf_card n I := cf_card_congr fun i _ => by
    rw [Nat.testBit_or, Nat.testBit_and, cf_diff_bit]; cases I.testBit i <;> cases A.testBit i <;> rfl
  have h' : cf_rk L n A + cf_rk M n (cf_diff (cf_full n) A) = cf_card n I := h
  refine ⟨fun e he hA => ?_, fun e he hA => ?_⟩
  · rcases Classical.em (cf_sp L n (I &&& A) (L e)) with q | q
    · exact q
    · exfalso
      have w := cf_rk_ind (S := A) (cf_ind_add he (cf_ind_sub s1 h1) q) (fun j _ hj => by
        rw [cf_add_bit] at hj
        by_cases c : e = j
        · subst c; exact hA
        · exact t1 j (by simpa [c] using hj))
      have hn : (I &&& A).testBit e = false := by
        cases c : (I &&& A).testBit e with
        | false => rfl
        | true => exact absurd (cf_sp_mem he c) q
      rw [cf_card_add he hn] at w
      omega
  · rcases Classical.em (cf_sp M n (cf_diff I A) (M e)) with q | q
    · exact q
    · exfalso
      have w := cf_rk_ind (S := cf_diff (cf_full n) A) (cf_ind_add he (cf_ind_sub s2 h2) q) (fun j hj hd => by
        rw [cf_add_bit] at hd
        by_cases c : e = j
        · subst c; rw [cf_diff_bit, cf_full_bit, hA]; simp [hj]
        · exact t2 j hj (by simpa [c] using hd))
      have hn : (cf_diff I A).testBit e = false := by
        cases c : (cf_diff I A).testBit e with
        | false => rfl
        | true => exact absurd (cf_sp_mem he c) q
      rw [cf_card_add he hn] at w
      omega
/-- the least cover: a set that is in every cover, and that is closed as the covers are, is one -/
theorem cf_cov_least {L M : Nat → Nat} {n I C : Nat} (h : cf_com L M n I) (hC : cf_sub C (cf_full n)) (hin : ∀ A, cf_sub A (cf_full n) → cf_cov L M n I A → cf_sub C A)
    (hg : ∀ e, e < n → C.testBit e = true → I.testBit e = false → cf_sp L n I (L e) → cf_sp L n (I &&& C) (L e))
    (hh : ∀ e, e < n → C.testBit e = false → I.testBit e = false → cf_sp M n (cf_diff I C) (M e)) : cf_cov L M n I C := by
  obtain ⟨A, a1, a2⟩ := cf_cov_ex h
  obtain ⟨h0, h1, h2, h3⟩ := h
  have sp := (cf_cov_sp h1 h2 a2).1
  have hCA := hin A a1 a2
  have s1 : cf_sub (I &&& C) I := fun i hi => by rw [Nat.testBit_and] at hi; cases c : I.testBit i <;> simp [c] at hi ⊢
  have s2 : cf_sub (cf_diff I C) I := fun i hi => by rw [cf_diff_bit] at hi; cases c : I.testBit i <;> simp [c] at hi ⊢
  have k1 : cf_bas L n C (I &&& C) := by
    refine ⟨fun i hi => by rw [Nat.testBit_and] at hi; cases c : C.testBit i <;> simp [c] at hi ⊢, cf_ind_sub s1 h1, fun e he hCe => ?_⟩
    cases c : I.testBit e with
    | true => exact cf_sp_mem he (by rw [Nat.testBit_and, c, hCe]; rfl)
    | false => exact hg e he hCe c (cf_sp_mono (fun i hi => by rw [Nat.testBit_and] at hi; cases d : I.testBit i <;> simp [d] at hi ⊢) (sp e he (hCA e hCe)))
  have k2 : cf_bas M n (cf_diff (cf_full n) C) (cf_diff I C) := by
    refine ⟨fun i hi => ?_, cf_ind_sub s2 h2, fun e he hd => ?_⟩
    · have := s2 i hi
      have := h0 i this
      rw [cf_diff_bit] at hi ⊢
      rw [this]
      cases c : C.testBit i <;> simp [c] at hi ⊢
    · rw [cf_diff_bit] at hd
      have hCe : C.testBit e = false := by cases c : C.testBit e <;> simp [c] at hd ⊢
      cases c : I.testBit e with
      | true => exact cf_sp_mem he (by rw [cf_diff_bit, c, hCe]; rfl)
      | false => exact hh e he hCe c
  show cf_rk L n C + cf_rk M n (cf_diff (cf_full n) C) = cf_card n I
  rw [cf_rk_bas k1, cf_rk_bas k2]
  have b3 := cf_card_ui n (I &&& C) (cf_diff I C)
  have b4 : cf_card n ((I &&& C) &&& cf_diff I C) = 0 := cf_card_none fun i _ => by
    rw [Nat.testBit_and, Nat.testBit_and, cf_diff_bit]; cases I.testBit i <;> cases C.testBit i <;> rfl
  have b5 : cf_card n ((I &&& C) ||| cf_diff I C) = cf_card n I := cf_card_congr fun i _ => by
    rw [Nat.testBit_or, Nat.testBit_and, cf_diff_bit]; cases I.testBit i <;> cases C.testBit i <;> rfl
  omega
