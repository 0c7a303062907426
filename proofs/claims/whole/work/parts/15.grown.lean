/-! THE COVER'S LOOPS -/
/-- a forest that is filled with an independent set holds all of it -/
theorem fo_fill_ind {L : Nat → Nat} {n S : Nat} {rows parts : Nat → Nat} (hS : cf_sub S (cf_full n)) (hi : cf_ind L n S) : fo_ok L n S (fo_fill L S rows parts n).1 (fo_fill L S rows parts n).2.1 (fo_fill L S rows parts n).2.2 := by
  obtain ⟨B, h1, h2, h3, h4⟩ := fo_fill_ok (L := L) (n := n) (S := S) (rows := rows) (parts := parts) n (Nat.le_refl n)
  have e : B = S := Nat.eq_of_testBit_eq fun i => by
    cases c : S.testBit i with
    | false =>
      cases d : B.testBit i with
      | false => rfl
      | true => rw [h2 i d] at c; cases c
    | true =>
      have hin : i < n := by have := hS i c; rw [cf_full_bit] at this; exact of_decide_eq_true this
      cases d : B.testBit i with
      | true => rfl
      | false =>
        refine absurd (cf_sp_mono (fun j hj => ?_) (h3 i hin c)) (cf_ind_nsp hin hi c)
        rw [cf_diff_bit, cf_one_bit, h2 j hj]
        by_cases q : i = j
        · subst q; rw [d] at hj; cases hj
        · simp [q]
  rw [← e]; exact e ▸ h1
def cv_first (M : Nat → Nat) (rows : Nat → Nat) (k : Nat) : Nat → Nat
  | 0 => 0
  | e + 1 => if fo_rest rows (M e) k = 0 then cv_first M rows k e else cv_first M rows k e ||| 2 ^ e
theorem cv_first_bit (M rows : Nat → Nat) (k n i : Nat) : (cv_first M rows k n).testBit i = (decide (i < n) && decide (fo_rest rows (M i) k ≠ 0)) := by
  induction n with
  | zero => simp [cv_first]
  | succ n ih =>
    simp only [cv_first]
    by_cases d : i = n
    · subst d
      by_cases c : fo_rest rows (M i) k = 0
      · rw [if_pos c, ih]; simp [c]
      · rw [if_neg c, cf_add_bit]; simp [c]
    · have e1 : decide (i < n + 1) = decide (i < n) := by simp; omega
      have e2 : decide (n = i) = false := decide_eq_false fun q => d q.symm
      split
      · rw [ih, e1]
      · rw [cf_add_bit, ih, e1, e2, Bool.or_false]
def cv_grown (I : Nat) (w1 w2 : Nat → Nat) (C : Nat) : Nat → Nat
  | 0 => C
  | e + 1 => if I.testBit e = true then cv_grown I w1 w2 C e else if (cv_grown I w1 w2 C e).testBit e = true then cv_grown I w1 w2 C e ||| w1 e
    else if w2 e &&& cv_grown I w1 w2 C e = 0 then cv_grown I w1 w2 C e else cv_grown I w1 w2 C e ||| 2 ^ e
def cv_rounds (I : Nat) (w1 w2 : Nat → Nat) (n C : Nat) : Nat → Nat
  | 0 => C
  | r + 1 => cv_grown I w1 w2 (cv_rounds I w1 w2 n C r) n
theorem cf_or_sub {A B C : Nat} (h : cf_sub A C) (k : cf_sub B C) : cf_sub (A ||| B) C := fun i hi => by
  rw [Nat.testBit_or] at hi
  cases c : A.testBit i with
  | true => exact h i c
  | false => rw [c, Bool.false_or] at hi; exact k i hi
theorem cf_sub_or (A B : Nat) : cf_sub A (A ||| B) := fun i hi => by rw [Nat.testBit_or, hi]; rfl
theorem cf_sub_or' (A B : Nat) : cf_sub B (A ||| B) := fun i hi => by rw [Nat.testBit_or, hi, Bool.or_true]
theorem cv_grown_le (I : Nat) (w1 w2 : Nat → Nat) (C : Nat) : ∀ m, cf_sub C (cv_grown I w1 w2 C m) := by
  intro m
  induction m with
  | zero => exact cf_sub_rf C
  | succ m ih =>
    simp only [cv_grown]
    split
    · exact ih
    · split
      · exact cf_sub_tr ih (cf_sub_or _ _)
      · split
        · exact ih
        · exact cf_sub_tr ih (cf_sub_or _ _)
theorem cv_grown_mono (I : Nat) (w1 w2 : Nat → Nat) (C : Nat) {a : Nat} : ∀ b, a ≤ b → cf_sub (cv_grown I w1 w2 C a) (cv_grown I w1 w2 C b) := by
  intro b
  induction b with
  | zero => intro h; have : a = 0 := by omega
            subst this; exact cf_sub_rf _
  | succ b ih =>
    intro h
    rcases Nat.lt_or_ge b a with q | q
    · have : a = b + 1 := by omega
      subst this; exact cf_sub_rf _
    · refine cf_sub_tr (ih q) ?_
      simp only [cv_grown]
      split
      · exact cf_sub_rf _
      · split
        · exact cf_sub_or _ _
        · split
          · exact cf_sub_rf _
          · exact cf_sub_or _ _
theorem cf_sub_anti {A B : Nat} (h : cf_sub A B) (k : cf_sub B A) : A = B := Nat.eq_of_testBit_eq fun i => by
  cases c : A.testBit i with
  | true => rw [h i c]
  | false =>
    cases d : B.testBit i with
    | false => rfl
    | true => rw [k i d] at c; cases c
/-- a round that adds nothing: the set is closed -/
theorem cv_closed {I : Nat} {w1 w2 : Nat → Nat} {C n : Nat} (h : cv_grown I w1 w2 C n = C) {e : Nat} (he : e < n) (hI : I.testBit e = false) : (C.testBit e = true → cf_sub (w1 e) C) ∧ (C.testBit e = false → w2 e &&& C = 0) := by
  have all : ∀ m, m ≤ n → cv_grown I w1 w2 C m = C := fun m hm => cf_sub_anti (by have := cv_grown_mono I w1 w2 C n hm; rw [h] at this; exact this) (cv_grown_le I w1 w2 C m)
  have h1 := all (e + 1) (by omega)
  simp only [cv_grown] at h1
  rw [all e (by omega), if_neg (by rw [hI]; simp)] at h1
  refine ⟨fun c => ?_, fun c => ?_⟩
  · rw [if_pos c] at h1
    have := cf_sub_or' C (w1 e)
    rw [h1] at this; exact this
  · rw [if_neg (by rw [c]; simp)] at h1
    by_cases d : w2 e &&& C = 0
    · exact d
    · rw [if_neg d] at h1
      have := cf_sub_or' C (2 ^ e) e (by rw [cf_one_bit]; simp)
      rw [h1, c] at this; cases this
theorem cv_rounds_fix {I : Nat} {w1 w2 : Nat → Nat} {n C : Nat} (hC : cf_sub C (cf_full n)) (hw : ∀ e, e < n → cf_sub (w1 e) (cf_full n)) : cf_sub (cv_rounds I w1 w2 n C n) (cf_full n) ∧ cv_grown I w1 w2 (cv_rounds I w1 w2 n C n) n = cv_rounds I w1 w2 n C n := by
  have hfull : ∀ C, cf_sub C (cf_full n) → ∀ m, m ≤ n → cf_sub (cv_grown I w1 w2 C m) (cf_full n) := by
    intro C hC m
    induction m with
    | zero => intro _; exact hC
    | succ m ih =>
      intro hm
      have h1 := ih (by omega)
      simp only [cv_grown]
      split
      · exact h1
      · split
        · exact cf_or_sub h1 (hw m (by omega))
        · split
          · exact h1
          · exact cf_or_sub h1 (cf_one_sub (by rw [cf_full_bit]; exact decide_eq_true (by omega)))
  have key : ∀ r, cf_sub (cv_rounds I w1 w2 n C r) (cf_full n) ∧ (cv_grown I w1 w2 (cv_rounds I w1 w2 n C r) n = cv_rounds I w1 w2 n C r ∨ r ≤ cf_card n (cv_rounds I w1 w2 n C r)) := by
    intro r
    induction r with
    | zero => exact ⟨hC, Or.inr (Nat.zero_le _)⟩
    | succ r ih =>
      obtain ⟨h1, h2⟩ := ih
      refine ⟨hfull _ h1 n (Nat.le_refl n), ?_⟩
      rcases h2 with h2 | h2
      · left
        simp only [cv_rounds]
        rw [h2, h2]
      · by_cases c : cv_grown I w1 w2 (cv_rounds I w1 w2 n C r) n = cv_rounds I w1 w2 n C r
        · left; simp only [cv_rounds]; rw [c, c]
        · right
          simp only [cv_rounds]
          rcases Nat.lt_or_ge (cf_card n (cv_rounds I w1 w2 n C r)) (cf_card n (cv_grown I w1 w2 (cv_rounds I w1 w2 n C r) n)) with q | q
          · omega
          · exfalso
            refine c (cf_sub_anti (fun i hi => ?_) (cv_grown_le _ _ _ _ _))
            have hin : i < n := by have := hfull _ h1 n (Nat.le_refl n) i hi; rw [cf_full_bit] at this; exact of_decide_eq_true this
            rw [cf_card_eq (cv_grown_le _ _ _ _ _) q i hin]; exact hi
  obtain ⟨k1, k2⟩ := key n
  refine ⟨k1, ?_⟩
  rcases k2 with k2 | k2
  · exact k2
  · have hall : cv_rounds I w1 w2 n C n = cf_full n := cf_sub_anti k1 fun i hi => by
      have hin : i < n := by rw [cf_full_bit] at hi; exact of_decide_eq_true hi
      have hc : cf_card n (cf_full n) ≤ cf_card n (cv_rounds I w1 w2 n C n) := Nat.le_trans (cf_card_le n _) k2
      rw [cf_card_eq k1 hc i hin]; exact hi
    exact cf_sub_anti (by rw [hall]; exact hfull _ (cf_sub_rf _) n (Nat.le_refl n)) (cv_grown_le _ _ _ _ _)
/-- THE COVER -/
theorem cv_ok {L M : Nat → Nat} {n I : Nat} {rows1 parts1 rows2 parts2 : Nat → Nat} {k1 k2 : Nat} (h : cf_com L M n I) (f1 : fo_ok L n I rows1 parts1 k1) (f2 : fo_ok M n I rows2 parts2 k2) :
    cf_sub (cv_rounds I (fun e => fo_way rows1 parts1 (L e) k1) (fun e => fo_way rows2 parts2 (M e) k2) n (cv_first M rows2 k2 n) n) (cf_full n)
    ∧ cf_cov L M n I (cv_rounds I (fun e => fo_way rows1 parts1 (L e) k1) (fun e => fo_way rows2 parts2 (M e) k2) n (cv_first M rows2 k2 n) n)
    ∧ ∀ A, cf_sub A (cf_full n) → cf_cov L M n I A → cf_sub (cv_rounds I (fun e => fo_way rows1 parts1 (L e) k1) (fun e => fo_way rows2 parts2 (M e) k2) n (cv_first M rows2 k2 n) n) A := by
  have hw1 : ∀ e, cf_sub (fo_way rows1 parts1 (L e) k1) I := fun e => fo_way_sub f1 _ k1 (Nat.le_refl k1)
  have hw2 : ∀ e, cf_sub (fo_way rows2 parts2 (M e) k2) I := fun e => fo_way_sub f2 _ k2 (Nat.le_refl k2)
  have hf0 : cf_sub (cv_first M rows2 k2 n) (cf_full n) := fun i hi => by
    rw [cv_first_bit] at hi
    rw [cf_full_bit]
    cases c : decide (i < n) with
    | true => rfl
    | false => rw [c] at hi; simp at hi
  obtain ⟨g1, g2⟩ := cv_rounds_fix (I := I) (w1 := fun e => fo_way rows1 parts1 (L e) k1) (w2 := fun e => fo_way rows2 parts2 (M e) k2) hf0 (fun e _ => cf_sub_tr (hw1 e) h.1)
  have hin : ∀ A, cf_sub A (cf_full n) → cf_cov L M n I A → ∀ r, cf_sub (cv_rounds I (fun e => fo_way rows1 parts1 (L e) k1) (fun e => fo_way rows2 parts2 (M e) k2) n (cv_first M rows2 k2 n) r) A := by
    intro A hA hc
    obtain ⟨s1, s2⟩ := cf_cov_sp h.2.1 h.2.2.1 hc
    have ia : cf_sub (I &&& A) I := fun i hi => by rw [Nat.testBit_and] at hi; cases c : I.testBit i <;> simp [c] at hi ⊢
    have id : cf_sub (cf_diff I A) I := fun i hi => by rw [cf_diff_bit] at hi; cases c : I.testBit i <;> simp [c] at hi ⊢
    intro r
    induction r with
    | zero =>
      intro i hi
      simp only [cv_rounds] at hi
      rw [cv_first_bit] at hi
      have hi1 : i < n := by
        by_cases c : i < n
        · exact c
        · simp [c] at hi
      have hi2 : fo_rest rows2 (M i) k2 ≠ 0 := by
        intro c; simp [c] at hi
      cases c : A.testBit i with
      | true => rfl
      | false => exact absurd ((fo_rest_iff f2 _).mpr (cf_sp_mono id (s2 i hi1 c))) hi2
    | succ r ih =>
      simp only [cv_rounds]
      have step : ∀ m, m ≤ n → cf_sub (cv_grown I (fun e => fo_way rows1 parts1 (L e) k1) (fun e => fo_way rows2 parts2 (M e) k2) (cv_rounds I (fun e => fo_way rows1 parts1 (L e) k1) (fun e => fo_way rows2 parts2 (M e) k2) n (cv_first M rows2 k2 n) r) m) A := by
        intro m
        induction m with
        | zero => intro _; exact ih
        | succ m ihm =>
          intro hm
          have h1 := ihm (by omega)
          simp only [cv_grown]
          split
          · exact h1
          · split
            · rename_i hmm
              refine cf_or_sub h1 fun i hi => ?_
              obtain ⟨T, t1, t2⟩ := s1 m (by omega) (h1 m hmm)
              have hin : i < n := by have := h.1 i (hw1 m i hi); rw [cf_full_bit] at this; exact of_decide_eq_true this
              have := fo_way_only f1 (cf_sub_tr t1 ia) t2 i hin
              rw [hi] at this
              have := t1 i this.symm
              rw [Nat.testBit_and] at this
              cases c : A.testBit i <;> simp [c] at this ⊢
            · split
              · exact h1
              · rename_i hne
                refine cf_or_sub h1 (cf_one_sub ?_)
                cases c : A.testBit m with
                | true => rfl
                | false =>
                  exfalso
                  obtain ⟨T, t1, t2⟩ := s2 m (by omega) c
                  refine hne (Nat.eq_of_testBit_eq fun i => ?_)
                  rw [Nat.testBit_and, Nat.zero_testBit]
                  cases d : (fo_way rows2 parts2 (M m) k2).testBit i with
                  | false => rfl
                  | true =>
                    have hin : i < n := by have := h.1 i (hw2 m i d); rw [cf_full_bit] at this; exact of_decide_eq_true this
                    have := fo_way_only f2 (cf_sub_tr t1 id) t2 i hin
                    rw [d] at this
                    have := t1 i this.symm
                    rw [cf_diff_bit] at this
                    have hAi : A.testBit i = false := by cases q : A.testBit i <;> simp [q] at this ⊢
                    rw [Bool.true_and]
                    cases q : (cv_grown I (fun e => fo_way rows1 parts1 (L e) k1) (fun e => fo_way rows2 parts2 (M e) k2) (cv_rounds I (fun e => fo_way rows1 parts1 (L e) k1) (fun e => fo_way rows2 parts2 (M e) k2) n (cv_first M rows2 k2 n) r) m).testBit i with
                    | false => rfl
                    | true => rw [h1 i q] at hAi; cases hAi
      exact step n (Nat.le_refl n)
  have hfirst : ∀ r, cf_sub (cv_first M rows2 k2 n) (cv_rounds I (fun e => fo_way rows1 parts1 (L e) k1) (fun e => fo_way rows2 parts2 (M e) k2) n (cv_first M rows2 k2 n) r) := by
    intro r
    induction r with
    | zero => exact cf_sub_rf _
    | succ r ih => exact cf_sub_tr ih (cv_grown_le _ _ _ _ _)
  refine ⟨g1, cf_cov_least h g1 (fun A a b => hin A a b n) (fun e he hC hI hs => ?_) (fun e he hC hI => ?_), fun A a b => hin A a b n⟩
  · have := (cv_closed g2 he hI).1 hC
    refine ⟨fo_way rows1 parts1 (L e) k1, fun i hi => ?_, fo_way_sp f1 hs⟩
    rw [Nat.testBit_and, hw1 e i hi, this i hi]; rfl
  · have := (cv_closed g2 he hI).2 hC
    have hs : cf_sp M n I (M e) := by
      refine (fo_rest_iff f2 _).mp ?_
      by_cases c : fo_rest rows2 (M e) k2 = 0
      · exact c
      · have := hfirst n e (by rw [cv_first_bit]; simp [he, c])
        rw [hC] at this; cases this
    refine ⟨fo_way rows2 parts2 (M e) k2, fun i hi => ?_, fo_way_sp f2 hs⟩
    rw [cf_diff_bit, hw2 e i hi]
    have q : (fo_way rows2 parts2 (M e) k2 &&& cv_rounds I (fun e => fo_way rows1 parts1 (L e) k1) (fun e => fo_way rows2 parts2 (M e) k2) n (cv_first M rows2 k2 n) n).testBit i = false := by
      rw [show fo_way rows2 parts2 (M e) k2 &&& cv_rounds I (fun e => fo_way rows1 parts1 (L e) k1) (fun e => fo_way rows2 parts2 (M e) k2) n (cv_first M rows2 k2 n) n = 0 from this]; exact Nat.zero_testBit i
    rw [Nat.testBit_and, hi, Bool.true_and] at q
    rw [q]; rfl
