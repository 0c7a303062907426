/-! THE COMMON SET: the search that tries sets with an edge before those without it -/
def cf_lex (A B : Nat) : Prop := ∃ i, A.testBit i = true ∧ B.testBit i = false ∧ ∀ j, j < i → A.testBit j = B.testBit j
theorem cf_lex_ir {A : Nat} (h : cf_lex A A) : False := by
  obtain ⟨i, h1, h2, _⟩ := h
  rw [h1] at h2; cases h2
theorem cf_lex_tr {A B C : Nat} (h : cf_lex A B) (k : cf_lex B C) : cf_lex A C := by
  obtain ⟨i, h1, h2, h3⟩ := h
  obtain ⟨j, k1, k2, k3⟩ := k
  rcases Nat.lt_trichotomy i j with q | q | q
  · exact ⟨i, h1, by rw [← k3 i q]; exact h2, fun x hx => by rw [h3 x hx, k3 x (by omega)]⟩
  · subst q; rw [h2] at k1; cases k1
  · exact ⟨j, by rw [h3 j q]; exact k1, k2, fun x hx => by rw [h3 x (by omega), k3 x hx]⟩
theorem cf_lex_or {A B : Nat} (h : A ≠ B) : cf_lex A B ∨ cf_lex B A := by
  have key : ∀ m, (∀ i, i < m → A.testBit i = B.testBit i) ∨ ∃ i, A.testBit i ≠ B.testBit i ∧ ∀ j, j < i → A.testBit j = B.testBit j := by
    intro m
    induction m with
    | zero => left; intro i hi; exact absurd hi (Nat.not_lt_zero i)
    | succ m ih =>
      rcases ih with q | q
      · by_cases c : A.testBit m = B.testBit m
        · left
          intro i hi
          rcases Nat.lt_or_ge i m with r | r
          · exact q i r
          · have : i = m := by omega
            rw [this]; exact c
        · right; exact ⟨m, c, q⟩
      · right; exact q
  obtain ⟨x, hx⟩ := Nat.exists_testBit_ne_of_ne h
  rcases key (x + 1) with q | ⟨i, h1, h2⟩
  · exact absurd (q x (by omega)) hx
  · cases c : A.testBit i with
    | true => left; exact ⟨i, c, by cases d : B.testBit i with
        | false => rfl
        | true => rw [c, d] at h1; exact absurd rfl h1, h2⟩
    | false => right; exact ⟨i, by cases d : B.testBit i with
        | true => rfl
        | false => rw [c, d] at h1; exact absurd rfl h1, c, fun j hj => (h2 j hj).symm⟩
/-- J is common, and below e it is the set -/
def se_ext (L M : Nat → Nat) (n e S J : Nat) : Prop := cf_sub J (cf_full n) ∧ cf_ind L n J ∧ cf_ind M n J ∧ ∀ i, i < e → J.testBit i = S.testBit i
def se_spec (L M : Nat → Nat) (n e S found r : Nat) : Prop :=
  (r = found ∧ ∀ J, se_ext L M n e S J → cf_card n J ≤ cf_card n found) ∨ (se_ext L M n e S r ∧ cf_card n found < cf_card n r ∧ ∀ J, se_ext L M n e S J → cf_card n J ≤ cf_card n r ∧ (cf_card n J = cf_card n r → r = J ∨ cf_lex r J))
theorem cf_card_split {n e S J : Nat} (he : e ≤ n) (h : ∀ i, i < e → J.testBit i = S.testBit i) (hS : ∀ i, e ≤ i → S.testBit i = false) : cf_card n J ≤ cf_card n S + (n - e) := by
  have k1 : cf_card e J = cf_card e S := cf_card_congr h
  have key : ∀ d, cf_card (e + d) J ≤ cf_card e J + d ∧ cf_card (e + d) S = cf_card e S := by
    intro d
    induction d with
    | zero => exact ⟨Nat.le_refl _, rfl⟩
    | succ d ih =>
      obtain ⟨a, b⟩ := ih
      refine ⟨?_, ?_⟩
      · show cf_card (e + d) J + (if J.testBit (e + d) = true then 1 else 0) ≤ _
        split <;> omega
      · show cf_card (e + d) S + (if S.testBit (e + d) = true then 1 else 0) = _
        rw [hS (e + d) (by omega), b]; simp
  obtain ⟨a, b⟩ := key (n - e)
  rw [show e + (n - e) = n by omega] at a b
  omega
theorem se_prune {L M : Nat → Nat} {n e S found lim : Nat} (he : e ≤ n) (hS : ∀ i, e ≤ i → S.testBit i = false) (hl : ∀ J, cf_ind L n J → cf_ind M n J → cf_card n J ≤ lim)
    (h : min lim (cf_card n S + n - e) ≤ cf_card n found) : se_spec L M n e S found found := by
  left
  refine ⟨rfl, fun J hJ => ?_⟩
  have h1 := hl J hJ.2.1 hJ.2.2.1
  have h2 := cf_card_split he hJ.2.2.2 hS
  omega
theorem se_leaf {L M : Nat → Nat} {n S found : Nat} (hS : cf_sub S (cf_full n)) (h1 : cf_ind L n S) (h2 : cf_ind M n S) (h : cf_card n found < cf_card n S) : se_spec L M n n S found S := by
  right
  refine ⟨⟨hS, h1, h2, fun _ _ => rfl⟩, h, fun J hJ => ?_⟩
  have e : S = J := Nat.eq_of_testBit_eq fun i => by
    rcases Nat.lt_or_ge i n with q | q
    · exact (hJ.2.2.2 i q).symm
    · rw [cf_sub_full hS q, cf_sub_full hJ.1 q]
  rw [← e]
  exact ⟨Nat.le_refl _, fun _ => Or.inl rfl⟩
theorem se_ext_in {L M : Nat → Nat} {n e S J : Nat} (h : se_ext L M n e S J) (c : J.testBit e = true) : se_ext L M n (e + 1) (S ||| 2 ^ e) J := by
  refine ⟨h.1, h.2.1, h.2.2.1, fun i hi => ?_⟩
  rw [cf_add_bit]
  by_cases q : e = i
  · subst q; rw [c]; simp
  · rw [h.2.2.2 i (by omega)]; simp [q]
theorem se_ext_out {L M : Nat → Nat} {n e S J : Nat} (hS : S.testBit e = false) (h : se_ext L M n e S J) (c : J.testBit e = false) : se_ext L M n (e + 1) S J := by
  refine ⟨h.1, h.2.1, h.2.2.1, fun i hi => ?_⟩
  by_cases q : e = i
  · subst q; rw [c, hS]
  · exact h.2.2.2 i (by omega)
theorem se_ext_up {L M : Nat → Nat} {n e S J : Nat} (h : se_ext L M n (e + 1) S J) : se_ext L M n e S J := ⟨h.1, h.2.1, h.2.2.1, fun i hi => h.2.2.2 i (by omega)⟩
theorem se_ext_upi {L M : Nat → Nat} {n e S J : Nat} (h : se_ext L M n (e + 1) (S ||| 2 ^ e) J) : se_ext L M n e S J ∧ J.testBit e = true := by
  refine ⟨⟨h.1, h.2.1, h.2.2.1, fun i hi => ?_⟩, ?_⟩
  · rw [h.2.2.2 i (by omega), cf_add_bit]
    have : ¬ e = i := by omega
    simp [this]
  · rw [h.2.2.2 e (by omega), cf_add_bit]; simp
theorem se_out {L M : Nat → Nat} {n e S found r : Nat} (hS : S.testBit e = false) (hn : ∀ J, se_ext L M n e S J → J.testBit e = false) (h : se_spec L M n (e + 1) S found r) : se_spec L M n e S found r := by
  rcases h with ⟨h1, h2⟩ | ⟨h1, h2, h3⟩
  · left; exact ⟨h1, fun J hJ => h2 J (se_ext_out hS hJ (hn J hJ))⟩
  · right; exact ⟨se_ext_up h1, h2, fun J hJ => h3 J (se_ext_out hS hJ (hn J hJ))⟩
theorem se_in {L M : Nat → Nat} {n e S found x y : Nat} (hS : S.testBit e = false) (h : se_spec L M n (e + 1) (S ||| 2 ^ e) found x) (k : se_spec L M n (e + 1) S x y) : se_spec L M n e S found y := by
  rcases h with ⟨h1, h2⟩ | ⟨h1, h2, h3⟩
  · subst h1
    rcases k with ⟨k1, k2⟩ | ⟨k1, k2, k3⟩
    · left
      refine ⟨k1, fun J hJ => ?_⟩
      cases c : J.testBit e with
      | true => exact h2 J (se_ext_in hJ c)
      | false => exact k2 J (se_ext_out hS hJ c)
    · right
      refine ⟨se_ext_up k1, k2, fun J hJ => ?_⟩
      cases c : J.testBit e with
      | true => have := h2 J (se_ext_in hJ c); exact ⟨by omega, fun _ => by omega⟩
      | false => exact k3 J (se_ext_out hS hJ c)
  · obtain ⟨h1a, h1b⟩ := se_ext_upi h1
    rcases k with ⟨k1, k2⟩ | ⟨k1, k2, k3⟩
    · subst k1
      right
      refine ⟨h1a, h2, fun J hJ => ?_⟩
      cases c : J.testBit e with
      | true => exact h3 J (se_ext_in hJ c)
      | false =>
        refine ⟨k2 J (se_ext_out hS hJ c), fun _ => Or.inr ⟨e, h1b, c, fun j hj => ?_⟩⟩
        rw [h1a.2.2.2 j hj, hJ.2.2.2 j hj]
    · right
      refine ⟨se_ext_up k1, by omega, fun J hJ => ?_⟩
      cases c : J.testBit e with
      | true => have := (h3 J (se_ext_in hJ c)).1; exact ⟨by omega, fun _ => by omega⟩
      | false => exact k3 J (se_ext_out hS hJ c)
/-- THE COMMON SET -/
def cm_spec (L M : Nat → Nat) (n I : Nat) : Prop := cf_com L M n I ∧ ∀ J, cf_sub J (cf_full n) → cf_ind L n J → cf_ind M n J → cf_card n J = cf_card n I → I = J ∨ cf_lex I J
theorem cm_of_se {L M : Nat → Nat} {n r : Nat} (h : se_spec L M n 0 0 0 r) : cm_spec L M n r := by
  have ext : ∀ J, cf_sub J (cf_full n) → cf_ind L n J → cf_ind M n J → se_ext L M n 0 0 J := fun J a b c => ⟨a, b, c, fun i hi => absurd hi (Nat.not_lt_zero i)⟩
  rcases h with ⟨h1, h2⟩ | ⟨h1, h2, h3⟩
  · subst h1
    refine ⟨⟨cf_sub_0 _, cf_ind_0 L n, cf_ind_0 M n, fun J a b c => h2 J (ext J a b c)⟩, fun J a b c d => Or.inl ?_⟩
    rw [cf_card_0] at d
    refine Nat.eq_of_testBit_eq fun i => ?_
    rw [Nat.zero_testBit]
    rcases Nat.lt_or_ge i n with q | q
    · have := cf_card_eq (n := n) (cf_sub_0 J) (by rw [d]; exact Nat.zero_le _) i q
      rw [Nat.zero_testBit] at this; exact this
    · exact (cf_sub_full a q).symm
  · exact ⟨⟨h1.1, h1.2.1, h1.2.2.1, fun J a b c => (h3 J (ext J a b c)).1⟩, fun J a b c d => (h3 J (ext J a b c)).2 d⟩
theorem cm_only {L M : Nat → Nat} {n I J : Nat} (h : cm_spec L M n I) (k : cm_spec L M n J) : I = J := by
  have c1 := h.1.2.2.2 J k.1.1 k.1.2.1 k.1.2.2.1
  have c2 := k.1.2.2.2 I h.1.1 h.1.2.1 h.1.2.2.1
  rcases h.2 J k.1.1 k.1.2.1 k.1.2.2.1 (by omega) with q | q
  · exact q
  · rcases k.2 I h.1.1 h.1.2.1 h.1.2.2.1 (by omega) with r | r
    · exact r.symm
    · exact absurd (cf_lex_tr q r) cf_lex_ir
