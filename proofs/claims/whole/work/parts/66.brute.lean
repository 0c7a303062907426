/-! TRYING ALL SETS -/
theorem cf_card_ge {m k S : Nat} (h : m ≤ k) (hS : cf_sub S (cf_full m)) : cf_card k S = cf_card m S := by
  have e : S % 2 ^ m = S := Nat.mod_eq_of_lt (by
    have h1 := kb_le_full hS
    have h2 := Nat.one_le_two_pow (n := m)
    unfold cf_full at h1
    omega)
  have := cf_card_mod (n := k) S h
  rw [e] at this; exact this
def co_inv (L M : Nat → Nat) (m s F : Nat) : Prop := cf_sub F (cf_full m) ∧ cf_ind L m F ∧ cf_ind M m F ∧ ∀ J, J < s → cf_sub J (cf_full m) → cf_ind L m J → cf_ind M m J → cf_card m J ≤ cf_card m F ∧ (cf_card m J = cf_card m F → F = J ∨ cf_lex F J)
theorem co_0 (L M : Nat → Nat) (m : Nat) : co_inv L M m 0 0 := ⟨cf_sub_0 _, cf_ind_0 L m, cf_ind_0 M m, fun J h => absurd h (Nat.not_lt_zero J)⟩
theorem co_skip {L M : Nat → Nat} {m s F : Nat} (h : co_inv L M m s F) (hn : ¬ (cf_ind L m s ∧ cf_ind M m s)) : co_inv L M m (s + 1) F :=
  ⟨h.1, h.2.1, h.2.2.1, fun J hJ a b c => by
    rcases Nat.lt_or_ge J s with q | q
    · exact h.2.2.2 J q a b c
    · rw [show J = s by omega] at b c; exact absurd ⟨b, c⟩ hn⟩
theorem co_keep {L M : Nat → Nat} {m s F : Nat} (h : co_inv L M m s F) (h1 : ¬ cf_card m F < cf_card m s) (h2 : ¬ (cf_card m s = cf_card m F ∧ cf_lex s F)) : co_inv L M m (s + 1) F :=
  ⟨h.1, h.2.1, h.2.2.1, fun J hJ a b c => by
    rcases Nat.lt_or_ge J s with q | q
    · exact h.2.2.2 J q a b c
    · rw [show J = s by omega]
      refine ⟨by omega, fun e => ?_⟩
      by_cases z : F = s
      · exact Or.inl z
      · rcases cf_lex_or z with y | y
        · exact Or.inr y
        · exact absurd ⟨e, y⟩ h2⟩
theorem co_take1 {L M : Nat → Nat} {m s F : Nat} (h : co_inv L M m s F) (hs : cf_sub s (cf_full m)) (hL : cf_ind L m s) (hM : cf_ind M m s) (h1 : cf_card m F < cf_card m s) : co_inv L M m (s + 1) s :=
  ⟨hs, hL, hM, fun J hJ a b c => by
    rcases Nat.lt_or_ge J s with q | q
    · have := (h.2.2.2 J q a b c).1
      exact ⟨by omega, fun e => by omega⟩
    · rw [show J = s by omega]; exact ⟨Nat.le_refl _, fun _ => Or.inl rfl⟩⟩
theorem co_take2 {L M : Nat → Nat} {m s F : Nat} (h : co_inv L M m s F) (hs : cf_sub s (cf_full m)) (hL : cf_ind L m s) (hM : cf_ind M m s) (h1 : cf_card m s = cf_card m F) (h2 : cf_lex s F) : co_inv L M m (s + 1) s :=
  ⟨hs, hL, hM, fun J hJ a b c => by
    rcases Nat.lt_or_ge J s with q | q
    · obtain ⟨k1, k2⟩ := h.2.2.2 J q a b c
      refine ⟨by omega, fun e => Or.inr ?_⟩
      rcases k2 (by omega) with z | z
      · rw [← z]; exact h2
      · exact cf_lex_tr h2 z
    · rw [show J = s by omega]; exact ⟨Nat.le_refl _, fun _ => Or.inl rfl⟩⟩
theorem co_end {L M : Nat → Nat} {m s F : Nat} (h : co_inv L M m s F) (hs : cf_full m < s) : cm_spec L M m F :=
  ⟨⟨h.1, h.2.1, h.2.2.1, fun J a b c => (h.2.2.2 J (by have := kb_le_full a; omega) a b c).1⟩, fun J a b c d => (h.2.2.2 J (by have := kb_le_full a; omega) a b c).2 d⟩
/-- independent just when the rank is the size -/
theorem cf_ind_iff {L : Nat → Nat} {m s : Nat} : cf_rk L m s = cf_card m s ↔ cf_ind L m s := ⟨fun h => cf_ind_of_rk (by omega), fun h => cf_rk_of_ind h⟩
/-- sums of weights in ints -/
def ms_sum (f : Nat → Int32) (S : Nat) : Nat → Int32
  | 0 => 0
  | e + 1 => ms_sum f S e + nI (if S.testBit e = true then 1 else 0) * f e
theorem ms_int {f : Nat → Int32} {S n : Nat} (hf : gw_in f n) (hn : n ≤ 12) : ∀ m, m ≤ n → (ms_sum f S m).toInt = gw_sum f m S ∧ -(999 * (m : Int)) ≤ gw_sum f m S ∧ gw_sum f m S ≤ 999 * (m : Int) := by
  intro m
  induction m with
  | zero => intro _; exact ⟨rfl, by simp [gw_sum], by simp [gw_sum]⟩
  | succ m ih =>
    intro hm
    obtain ⟨h1, h2, h3⟩ := ih (by omega)
    have hw := hf m (by omega)
    simp only [ms_sum, gw_sum]
    cases c : S.testBit m with
    | true =>
      have e1 : nI (if true = true then 1 else 0) * f m = f m := by
        show nI 1 * f m = f m
        rw [show nI 1 = (1 : Int32) from rfl, Int32.one_mul]
      rw [e1]
      have e2 : (ms_sum f S m + f m).toInt = (ms_sum f S m).toInt + (f m).toInt := by
        rw [Int32.toInt_add]
        apply Int.bmod_eq_of_le <;> omega
      rw [e2, h1]
      simp only [if_true]
      refine ⟨trivial, ?_, ?_⟩ <;> (push_cast; omega)
    | false =>
      have e1 : nI (if false = true then 1 else 0) * f m = 0 := by
        show nI 0 * f m = 0
        rw [show nI 0 = (0 : Int32) from rfl, Int32.zero_mul]
      rw [e1, Int32.add_zero, h1]
      simp only [Bool.false_eq_true, if_false]
      refine ⟨by omega, ?_, ?_⟩ <;> (push_cast; omega)
def bm_ok (L : Nat → Nat) (m s : Nat) : Prop := cf_sub s (cf_full m) ∧ cf_ind L m s ∧ cf_card m s = cf_rk L m (cf_full m)
def bm_inv (L : Nat → Nat) (f : Nat → Int32) (m s : Nat) (fd ms : Int32) : Prop := (fd = -1 ∧ ∀ J, J < s → ¬ bm_ok L m J) ∨ ∃ F, fd = nI F ∧ ms = ms_sum f F m ∧ bm_ok L m F ∧ ∀ J, J < s → bm_ok L m J → F = J ∨ gw_bet f m F J
theorem bm_skip {L : Nat → Nat} {f : Nat → Int32} {m s : Nat} {fd ms : Int32} (h : bm_inv L f m s fd ms) (hn : ¬ bm_ok L m s) : bm_inv L f m (s + 1) fd ms := by
  rcases h with ⟨h1, h2⟩ | ⟨F, h1, h2, h3, h4⟩
  · left
    refine ⟨h1, fun J hJ => ?_⟩
    rcases Nat.lt_or_ge J s with q | q
    · exact h2 J q
    · rw [show J = s by omega]; exact hn
  · right
    refine ⟨F, h1, h2, h3, fun J hJ hk => ?_⟩
    rcases Nat.lt_or_ge J s with q | q
    · exact h4 J q hk
    · rw [show J = s by omega] at hk; exact absurd hk hn
theorem bm_first {L : Nat → Nat} {f : Nat → Int32} {m s : Nat} (h : ∀ J, J < s → ¬ bm_ok L m J) (hs : bm_ok L m s) : bm_inv L f m (s + 1) (nI s) (ms_sum f s m) := by
  right
  refine ⟨s, rfl, rfl, hs, fun J hJ hk => ?_⟩
  rcases Nat.lt_or_ge J s with q | q
  · exact absurd hk (h J q)
  · left; omega
theorem bm_take {L : Nat → Nat} {f : Nat → Int32} {m s F : Nat} (h : ∀ J, J < s → bm_ok L m J → F = J ∨ gw_bet f m F J) (hs : bm_ok L m s) (hb : gw_bet f m s F) : bm_inv L f m (s + 1) (nI s) (ms_sum f s m) := by
  right
  refine ⟨s, rfl, rfl, hs, fun J hJ hk => ?_⟩
  rcases Nat.lt_or_ge J s with q | q
  · right
    rcases h J q hk with z | z
    · rw [← z]; exact hb
    · exact gw_bet_tr hb z
  · left; omega
theorem bm_keep {L : Nat → Nat} {f : Nat → Int32} {m s F : Nat} (h : ∀ J, J < s → bm_ok L m J → F = J ∨ gw_bet f m F J) (hF : bm_ok L m F) (hn : ¬ gw_bet f m s F) : bm_inv L f m (s + 1) (nI F) (ms_sum f F m) := by
  right
  refine ⟨F, rfl, rfl, hF, fun J hJ hk => ?_⟩
  rcases Nat.lt_or_ge J s with q | q
  · exact h J q hk
  · rw [show J = s by omega]
    by_cases z : F = s
    · exact Or.inl z
    · right
      rcases Int.lt_trichotomy (gw_sum f m s) (gw_sum f m F) with y | y | y
      · exact Or.inl y
      · rcases cf_lex_or z with x | x
        · exact Or.inr ⟨y, x⟩
        · exact absurd (Or.inr ⟨y.symm, x⟩) hn
      · exact absurd (Or.inl y) hn
theorem bm_end {L : Nat → Nat} {f : Nat → Int32} {m s : Nat} {fd ms : Int32} (h : bm_inv L f m s fd ms) (hs : cf_full m < s) : ∃ F, fd = nI F ∧ be_spec L f m F := by
  rcases h with ⟨_, h2⟩ | ⟨F, h1, _, h3, h4⟩
  · exfalso
    obtain ⟨B, hb⟩ := cf_bas_ex L m (cf_full m)
    exact h2 B (by have := kb_le_full hb.1; omega) ⟨hb.1, hb.2.1, (cf_rk_bas hb).symm⟩
  · exact ⟨F, h1, h3.1, h3.2.1, h3.2.2, fun J a b c => h4 J (by have := kb_le_full a; omega) ⟨a, b, c⟩⟩
/-- what all covers have -/
noncomputable def cw_f (L M : Nat → Nat) (m I : Nat) : Nat → Nat
  | 0 => cf_full m
  | s + 1 => @ite _ (cf_cov L M m I s) (Classical.propDecidable _) (cw_f L M m I s &&& s) (cw_f L M m I s)
theorem cw_in {L M : Nat → Nat} {m I s : Nat} (h : cf_cov L M m I s) : cw_f L M m I (s + 1) = cw_f L M m I s &&& s := by simp only [cw_f]; rw [if_pos h]
theorem cw_out {L M : Nat → Nat} {m I s : Nat} (h : ¬ cf_cov L M m I s) : cw_f L M m I (s + 1) = cw_f L M m I s := by simp only [cw_f]; rw [if_neg h]
theorem cw_sub (L M : Nat → Nat) (m I s : Nat) : cf_sub (cw_f L M m I s) (cf_full m) := by
  induction s with
  | zero => exact cf_sub_rf _
  | succ s ih =>
    rcases Classical.em (cf_cov L M m I s) with q | q
    · rw [cw_in q]; intro i hi; rw [Nat.testBit_and] at hi; exact ih i (by cases c : (cw_f L M m I s).testBit i <;> simp [c] at hi ⊢)
    · rw [cw_out q]; exact ih
theorem cw_all {L M : Nat → Nat} {m I s A : Nat} (hA : cf_cov L M m I A) (h : A < s) : cf_sub (cw_f L M m I s) A := by
  induction s with
  | zero => omega
  | succ s ih =>
    rcases Nat.lt_or_ge A s with q | q
    · rcases Classical.em (cf_cov L M m I s) with z | z
      · rw [cw_in z]; intro i hi; rw [Nat.testBit_and] at hi; exact ih q i (by cases c : (cw_f L M m I s).testBit i <;> simp [c] at hi ⊢)
      · rw [cw_out z]; exact ih q
    · rw [show A = s by omega] at hA ⊢
      rw [cw_in hA]; intro i hi; rw [Nat.testBit_and] at hi; cases c : s.testBit i <;> simp [c] at hi ⊢
theorem cw_has {L M : Nat → Nat} {m I C : Nat} (hC : cf_sub C (cf_full m)) (h : ∀ A, cf_sub A (cf_full m) → cf_cov L M m I A → cf_sub C A) : ∀ s, s ≤ cf_full m + 1 → cf_sub C (cw_f L M m I s) := by
  intro s
  induction s with
  | zero => intro _; exact hC
  | succ s ih =>
    intro hs
    have h1 := ih (by omega)
    rcases Classical.em (cf_cov L M m I s) with q | q
    · rw [cw_in q]
      intro i hi
      rw [Nat.testBit_and, h1 i hi, h s (kb_sub_full (by omega)) q i hi]; rfl
    · rw [cw_out q]; exact h1
/-- the two covers are the same -/
theorem cw_eq {L M : Nat → Nat} {m I C : Nat} (hI : cm_spec L M m I) (hC : co_spec L M m C) : cw_f L M m I (cf_full m + 1) = C := by
  obtain ⟨h1, I2, h2, h3, h4⟩ := hC
  have e := cm_only hI h2
  subst e
  exact cf_sub_anti (cw_all h3 (by have := kb_le_full h1; omega)) (cw_has h1 h4 _ (Nat.le_refl _))
theorem kb_notS {U s : Nat} (hU : U < 2 ^ 31) : nI U &&& (nI s ^^^ (-1)) = nI (cf_diff U s) := by
  rw [kb_m1, kb_xor, kb_and]
  congr 1
  refine Nat.eq_of_testBit_eq fun i => ?_
  rw [Nat.testBit_and, Nat.testBit_xor, cf_diff_bit, Nat.testBit_two_pow_sub_one]
  by_cases c : i < 32
  · simp [c]
  · rw [Nat.testBit_lt_two_pow (Nat.lt_of_lt_of_le hU (Nat.pow_le_pow_right (by omega) (show 31 ≤ i by omega)))]
    rfl
