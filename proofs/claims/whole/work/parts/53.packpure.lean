theorem kb_neg {v : Nat} (h0 : 0 < v) (h : v < 2 ^ 32) : -(nI v) = nI (2 ^ 32 - v) := by
  apply Int32.toBitVec_inj.1
  show -(BitVec.ofNat 32 v) = BitVec.ofNat 32 (2 ^ 32 - v)
  apply BitVec.eq_of_toNat_eq
  rw [BitVec.toNat_neg, BitVec.toNat_ofNat, BitVec.toNat_ofNat, Nat.mod_eq_of_lt h]
theorem kb_two {lo hi : Nat} (h : lo < hi) : 2 ^ lo ^^^ 2 ^ hi = 2 ^ hi * 1 + 2 ^ lo := by
  have hl : 2 ^ lo < 2 ^ hi := Nat.pow_lt_pow_right (by omega) h
  refine Nat.eq_of_testBit_eq fun i => ?_
  rw [Nat.testBit_two_pow_mul_add _ hl, Nat.testBit_xor, cf_one_bit, cf_one_bit]
  by_cases c : i < hi
  · rw [if_pos c]
    have : ¬ hi = i := by omega
    simp [this]
  · rw [if_neg c]
    have : ¬ lo = i := by omega
    by_cases d : hi = i
    · subst d; simp [this]
    · have e : Nat.testBit 1 (i - hi) = false := Nat.testBit_lt_two_pow (by
        have : 2 ^ 1 ≤ 2 ^ (i - hi) := Nat.pow_le_pow_right (by omega) (by omega)
        omega)
      rw [e]; simp [this, d]
theorem kb_low {lo hi : Nat} (h : lo < hi) (hh : hi < 31) : (2 ^ lo ^^^ 2 ^ hi) &&& (2 ^ 32 - (2 ^ lo ^^^ 2 ^ hi)) = 2 ^ lo := by
  have hl : 2 ^ lo < 2 ^ hi := Nat.pow_lt_pow_right (by omega) h
  have hb : 2 ^ hi < 2 ^ 31 := Nat.pow_lt_pow_right (by omega) hh
  have h1 : 1 ≤ 2 ^ lo := Nat.one_le_two_pow
  have hl1 : 2 ^ lo - 1 < 2 ^ hi := by omega
  have e1 : 2 ^ 32 - (2 ^ lo ^^^ 2 ^ hi) = 2 ^ 32 - ((2 ^ hi * 1 + (2 ^ lo - 1)) + 1) := by rw [kb_two h]; omega
  rw [e1]
  refine Nat.eq_of_testBit_eq fun i => ?_
  rw [Nat.testBit_and, Nat.testBit_two_pow_sub_succ (by omega), Nat.testBit_two_pow_mul_add _ hl1, Nat.testBit_two_pow_sub_one, Nat.testBit_xor, cf_one_bit, cf_one_bit]
  by_cases c : lo = i
  · subst c
    have d : ¬ hi = lo := by omega
    have d2 : lo < 32 := by omega
    simp [h, d, d2]
  · by_cases d : hi = i
    · subst d
      simp [c]
    · simp [c, d]
theorem gl_ord {v : Nat} (h : gl_two v) (h0 : v ≠ 0) : ∃ lo hi, lo < hi ∧ hi < 24 ∧ v = 2 ^ lo ^^^ 2 ^ hi := by
  obtain ⟨a, b, ha, hb, e⟩ := h
  rcases Nat.lt_trichotomy a b with q | q | q
  · exact ⟨a, b, q, hb, e⟩
  · subst q; rw [Nat.xor_self] at e; exact absurd e h0
  · exact ⟨b, a, q, ha, by rw [e, Nat.xor_comm]⟩
theorem cf_card_mod {n k : Nat} (S : Nat) (h : k ≤ n) : cf_card n (S % 2 ^ k) = cf_card k S := by
  have key : ∀ d, cf_card (k + d) (S % 2 ^ k) = cf_card k S := by
    intro d
    induction d with
    | zero => exact cf_card_congr fun i hi => by rw [Nat.testBit_mod_two_pow, decide_eq_true (show i < k from hi)]; rfl
    | succ d ih =>
      show cf_card (k + d) (S % 2 ^ k) + (if (S % 2 ^ k).testBit (k + d) = true then 1 else 0) = _
      rw [ih, Nat.testBit_mod_two_pow, decide_eq_false (show ¬ k + d < k by omega)]
      rfl
  have := key (n - k)
  rw [show k + (n - k) = n by omega] at this
  exact this
theorem pq_two {met lo hi : Nat} (h : lo < hi) (hh : hi < 32) (hl : met.testBit lo = true) : 2 ^ pq_ix met lo ||| 2 ^ pq_ix met hi = pq_of met (2 ^ lo ^^^ 2 ^ hi) := by
  rw [pq_xor, pq_one met (by omega), pq_one met hh]
  have hne := pq_ix_lt h hl
  refine Nat.eq_of_testBit_eq fun i => ?_
  rw [Nat.testBit_or, Nat.testBit_xor, cf_one_bit, cf_one_bit]
  by_cases c : pq_ix met lo = i
  · have : ¬ pq_ix met hi = i := by omega
    simp [c, this]
  · simp [c]
/-- what is met -/
theorem me_sub {L : Nat → Nat} {n e : Nat} (h : e < n) : cf_sub (L e) (me_of L n) := by
  induction n with
  | zero => omega
  | succ n ih =>
    show cf_sub (L e) (me_of L n ||| L n)
    by_cases c : e = n
    · subst c; exact cf_sub_or' _ _
    · exact cf_sub_tr (ih (by omega)) (cf_sub_or _ _)
theorem me_lt {L : Nat → Nat} {n k : Nat} (h : ∀ e, e < n → L e < 2 ^ k) : me_of L n < 2 ^ k := by
  induction n with
  | zero => exact Nat.two_pow_pos k
  | succ n ih => exact Nat.or_lt_two_pow (ih fun e he => h e (by omega)) (h n (by omega))
theorem me_card {L : Nat → Nat} {n : Nat} (h : ∀ e, e < n → gl_two (L e)) : cf_card 32 (me_of L n) ≤ 2 * n := by
  induction n with
  | zero => rw [show me_of L 0 = 0 from rfl, cf_card_0]; omega
  | succ n ih =>
    have h1 := ih fun e he => h e (by omega)
    have h2 := cf_card_ui 32 (me_of L n) (L n)
    have h3 : cf_card 32 (L n) ≤ 2 := by
      obtain ⟨a, b, ha, hb, e⟩ := h n (by omega)
      rw [e]
      have k1 : cf_card 32 (2 ^ a ^^^ 2 ^ b) ≤ cf_card 32 (2 ^ a ||| 2 ^ b) := cf_card_mono fun i _ hi => by
        rw [Nat.testBit_xor] at hi
        rw [Nat.testBit_or]
        cases c : (2 ^ a).testBit i <;> cases d : (2 ^ b).testBit i <;> simp [c, d] at hi ⊢
      have k2 := cf_card_addle 32 (2 ^ a) b
      rw [cf_card_one (by omega)] at k2
      omega
    show cf_card 32 (me_of L n ||| L n) ≤ _
    omega
/-- the draft behind a row of lines -/
def dp_d (R : Nat → Nat) (at9 : Nat) (d : Nat → Nat) : Nat → Nat → Nat
  | 0 => d
  | e + 1 => fo_up (dp_d R at9 d e) (at9 + e) (R e)
theorem dp_in {R d : Nat → Nat} {at9 n k : Nat} (h1 : at9 ≤ k) (h2 : k < at9 + n) : dp_d R at9 d n k = R (k - at9) := by
  induction n with
  | zero => omega
  | succ n ih =>
    simp only [dp_d, fo_up]
    by_cases c : k = at9 + n
    · rw [if_pos c, show k - at9 = n by omega]
    · rw [if_neg c]; exact ih (by omega)
theorem dp_out {R d : Nat → Nat} {at9 n k : Nat} (h : k < at9 ∨ at9 + n ≤ k) : dp_d R at9 d n k = d k := by
  induction n with
  | zero => rfl
  | succ n ih =>
    simp only [dp_d, fo_up]
    rw [if_neg (by omega)]; exact ih (by omega)
