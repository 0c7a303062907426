/-! SETS OF EDGES AS MASKS -/
def cf_card : Nat → Nat → Nat
  | 0, _ => 0
  | n + 1, S => cf_card n S + (if S.testBit n = true then 1 else 0)
def cf_sub (T S : Nat) : Prop := ∀ i, T.testBit i = true → S.testBit i = true
def cf_diff (S T : Nat) : Nat := S ^^^ (S &&& T)
def cf_full (n : Nat) : Nat := 2 ^ n - 1
theorem cf_diff_bit (S T i : Nat) : (cf_diff S T).testBit i = (S.testBit i && !T.testBit i) := by
  simp only [cf_diff, Nat.testBit_xor, Nat.testBit_and]
  cases S.testBit i <;> cases T.testBit i <;> rfl
theorem cf_full_bit (n i : Nat) : (cf_full n).testBit i = decide (i < n) := Nat.testBit_two_pow_sub_one n i
theorem cf_one_bit (e i : Nat) : (2 ^ e).testBit i = decide (e = i) := Nat.testBit_two_pow
theorem cf_add_bit (S e i : Nat) : (S ||| 2 ^ e).testBit i = (S.testBit i || decide (e = i)) := by
  rw [Nat.testBit_or, cf_one_bit]
theorem cf_card_congr {n S T : Nat} (h : ∀ i, i < n → S.testBit i = T.testBit i) : cf_card n S = cf_card n T := by
  induction n with
  | zero => rfl
  | succ n ih => simp only [cf_card]; rw [ih (fun i hi => h i (by omega)), h n (by omega)]
theorem cf_card_mono {n S T : Nat} (h : ∀ i, i < n → S.testBit i = true → T.testBit i = true) : cf_card n S ≤ cf_card n T := by
  induction n with
  | zero => exact Nat.le_refl _
  | succ n ih =>
    simp only [cf_card]
    have h1 := ih (fun i hi => h i (by omega))
    by_cases c : S.testBit n = true
    · rw [if_pos c, if_pos (h n (by omega) c)]; omega
    · rw [if_neg c]; split <;> omega
theorem cf_card_0 (n : Nat) : cf_card n 0 = 0 := by
  induction n with
  | zero => rfl
  | succ n ih => simp [cf_card, ih]
theorem cf_card_le (n S : Nat) : cf_card n S ≤ n := by
  induction n with
  | zero => exact Nat.le_refl _
  | succ n ih => simp only [cf_card]; split <;> omega
theorem cf_card_ui (n S T : Nat) : cf_card n (S ||| T) + cf_card n (S &&& T) = cf_card n S + cf_card n T := by
  induction n with
  | zero => rfl
  | succ n ih =>
    simp only [cf_card, Nat.testBit_or, Nat.testBit_and]
    cases S.testBit n <;> cases T.testBit n <;> simp <;> omega
theorem cf_card_none {n S : Nat} (h : ∀ i, i < n → S.testBit i = false) : cf_card n S = 0 := by
  rw [cf_card_congr (T := 0) (fun i hi => by rw [h i hi, Nat.zero_testBit]), cf_card_0]
theorem cf_card_one {n e : Nat} (he : e < n) : cf_card n (2 ^ e) = 1 := by
  induction n with
  | zero => omega
  | succ n ih =>
    simp only [cf_card, cf_one_bit]
    by_cases c : e = n
    · subst c
      rw [cf_card_none (fun i hi => by rw [cf_one_bit]; exact decide_eq_false (by omega))]; simp
    · rw [ih (by omega)]; simp [c]
theorem cf_card_add {n S e : Nat} (he : e < n) (hs : S.testBit e = false) : cf_card n (S ||| 2 ^ e) = cf_card n S + 1 := by
  have h := cf_card_ui n S (2 ^ e)
  rw [cf_card_one he, cf_card_none (S := S &&& 2 ^ e) (fun i _ => ?_)] at h
  · omega
  · rw [Nat.testBit_and, cf_one_bit]
    by_cases c : e = i
    · subst c; rw [hs]; rfl
    · simp [c]
theorem cf_card_addle (n S e : Nat) : cf_card n (S ||| 2 ^ e) ≤ cf_card n S + 1 := by
  by_cases he : e < n
  · have h := cf_card_ui n S (2 ^ e)
    rw [cf_card_one he] at h; omega
  · rw [cf_card_congr (T := S) (fun i hi => by rw [cf_add_bit]; simp; omega)]; omega
theorem cf_card_some {n S : Nat} (h : cf_card n S ≠ 0) : ∃ i, i < n ∧ S.testBit i = true := by
  rcases Classical.em (∃ i, i < n ∧ S.testBit i = true) with q | q
  · exact q
  · refine absurd (cf_card_none fun i hi => ?_) h
    cases c : S.testBit i with
    | false => rfl
    | true => exact absurd ⟨i, hi, c⟩ q
/-- taking an element out -/
theorem cf_card_del {n S e : Nat} (he : e < n) (hs : S.testBit e = true) : cf_card n (cf_diff S (2 ^ e)) + 1 = cf_card n S := by
  have h := cf_card_add (n := n) (S := cf_diff S (2 ^ e)) (e := e) he (by rw [cf_diff_bit, cf_one_bit]; simp)
  rw [← h]
  refine cf_card_congr fun i _ => ?_
  rw [cf_add_bit, cf_diff_bit, cf_one_bit]
  by_cases c : e = i
  · subst c; simp [hs]
  · simp [c]
theorem cf_sub_rf (S : Nat) : cf_sub S S := fun _ h => h
theorem cf_sub_0 (S : Nat) : cf_sub 0 S := fun i h => by rw [Nat.zero_testBit] at h; cases h
theorem cf_sub_tr {S T U : Nat} (h : cf_sub S T) (k : cf_sub T U) : cf_sub S U := fun i q => k i (h i q)
theorem cf_card_sub {n S T : Nat} (h : cf_sub S T) : cf_card n S ≤ cf_card n T := cf_card_mono fun i _ => h i
/-- a set within another of no more elements is the same -/
theorem cf_card_eq {n S T : Nat} (h : cf_sub S T) (hc : cf_card n T ≤ cf_card n S) : ∀ i, i < n → S.testBit i = T.testBit i := by
  intro i hi
  cases c : T.testBit i with
  | false =>
    cases d : S.testBit i with
    | false => rfl
    | true => rw [h i d] at c; cases c
  | true =>
    cases d : S.testBit i with
    | true => rfl
    | false =>
      have h1 := cf_card_del hi c
      have h2 : cf_card n S ≤ cf_card n (cf_diff T (2 ^ i)) := cf_card_mono fun j _ hj => by
        rw [cf_diff_bit, cf_one_bit, h j hj]
        by_cases q : i = j
        · subst q; rw [d] at hj; cases hj
        · simp [q]
      omega
