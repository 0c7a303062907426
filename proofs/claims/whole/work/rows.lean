section
/-! SETS OF EDGES AS MASKS -/
def cf_card : Nat → Nat → Nat
  | 0, _ => 0
  | n + 1, S => cf_card n S + (if S.testBit n = true then 1 else 0)
def cf_sub (T S : Nat) : Prop := ∀ i, T.testBit i = true → S.testBit i = true
def cf_diff (S T : Nat) : Nat := S ^^^ (S &&& T)
def cf_full (n : Nat) : Nat := 2 ^ n - 1
theorem cf_diff_bit (S T i : Nat) : (cf_diff S T).testBit i = (S.testBit i && !T.testBit i) := by
  simp only [cf_diff, Nat.testBit_xor, Nat.testBit_and]
  cases S.testBit i <;> cases T.testBit i <;> rfl
theorem cf_full_bit (n i : Nat) : (cf_full n).testBit i = decide (i < n) := Nat.testBit_two_pow_sub_one n i
theorem cf_one_bit (e i : Nat) : (2 ^ e).testBit i = decide (e = i) := Nat.testBit_two_pow
theorem cf_add_bit (S e i : Nat) : (S ||| 2 ^ e).testBit i = (S.testBit i || decide (e = i)) := by
  rw [Nat.testBit_or, cf_one_bit]
theorem cf_card_congr {n S T : Nat} (h : ∀ i, i < n → S.testBit i = T.testBit i) : cf_card n S = cf_card n T := by
  induction n with
  | zero => rfl
  | succ n ih => simp only [cf_card]; rw [ih (fun i hi => h i (by omega)), h n (by omega)]
theorem cf_card_mono {n S T : Nat} (h : ∀ i, i < n → S.testBit i = true → T.testBit i = true) : cf_card n S ≤ cf_card n T := by
  induction n with
  | zero => exact Nat.le_refl _
  | succ n ih =>
    simp only [cf_card]
    have h1 := ih (fun i hi => h i (by omega))
    by_cases c : S.testBit n = true
    · rw [if_pos c, if_pos (h n (by omega) c)]; omega
    · rw [if_neg c]; split <;> omega
theorem cf_card_0 (n : Nat) : cf_card n 0 = 0 := by
  induction n with
  | zero => rfl
  | succ n ih => simp [cf_card, ih]
theorem cf_card_le (n S : Nat) : cf_card n S ≤ n := by
  induction n with
  | zero => exact Nat.le_refl _
  | succ n ih => simp only [cf_card]; split <;> omega
theorem cf_card_ui (n S T : Nat) : cf_card n (S ||| T) + cf_card n (S &&& T) = cf_card n S + cf_card n T := by
  induction n with
  | zero => rfl
  | succ n ih =>
    simp only [cf_card, Nat.testBit_or, Nat.testBit_and]
    cases S.testBit n <;> cases T.testBit n <;> simp <;> omega
theorem cf_card_none {n S : Nat} (h : ∀ i, i < n → S.testBit i = false) : cf_card n S = 0 := by
  rw [cf_card_congr (T := 0) (fun i hi => by rw [h i hi, Nat.zero_testBit]), cf_card_0]
theorem cf_card_one {n e : Nat} (he : e < n) : cf_card n (2 ^ e) = 1 := by
  induction n with
  | zero => omega
  | succ n ih =>
    simp only [cf_card, cf_one_bit]
    by_cases c : e = n
    · subst c
      rw [cf_card_none (fun i hi => by rw [cf_one_bit]; exact decide_eq_false (by omega))]; simp
    · rw [ih (by omega)]; simp [c]
theorem cf_card_add {n S e : Nat} (he : e < n) (hs : S.testBit e = false) : cf_card n (S ||| 2 ^ e) = cf_card n S + 1 := by
  have h := cf_card_ui n S (2 ^ e)
  rw [cf_card_one he, cf_card_none (S := S &&& 2 ^ e) (fun i _ => ?_)] at h
  · omega
  · rw [Nat.testBit_and, cf_one_bit]
    by_cases c : e = i
    · subst c; rw [hs]; rfl
    · simp [c]
theorem cf_card_addle (n S e : Nat) : cf_card n (S ||| 2 ^ e) ≤ cf_card n S + 1 := by
  by_cases he : e < n
  · have h := cf_card_ui n S (2 ^ e)
    rw [cf_card_one he] at h; omega
  · rw [cf_card_congr (T := S) (fun i hi => by rw [cf_add_bit]; simp; omega)]; omega
theorem cf_card_some {n S : Nat} (h : cf_card n S ≠ 0) : ∃ i, i < n ∧ S.testBit i = true := by
  rcases Classical.em (∃ i, i < n ∧ S.testBit i = true) with q | q
  · exact q
  · refine absurd (cf_card_none fun i hi => ?_) h
    cases c : S.testBit i with
    | false => rfl
    | true => exact absurd ⟨i, hi, c⟩ q
/-- taking an element out -/
theorem cf_card_del {n S e : Nat} (he : e < n) (hs : S.testBit e = true) : cf_card n (cf_diff S (2 ^ e)) + 1 = cf_card n S := by
  have h := cf_card_add (n := n) (S := cf_diff S (2 ^ e)) (e := e) he (by rw [cf_diff_bit, cf_one_bit]; simp)
  rw [← h]
  refine cf_card_congr fun i _ => ?_
  rw [cf_add_bit, cf_diff_bit, cf_one_bit]
  by_cases c : e = i
  · subst c; simp [hs]
  · simp [c]
theorem cf_sub_rf (S : Nat) : cf_sub S S := fun _ h => h
theorem cf_sub_0 (S : Nat) : cf_sub 0 S := fun i h => by rw [Nat.zero_testBit] at h; cases h
theorem cf_sub_tr {S T U : Nat} (h : cf_sub S T) (k : cf_sub T U) : cf_sub S U := fun i q => k i (h i q)
theorem cf_card_sub {n S T : Nat} (h : cf_sub S T) : cf_card n S ≤ cf_card n T := cf_card_mono fun i _ => h i
/-- a set within another of no more elements is the same -/
theorem cf_card_eq {n S T : Nat} (h : cf_sub S T) (hc : cf_card n T ≤ cf_card n S) : ∀ i, i < n → S.testBit i = T.testBit i := by
  intro i hi
  cases c : T.testBit i with
  | false =>
    cases d : S.testBit i with
    | false => rfl
    | true => rw [h i d] at c; cases c
  | true =>
    cases d : S.testBit i with
    | true => rfl
    | false =>
      have h1 := cf_card_del hi c
      have h2 : cf_card n S ≤ cf_card n (cf_diff T (2 ^ i)) := cf_card_mono fun j _ hj => by
        rw [cf_diff_bit, cf_one_bit, h j hj]
        by_cases q : i = j
        · subst q; rw [d] at hj; cases hj
        · simp [q]
      omega
end
section
/-! SUMS WITHOUT CARRY, SPANS, INDEPENDENT SETS, RANKS -/
def cf_xs (L : Nat → Nat) : Nat → Nat → Nat
  | 0, _ => 0
  | n + 1, T => if T.testBit n = true then cf_xs L n T ^^^ L n else cf_xs L n T
theorem cf_xs_congr {L : Nat → Nat} {n T U : Nat} (h : ∀ i, i < n → T.testBit i = U.testBit i) : cf_xs L n T = cf_xs L n U := by
  induction n with
  | zero => rfl
  | succ n ih => simp only [cf_xs]; rw [ih (fun i hi => h i (by omega)), h n (by omega)]
theorem cf_xs_congrL {L M : Nat → Nat} {n T : Nat} (h : ∀ i, i < n → T.testBit i = true → L i = M i) : cf_xs L n T = cf_xs M n T := by
  induction n with
  | zero => rfl
  | succ n ih =>
    simp only [cf_xs]; rw [ih (fun i hi => h i (by omega))]
    by_cases c : T.testBit n = true
    · rw [if_pos c, if_pos c, h n (by omega) c]
    · rw [if_neg c, if_neg c]
theorem cf_xs_0 (L : Nat → Nat) (n : Nat) : cf_xs L n 0 = 0 := by
  induction n with
  | zero => rfl
  | succ n ih => simp [cf_xs, ih]
theorem cf_x4 (a b c d : Nat) : (a ^^^ b) ^^^ (c ^^^ d) = (a ^^^ c) ^^^ (b ^^^ d) := by
  refine Nat.eq_of_testBit_eq fun i => ?_
  simp only [Nat.testBit_xor]
  cases a.testBit i <;> cases b.testBit i <;> cases c.testBit i <;> cases d.testBit i <;> rfl
theorem cf_xc (a b : Nat) : (a ^^^ b) ^^^ b = a := by rw [Nat.xor_assoc, Nat.xor_self, Nat.xor_zero]
theorem cf_xs_xor (L : Nat → Nat) (n T U : Nat) : cf_xs L n (T ^^^ U) = cf_xs L n T ^^^ cf_xs L n U := by
  induction n with
  | zero => simp [cf_xs]
  | succ n ih =>
    simp only [cf_xs, Nat.testBit_xor, ih]
    cases T.testBit n <;> cases U.testBit n
    · rfl
    · simp [Nat.xor_assoc]
    · simp [Nat.xor_assoc, Nat.xor_comm (L n)]
    · simp only [Bool.xor_self, if_true, Bool.false_eq_true, if_false]
      rw [cf_x4, Nat.xor_self, Nat.xor_zero]
theorem cf_xs_none {L : Nat → Nat} {n T : Nat} (h : ∀ i, i < n → T.testBit i = false) : cf_xs L n T = 0 := by
  rw [cf_xs_congr (U := 0) (fun i hi => by rw [h i hi, Nat.zero_testBit]), cf_xs_0]
theorem cf_xs_one {L : Nat → Nat} {n e : Nat} (he : e < n) : cf_xs L n (2 ^ e) = L e := by
  induction n with
  | zero => omega
  | succ n ih =>
    simp only [cf_xs, cf_one_bit]
    by_cases c : e = n
    · subst c
      rw [cf_xs_none (fun i hi => by rw [cf_one_bit]; exact decide_eq_false (by omega))]; simp
    · rw [ih (by omega)]; simp [c]
def cf_sp (L : Nat → Nat) (n S v : Nat) : Prop := ∃ T, cf_sub T S ∧ cf_xs L n T = v
theorem cf_sp_0 (L : Nat → Nat) (n S : Nat) : cf_sp L n S 0 := ⟨0, cf_sub_0 S, cf_xs_0 L n⟩
theorem cf_sp_xor {L : Nat → Nat} {n S v w : Nat} (h : cf_sp L n S v) (k : cf_sp L n S w) : cf_sp L n S (v ^^^ w) := by
  obtain ⟨T, h1, h2⟩ := h
  obtain ⟨U, k1, k2⟩ := k
  refine ⟨T ^^^ U, fun i hi => ?_, by rw [cf_xs_xor, h2, k2]⟩
  rw [Nat.testBit_xor] at hi
  cases c : T.testBit i with
  | true => exact h1 i c
  | false => rw [c] at hi; exact k1 i (by simpa using hi)
theorem cf_sp_mono {L : Nat → Nat} {n S S' v : Nat} (hs : cf_sub S S') (h : cf_sp L n S v) : cf_sp L n S' v := by
  obtain ⟨T, h1, h2⟩ := h
  exact ⟨T, cf_sub_tr h1 hs, h2⟩
theorem cf_one_sub {S e : Nat} (h : S.testBit e = true) : cf_sub (2 ^ e) S := fun i hi => by
  rw [cf_one_bit] at hi
  have : e = i := of_decide_eq_true hi
  rw [← this]; exact h
theorem cf_sp_mem {L : Nat → Nat} {n S e : Nat} (he : e < n) (h : S.testBit e = true) : cf_sp L n S (L e) := ⟨2 ^ e, cf_one_sub h, cf_xs_one he⟩
theorem cf_sp_sum {L : Nat → Nat} {n B T : Nat} (m : Nat) (hm : m ≤ n) (h : ∀ i, i < m → T.testBit i = true → cf_sp L n B (L i)) : cf_sp L n B (cf_xs L m T) := by
  induction m with
  | zero => exact cf_sp_0 L n B
  | succ m ih =>
    simp only [cf_xs]
    have h1 := ih (by omega) (fun i hi => h i (by omega))
    by_cases c : T.testBit m = true
    · rw [if_pos c]; exact cf_sp_xor h1 (h m (by omega) c)
    · rw [if_neg c]; exact h1
theorem cf_sp_trans {L : Nat → Nat} {n S B v : Nat} (h : ∀ i, i < n → S.testBit i = true → cf_sp L n B (L i)) (hv : cf_sp L n S v) : cf_sp L n B v := by
  obtain ⟨T, h1, rfl⟩ := hv
  exact cf_sp_sum n (Nat.le_refl n) fun i hi hT => h i hi (h1 i hT)
def cf_ind (L : Nat → Nat) (n S : Nat) : Prop := ∀ T, cf_sub T S → cf_xs L n T = 0 → ∀ i, i < n → T.testBit i = false
theorem cf_ind_0 (L : Nat → Nat) (n : Nat) : cf_ind L n 0 := fun T hT _ i _ => by
  cases c : T.testBit i with
  | false => rfl
  | true => have := hT i c; rw [Nat.zero_testBit] at this; cases this
theorem cf_ind_sub {L : Nat → Nat} {n S S' : Nat} (hs : cf_sub S S') (h : cf_ind L n S') : cf_ind L n S := fun T hT => h T (cf_sub_tr hT hs)
theorem cf_ind_add {L : Nat → Nat} {n S e : Nat} (he : e < n) (h : cf_ind L n S) (hn : ¬ cf_sp L n S (L e)) : cf_ind L n (S ||| 2 ^ e) := by
  intro T hT h0
  by_cases c : T.testBit e = true
  · refine absurd ⟨T ^^^ 2 ^ e, fun i hi => ?_, ?_⟩ hn
    · rw [Nat.testBit_xor, cf_one_bit] at hi
      by_cases q : e = i
      · subst q; rw [c] at hi; simp at hi
      · simp [q] at hi
        have := hT i hi
        rw [cf_add_bit] at this
        simpa [q] using this
    · rw [cf_xs_xor, h0, cf_xs_one he, Nat.zero_xor]
  · refine h T (fun i hi => ?_) h0
    have := hT i hi
    rw [cf_add_bit] at this
    by_cases q : e = i
    · subst q; exact absurd hi c
    · simpa [q] using this
theorem cf_ind_nsp {L : Nat → Nat} {n S e : Nat} (he : e < n) (h : cf_ind L n S) (hs : S.testBit e = true) : ¬ cf_sp L n (cf_diff S (2 ^ e)) (L e) := by
  rintro ⟨T, h1, h2⟩
  have hT : T.testBit e = false := by
    cases c : T.testBit e with
    | false => rfl
    | true => have := h1 e c; rw [cf_diff_bit, cf_one_bit] at this; simp at this
  have h3 := h (T ^^^ 2 ^ e) (fun i hi => by
    rw [Nat.testBit_xor, cf_one_bit] at hi
    by_cases q : e = i
    · subst q; exact hs
    · simp [q] at hi
      have := h1 i hi
      rw [cf_diff_bit] at this
      cases c : S.testBit i with
      | true => rfl
      | false => rw [c] at this; simp at this) (by rw [cf_xs_xor, h2, cf_xs_one he, Nat.xor_self]) e he
  rw [Nat.testBit_xor, cf_one_bit, hT] at h3
  simp at h3
/-- Steinitz: an independent set that another spans has no more elements -/
theorem cf_stz {L : Nat → Nat} {n : Nat} : ∀ (k J I : Nat), cf_card n (cf_diff J I) = k → cf_ind L n J → (∀ j, j < n → J.testBit j = true → cf_sp L n I (L j)) → cf_card n J ≤ cf_card n I := by
  intro k
  induction k with
  | zero =>
    intro J I hk _ _
    refine cf_card_mono fun i hi hJ => ?_
    cases c : I.testBit i with
    | true => rfl
    | false =>
      have : cf_card n (cf_diff J I) ≠ 0 := by
        have := cf_card_del (n := n) (S := cf_diff J I) hi (by rw [cf_diff_bit, hJ, c]; rfl)
        omega
      exact absurd hk this
  | succ k ih =>
    intro J I hk hJ hsp
    obtain ⟨j, hj, hd⟩ := cf_card_some (n := n) (S := cf_diff J I) (by omega)
    have hd0 := hd
    rw [cf_diff_bit] at hd
    have hJj : J.testBit j = true := by cases c : J.testBit j <;> simp [c] at hd ⊢
    have hIj : I.testBit j = false := by cases c : I.testBit j <;> simp [c] at hd ⊢
    have hn := cf_ind_nsp hj hJ hJj
    have hex : ∃ i, i < n ∧ I.testBit i = true ∧ ¬ cf_sp L n (cf_diff J (2 ^ j)) (L i) := by
      rcases Classical.em (∃ i, i < n ∧ I.testBit i = true ∧ ¬ cf_sp L n (cf_diff J (2 ^ j)) (L i)) with q | q
      · exact q
      · refine absurd (cf_sp_trans (fun i hi hI => ?_) (hsp j hj hJj)) hn
        rcases Classical.em (cf_sp L n (cf_diff J (2 ^ j)) (L i)) with r | r
        · exact r
        · exact absurd ⟨i, hi, hI, r⟩ q
    obtain ⟨i, hi, hIi, hni⟩ := hex
    have hij : j ≠ i := fun q => by rw [q, hIi] at hIj; cases hIj
    have hJ0i : (cf_diff J (2 ^ j)).testBit i = false := by
      cases c : (cf_diff J (2 ^ j)).testBit i with
      | false => rfl
      | true => exact absurd (cf_sp_mem hi c) hni
    have hind := cf_ind_add hi (cf_ind_sub (S' := J) (fun q hq => by
      rw [cf_diff_bit] at hq
      cases c : J.testBit q with
      | true => rfl
      | false => rw [c] at hq; simp at hq) hJ) hni
    have hc := cf_card_add (n := n) hi hJ0i
    have hc2 := cf_card_del hj hJj
    have hk2 : cf_card n (cf_diff (cf_diff J (2 ^ j) ||| 2 ^ i) I) = k := by
      have := cf_card_del hj hd0
      rw [hk] at this
      rw [← Nat.add_right_cancel this]
      refine cf_card_congr fun q _ => ?_
      rw [cf_diff_bit, cf_add_bit, cf_diff_bit, cf_one_bit, cf_diff_bit, cf_diff_bit, cf_one_bit]
      by_cases r : i = q
      · subst r; simp [hIi]
      · simp [r]; cases J.testBit q <;> cases I.testBit q <;> simp
    have hfin := ih _ I hk2 hind (fun q hq hb => by
      rw [cf_add_bit, cf_diff_bit] at hb
      by_cases r : i = q
      · subst r; exact cf_sp_mem hi hIi
      · refine hsp q hq ?_
        cases c : J.testBit q with
        | true => rfl
        | false => simp [r, c] at hb)
    omega
def cf_bas (L : Nat → Nat) (n S B : Nat) : Prop := cf_sub B S ∧ cf_ind L n B ∧ ∀ i, i < n → S.testBit i = true → cf_sp L n B (L i)
theorem cf_bas_ext {L : Nat → Nat} {n S B0 : Nat} (h0 : cf_ind L n B0) (hs : cf_sub B0 S) : ∃ B, cf_bas L n S B ∧ cf_sub B0 B := by
  have key : ∀ m, m ≤ n → ∃ B, cf_sub B0 B ∧ cf_sub B S ∧ cf_ind L n B ∧ ∀ i, i < m → S.testBit i = true → cf_sp L n B (L i) := by
    intro m
    induction m with
    | zero => intro _; exact ⟨B0, cf_sub_rf _, hs, h0, fun i hi => absurd hi (Nat.not_lt_zero i)⟩
    | succ m ih =>
      intro hm
      obtain ⟨B, h1, h2, h3, h4⟩ := ih (by omega)
      by_cases c : S.testBit m = true
      · rcases Classical.em (cf_sp L n B (L m)) with q | q
        · refine ⟨B, h1, h2, h3, fun i hi hS => ?_⟩
          rcases Nat.lt_or_ge i m with r | r
          · exact h4 i r hS
          · have : i = m := by omega
            rw [this]; exact q
        · have hB : cf_sub B (B ||| 2 ^ m) := fun i hi => by rw [cf_add_bit, hi]; rfl
          refine ⟨B ||| 2 ^ m, cf_sub_tr h1 hB, fun i hi => ?_, cf_ind_add (by omega) h3 q, fun i hi hS => ?_⟩
          · rw [cf_add_bit] at hi
            by_cases r : m = i
            · subst r; exact c
            · exact h2 i (by simpa [r] using hi)
          · rcases Nat.lt_or_ge i m with r | r
            · exact cf_sp_mono hB (h4 i r hS)
            · have : i = m := by omega
              rw [this]; exact cf_sp_mem (by omega) (by rw [cf_add_bit]; simp)
      · refine ⟨B, h1, h2, h3, fun i hi hS => ?_⟩
        rcases Nat.lt_or_ge i m with r | r
        · exact h4 i r hS
        · have : i = m := by omega
          rw [this] at hS; exact absurd hS c
  obtain ⟨B, h1, h2, h3, h4⟩ := key n (Nat.le_refl n)
  exact ⟨B, ⟨h2, h3, h4⟩, h1⟩
theorem cf_bas_ex (L : Nat → Nat) (n S : Nat) : ∃ B, cf_bas L n S B := by
  obtain ⟨B, h, _⟩ := cf_bas_ext (cf_ind_0 L n) (cf_sub_0 S)
  exact ⟨B, h⟩
noncomputable def cf_rk (L : Nat → Nat) (n S : Nat) : Nat := cf_card n (Classical.choose (cf_bas_ex L n S))
theorem cf_rk_ind {L : Nat → Nat} {n S J : Nat} (h : cf_ind L n J) (hs : ∀ j, j < n → J.testBit j = true → S.testBit j = true) : cf_card n J ≤ cf_rk L n S := by
  have hb := Classical.choose_spec (cf_bas_ex L n S)
  exact cf_stz _ J _ rfl h fun j hj hJ => hb.2.2 j hj (hs j hj hJ)
theorem cf_rk_bas {L : Nat → Nat} {n S B : Nat} (h : cf_bas L n S B) : cf_rk L n S = cf_card n B := by
  refine Nat.le_antisymm ?_ (cf_rk_ind h.2.1 fun j _ hj => h.1 j hj)
  have hb := Classical.choose_spec (cf_bas_ex L n S)
  exact cf_stz _ _ B rfl hb.2.1 fun j hj hJ => h.2.2 j hj (hb.1 j hJ)
theorem cf_rk_of_ind {L : Nat → Nat} {n S : Nat} (h : cf_ind L n S) : cf_rk L n S = cf_card n S := cf_rk_bas ⟨cf_sub_rf S, h, fun _ hi hS => cf_sp_mem hi hS⟩
theorem cf_ind_of_rk {L : Nat → Nat} {n S : Nat} (h : cf_card n S ≤ cf_rk L n S) : cf_ind L n S := by
  obtain ⟨B, hb⟩ := cf_bas_ex L n S
  rw [cf_rk_bas hb] at h
  have := cf_card_eq hb.1 h
  intro T hT h0
  have q := hb.2.1 (T &&& cf_full n) (fun i hi => by
    rw [Nat.testBit_and, cf_full_bit] at hi
    have h2 : i < n := by
      by_cases c : i < n
      · exact c
      · simp [c] at hi
    rw [this i h2]
    exact hT i (by simpa [h2] using hi)) (by rw [cf_xs_congr (U := T) (fun i hi => by rw [Nat.testBit_and, cf_full_bit]; simp [hi])]; exact h0)
  intro i hi
  have := q i hi
  rw [Nat.testBit_and, cf_full_bit] at this
  simpa [hi] using this
def cf_mat (r : Nat → Nat) : Prop := r 0 = 0 ∧ (∀ S T, cf_sub S T → r S ≤ r T) ∧ (∀ S e, r (S ||| 2 ^ e) ≤ r S + 1) ∧ ∀ S T, r (S ||| T) + r (S &&& T) ≤ r S + r T
theorem cf_rk_mono {L : Nat → Nat} {n S T : Nat} (h : ∀ j, j < n → S.testBit j = true → T.testBit j = true) : cf_rk L n S ≤ cf_rk L n T := by
  obtain ⟨B, hb⟩ := cf_bas_ex L n S
  rw [cf_rk_bas hb]
  exact cf_rk_ind hb.2.1 fun j hj hB => h j hj (hb.1 j hB)
theorem cf_rk_congr {L : Nat → Nat} {n S T : Nat} (h : ∀ j, j < n → S.testBit j = T.testBit j) : cf_rk L n S = cf_rk L n T :=
  Nat.le_antisymm (cf_rk_mono fun j hj q => by rw [← h j hj]; exact q) (cf_rk_mono fun j hj q => by rw [h j hj]; exact q)
theorem cf_rk_le {L : Nat → Nat} {n S : Nat} : cf_rk L n S ≤ cf_card n S := by
  obtain ⟨B, hb⟩ := cf_bas_ex L n S
  rw [cf_rk_bas hb]
  exact cf_card_sub hb.1
theorem cf_rk_mat (L : Nat → Nat) (n : Nat) : cf_mat (cf_rk L n) := by
  refine ⟨?_, fun S T h => cf_rk_mono fun j _ q => h j q, fun S e => ?_, fun S T => ?_⟩
  · rw [cf_rk_of_ind (cf_ind_0 L n), cf_card_0]
  · obtain ⟨B, hb⟩ := cf_bas_ex L n S
    obtain ⟨C, hc⟩ := cf_bas_ex L n (S ||| 2 ^ e)
    rw [cf_rk_bas hb, cf_rk_bas hc]
    refine Nat.le_trans (cf_stz _ C (B ||| 2 ^ e) rfl hc.2.1 fun j hj hC => ?_) (cf_card_addle n B e)
    have := hc.1 j hC
    rw [cf_add_bit] at this
    by_cases q : e = j
    · subst q; exact cf_sp_mem hj (by rw [cf_add_bit]; simp)
    · exact cf_sp_mono (fun i hi => by rw [cf_add_bit, hi]; rfl) (hb.2.2 j hj (by simpa [q] using this))
  · obtain ⟨B, hb⟩ := cf_bas_ex L n (S &&& T)
    obtain ⟨C, hc, hBC⟩ := cf_bas_ext (S := S ||| T) hb.2.1 (fun i hi => by
      have := hb.1 i hi
      rw [Nat.testBit_and] at this
      rw [Nat.testBit_or]
      cases h : S.testBit i <;> simp [h] at this ⊢)
    rw [cf_rk_bas hb, cf_rk_bas hc]
    have h1 : cf_card n (C &&& S) ≤ cf_rk L n S := cf_rk_ind (cf_ind_sub (fun i hi => by
      rw [Nat.testBit_and] at hi; cases h : C.testBit i <;> simp [h] at hi ⊢) hc.2.1) (fun j _ hj => by
      rw [Nat.testBit_and] at hj; cases h : S.testBit j <;> simp [h] at hj ⊢)
    have h2 : cf_card n (C &&& T) ≤ cf_rk L n T := cf_rk_ind (cf_ind_sub (fun i hi => by
      rw [Nat.testBit_and] at hi; cases h : C.testBit i <;> simp [h] at hi ⊢) hc.2.1) (fun j _ hj => by
      rw [Nat.testBit_and] at hj; cases h : T.testBit j <;> simp [h] at hj ⊢)
    have h3 := cf_card_ui n (C &&& S) (C &&& T)
    have h4 : cf_card n ((C &&& S) ||| (C &&& T)) = cf_card n C := cf_card_congr fun i _ => by
      rw [Nat.testBit_or, Nat.testBit_and, Nat.testBit_and]
      cases h : C.testBit i with
      | false => rfl
      | true => have := hc.1 i h; rw [Nat.testBit_or] at this; simpa using this
    have h5 : cf_card n B ≤ cf_card n ((C &&& S) &&& (C &&& T)) := cf_card_mono fun i _ hi => by
      have q := hb.1 i hi
      have r := hBC i hi
      rw [Nat.testBit_and] at q
      rw [Nat.testBit_and, Nat.testBit_and, Nat.testBit_and, r]
      simpa using q
    omega
end
section
/-! THE LARGEST COMMON INDEPENDENT SETS OF TWO RANK FUNCTIONS -/
theorem cf_mat_con {r : Nat → Nat} {e : Nat} (h : cf_mat r) (h1 : r (2 ^ e) = 1) : cf_mat (fun S => r (S ||| 2 ^ e) - 1) := by
  obtain ⟨_, b, c, d⟩ := h
  have one : ∀ S, 1 ≤ r (S ||| 2 ^ e) := fun S => by
    rw [← h1]
    exact b _ _ fun i hi => by rw [Nat.testBit_or, hi, Bool.or_true]
  refine ⟨by simp [h1], fun S T q => ?_, fun S f => ?_, fun S T => ?_⟩
  · have := b (S ||| 2 ^ e) (T ||| 2 ^ e) fun i hi => by
      rw [Nat.testBit_or] at hi ⊢
      cases k : S.testBit i with
      | true => rw [q i k]; rfl
      | false => rw [k] at hi; simp only [Bool.false_or] at hi; rw [hi, Bool.or_true]
    dsimp only
    omega
  · have := c (S ||| 2 ^ e) f
    have e1 : S ||| 2 ^ f ||| 2 ^ e = S ||| 2 ^ e ||| 2 ^ f := by rw [Nat.or_assoc, Nat.or_comm (2 ^ f), ← Nat.or_assoc]
    dsimp only
    rw [e1]
    have := one S
    omega
  · have q := d (S ||| 2 ^ e) (T ||| 2 ^ e)
    have e1 : (S ||| 2 ^ e) ||| (T ||| 2 ^ e) = S ||| T ||| 2 ^ e := Nat.eq_of_testBit_eq fun i => by
      simp only [Nat.testBit_or]; cases S.testBit i <;> cases T.testBit i <;> cases (2 ^ e).testBit i <;> rfl
    have e2 : (S ||| 2 ^ e) &&& (T ||| 2 ^ e) = (S &&& T) ||| 2 ^ e := Nat.eq_of_testBit_eq fun i => by
      simp only [Nat.testBit_or, Nat.testBit_and]; cases S.testBit i <;> cases T.testBit i <;> cases (2 ^ e).testBit i <;> rfl
    rw [e1, e2] at q
    have a1 := one (S ||| T)
    have a2 := one (S &&& T)
    have a3 := one S
    have a4 := one T
    dsimp only
    omega
theorem cf_full_succ (n : Nat) : cf_full (n + 1) = cf_full n ||| 2 ^ n := Nat.eq_of_testBit_eq fun i => by
  rw [cf_add_bit, cf_full_bit, cf_full_bit]
  by_cases c : i < n
  · simp [c, Nat.lt_succ_of_lt c]
  · by_cases d : n = i
    · subst d; simp
    · have : ¬ i < n + 1 := by omega
      simp [c, d, this]
/-- what is left out has no bit from n on -/
theorem cf_sub_full {A n i : Nat} (h : cf_sub A (cf_full n)) (hi : n ≤ i) : A.testBit i = false := by
  cases c : A.testBit i with
  | false => rfl
  | true => have := h i c; rw [cf_full_bit] at this; have := of_decide_eq_true this; omega
theorem cf_edm : ∀ (n : Nat) (r1 r2 : Nat → Nat), cf_mat r1 → cf_mat r2 → ∀ k, (∀ A, cf_sub A (cf_full n) → k ≤ r1 A + r2 (cf_diff (cf_full n) A)) → ∃ I, cf_sub I (cf_full n) ∧ cf_card n I = k ∧ r1 I = k ∧ r2 I = k := by
  intro n
  induction n with
  | zero =>
    intro r1 r2 m1 m2 k hk
    have h := hk 0 (cf_sub_0 _)
    have e0 : cf_diff (cf_full 0) 0 = 0 := rfl
    rw [e0, m1.1, m2.1] at h
    have : k = 0 := by omega
    subst this
    exact ⟨0, cf_sub_0 _, rfl, m1.1, m2.1⟩
  | succ n ih =>
    intro r1 r2 m1 m2 k hk
    have hup : ∀ A, cf_sub A (cf_full n) → cf_sub A (cf_full (n + 1)) := fun A hA i hi => by
      have := hA i hi
      rw [cf_full_bit] at this ⊢
      exact decide_eq_true (by have := of_decide_eq_true this; omega)
    have hupe : ∀ A, cf_sub A (cf_full n) → cf_sub (A ||| 2 ^ n) (cf_full (n + 1)) := fun A hA i hi => by
      rw [cf_add_bit] at hi
      by_cases c : n = i
      · subst c; rw [cf_full_bit]; simp
      · exact hup A hA i (by simpa [c] using hi)
    by_cases hdel : ∀ A, cf_sub A (cf_full n) → k ≤ r1 A + r2 (cf_diff (cf_full n) A)
    · obtain ⟨I, i1, i2, i3, i4⟩ := ih r1 r2 m1 m2 k hdel
      refine ⟨I, hup I i1, ?_, i3, i4⟩
      simp only [cf_card]
      rw [cf_sub_full i1 (Nat.le_refl n), i2]
      rfl
    · have hA : ∃ A, cf_sub A (cf_full n) ∧ r1 A + r2 (cf_diff (cf_full n) A) < k := by
        rcases Classical.em (∃ A, cf_sub A (cf_full n) ∧ r1 A + r2 (cf_diff (cf_full n) A) < k) with q | q
        · exact q
        · exact absurd (fun A hA => Nat.le_of_not_lt fun hc => q ⟨A, hA, hc⟩) hdel
      obtain ⟨A, hA1, hA2⟩ := hA
      have hAn := cf_sub_full hA1 (Nat.le_refl n)
      -- the last element is no loop
      have l1 : r1 (2 ^ n) = 1 := by
        have u := m1.2.2.1 0 n
        rw [Nat.zero_or, m1.1] at u
        rcases Nat.lt_or_ge (r1 (2 ^ n)) 1 with q | q
        · exfalso
          have s := m1.2.2.2 A (2 ^ n)
          have g := hk (A ||| 2 ^ n) (hupe A hA1)
          have e1 : cf_diff (cf_full (n + 1)) (A ||| 2 ^ n) = cf_diff (cf_full n) A := Nat.eq_of_testBit_eq fun i => by
            rw [cf_diff_bit, cf_diff_bit, cf_full_succ, cf_add_bit, cf_add_bit, cf_full_bit]
            by_cases c : n = i
            · subst c; simp
            · simp [c]
          rw [e1] at g
          omega
        · omega
      have l2 : r2 (2 ^ n) = 1 := by
        have u := m2.2.2.1 0 n
        rw [Nat.zero_or, m2.1] at u
        rcases Nat.lt_or_ge (r2 (2 ^ n)) 1 with q | q
        · exfalso
          have s := m2.2.2.2 (cf_diff (cf_full n) A) (2 ^ n)
          have g := hk A (hup A hA1)
          have e1 : cf_diff (cf_full (n + 1)) A = cf_diff (cf_full n) A ||| 2 ^ n := Nat.eq_of_testBit_eq fun i => by
            rw [cf_diff_bit, cf_full_succ, cf_add_bit, cf_add_bit, cf_diff_bit]
            by_cases c : n = i
            · subst c; simp [hAn]
            · simp [c]
          rw [e1] at g
          omega
        · omega
      have m1' := cf_mat_con m1 l1
      have m2' := cf_mat_con m2 l2
      have one1 : ∀ S, 1 ≤ r1 (S ||| 2 ^ n) := fun S => by
        rw [← l1]; exact m1.2.1 _ _ fun i hi => by rw [Nat.testBit_or, hi, Bool.or_true]
      have one2 : ∀ S, 1 ≤ r2 (S ||| 2 ^ n) := fun S => by
        rw [← l2]; exact m2.2.1 _ _ fun i hi => by rw [Nat.testBit_or, hi, Bool.or_true]
      obtain ⟨I, i1, i2, i3, i4⟩ := ih _ _ m1' m2' (k - 1) (fun B hB => by
        rcases Nat.lt_or_ge ((r1 (B ||| 2 ^ n) - 1) + (r2 (cf_diff (cf_full n) B ||| 2 ^ n) - 1)) (k - 1) with q | q
        · exfalso
          have hBn := cf_sub_full hB (Nat.le_refl n)
          have a1 := one1 B
          have a2 := one2 (cf_diff (cf_full n) B)
          have s1 := m1.2.2.2 A (B ||| 2 ^ n)
          have s2 := m2.2.2.2 (cf_diff (cf_full n) A) (cf_diff (cf_full n) B ||| 2 ^ n)
          have g1 := hk (A ||| (B ||| 2 ^ n)) (fun i hi => by
            rw [Nat.testBit_or] at hi
            cases c : A.testBit i with
            | true => exact hup A hA1 i c
            | false => rw [c, Bool.false_or] at hi; exact hupe B hB i hi)
          have g2 := hk (A &&& (B ||| 2 ^ n)) (fun i hi => by
            rw [Nat.testBit_and] at hi
            cases c : A.testBit i with
            | true => exact hup A hA1 i c
            | false => rw [c] at hi; simp at hi)
          have e1 : cf_diff (cf_full (n + 1)) (A &&& (B ||| 2 ^ n)) = cf_diff (cf_full n) A ||| (cf_diff (cf_full n) B ||| 2 ^ n) := Nat.eq_of_testBit_eq fun i => by
            rw [cf_diff_bit, cf_full_succ, cf_add_bit, Nat.testBit_and, cf_add_bit, Nat.testBit_or, cf_diff_bit, cf_add_bit, cf_diff_bit]
            by_cases c : n = i
            · subst c; simp [hAn, hBn]
            · simp [c]; cases (cf_full n).testBit i <;> cases A.testBit i <;> cases B.testBit i <;> rfl
          have e2 : cf_diff (cf_full (n + 1)) (A ||| (B ||| 2 ^ n)) = cf_diff (cf_full n) A &&& (cf_diff (cf_full n) B ||| 2 ^ n) := Nat.eq_of_testBit_eq fun i => by
            rw [cf_diff_bit, cf_full_succ, cf_add_bit, Nat.testBit_or, cf_add_bit, Nat.testBit_and, cf_diff_bit, cf_add_bit, cf_diff_bit]
            by_cases c : n = i
            · subst c; simp [cf_full_bit]
            · simp [c]; cases (cf_full n).testBit i <;> cases A.testBit i <;> cases B.testBit i <;> rfl
          rw [e2] at g1
          rw [e1] at g2
          omega
        · exact q)
      try dsimp only at i3 i4
      have b1 := one1 I
      have b2 := one2 I
      refine ⟨I ||| 2 ^ n, hupe I i1, ?_, by omega, by omega⟩
      simp only [cf_card]
      rw [cf_card_congr (T := I) (fun i hi => by rw [cf_add_bit]; simp; omega), i2, cf_add_bit]
      simp
      omega
end
section
/-! THE COVER: what is forced into every cover, if it is closed, is one -/
/-- a largest common set: independent in both, and no common one has more -/
def cf_com (L M : Nat → Nat) (n I : Nat) : Prop := cf_sub I (cf_full n) ∧ cf_ind L n I ∧ cf_ind M n I ∧ ∀ J, cf_sub J (cf_full n) → cf_ind L n J → cf_ind M n J → cf_card n J ≤ cf_card n I
/-- a cover: the rank of A in the first and that of the others in the second make no more than I has -/
def cf_cov (L M : Nat → Nat) (n I A : Nat) : Prop := cf_rk L n A + cf_rk M n (cf_diff (cf_full n) A) = cf_card n I
theorem cf_cov_ex {L M : Nat → Nat} {n I : Nat} (h : cf_com L M n I) : ∃ A, cf_sub A (cf_full n) ∧ cf_cov L M n I A := by
  obtain ⟨h0, h1, h2, h3⟩ := h
  rcases Classical.em (∃ A, cf_sub A (cf_full n) ∧ cf_rk L n A + cf_rk M n (cf_diff (cf_full n) A) ≤ cf_card n I) with ⟨A, a1, a2⟩ | q
  · refine ⟨A, a1, Nat.le_antisymm a2 ?_⟩
    have b1 : cf_card n (I &&& A) ≤ cf_rk L n A := cf_rk_ind (cf_ind_sub (fun i hi => by rw [Nat.testBit_and] at hi; cases c : I.testBit i <;> simp [c] at hi ⊢) h1) (fun j _ hj => by rw [Nat.testBit_and] at hj; cases c : A.testBit j <;> simp [c] at hj ⊢)
    have b2 : cf_card n (cf_diff I A) ≤ cf_rk M n (cf_diff (cf_full n) A) := cf_rk_ind (cf_ind_sub (fun i hi => by rw [cf_diff_bit] at hi; cases c : I.testBit i <;> simp [c] at hi ⊢) h2) (fun j hj hd => by rw [cf_diff_bit] at hd ⊢; rw [cf_full_bit]; cases c : A.testBit j <;> simp [c, hj] at hd ⊢)
    have b3 := cf_card_ui n (I &&& A) (cf_diff I A)
    have b4 : cf_card n ((I &&& A) &&& cf_diff I A) = 0 := cf_card_none fun i _ => by
      rw [Nat.testBit_and, Nat.testBit_and, cf_diff_bit]; cases I.testBit i <;> cases A.testBit i <;> rfl
    have b5 : cf_card n ((I &&& A) ||| cf_diff I A) = cf_card n I := cf_card_congr fun i _ => by
      rw [Nat.testBit_or, Nat.testBit_and, cf_diff_bit]; cases I.testBit i <;> cases A.testBit i <;> rfl
    omega
  · exfalso
    obtain ⟨J, j1, j2, j3, j4⟩ := cf_edm n _ _ (cf_rk_mat L n) (cf_rk_mat M n) (cf_card n I + 1) (fun A hA => by
      rcases Nat.lt_or_ge (cf_rk L n A + cf_rk M n (cf_diff (cf_full n) A)) (cf_card n I + 1) with r | r
      · exact absurd ⟨A, hA, by omega⟩ q
      · exact r)
    have := h3 J j1 (cf_ind_of_rk (by omega)) (cf_ind_of_rk (by omega))
    omega
/-- what a cover does with the common set: its edges in the cover span it in the first, the others span the others in the second -/
theorem cf_cov_sp {L M : Nat → Nat} {n I A : Nat} (h1 : cf_ind L n I) (h2 : cf_ind M n I) (h : cf_cov L M n I A) : (∀ e, e < n → A.testBit e = true → cf_sp L n (I &&& A) (L e)) ∧ ∀ e, e < n → A.testBit e = false → cf_sp M n (cf_diff I A) (M e) := by
  have s1 : cf_sub (I &&& A) I := fun i hi => by rw [Nat.testBit_and] at hi; cases c : I.testBit i <;> simp [c] at hi ⊢
  have s2 : cf_sub (cf_diff I A) I := fun i hi => by rw [cf_diff_bit] at hi; cases c : I.testBit i <;> simp [c] at hi ⊢
  have t1 : ∀ j, (I &&& A).testBit j = true → A.testBit j = true := fun j hj => by rw [Nat.testBit_and] at hj; cases c : A.testBit j <;> simp [c] at hj ⊢
  have t2 : ∀ j, j < n → (cf_diff I A).testBit j = true → (cf_diff (cf_full n) A).testBit j = true := fun j hj hd => by rw [cf_diff_bit] at hd ⊢; rw [cf_full_bit]; cases c : A.testBit j <;> simp [c, hj] at hd ⊢
  have b1 : cf_card n (I &&& A) ≤ cf_rk L n A := cf_rk_ind (cf_ind_sub s1 h1) (fun j _ hj => t1 j hj)
  have b2 : cf_card n (cf_diff I A) ≤ cf_rk M n (cf_diff (cf_full n) A) := cf_rk_ind (cf_ind_sub s2 h2) t2
  have b3 := cf_card_ui n (I &&& A) (cf_diff I A)
  have b4 : cf_card n ((I &&& A) &&& cf_diff I A) = 0 := cf_card_none fun i _ => by
    rw [Nat.testBit_and, Nat.testBit_and, cf_diff_bit]; cases I.testBit i <;> cases A.testBit i <;> rfl
  have b5 : cf_card n ((I &&& A) ||| cf_diff I A) = cf_card n I := cf_card_congr fun i _ => by
    rw [Nat.testBit_or, Nat.testBit_and, cf_diff_bit]; cases I.testBit i <;> cases A.testBit i <;> rfl
  have h' : cf_rk L n A + cf_rk M n (cf_diff (cf_full n) A) = cf_card n I := h
  refine ⟨fun e he hA => ?_, fun e he hA => ?_⟩
  · rcases Classical.em (cf_sp L n (I &&& A) (L e)) with q | q
    · exact q
    · exfalso
      have w := cf_rk_ind (S := A) (cf_ind_add he (cf_ind_sub s1 h1) q) (fun j _ hj => by
        rw [cf_add_bit] at hj
        by_cases c : e = j
        · subst c; exact hA
        · exact t1 j (by simpa [c] using hj))
      have hn : (I &&& A).testBit e = false := by
        cases c : (I &&& A).testBit e with
        | false => rfl
        | true => exact absurd (cf_sp_mem he c) q
      rw [cf_card_add he hn] at w
      omega
  · rcases Classical.em (cf_sp M n (cf_diff I A) (M e)) with q | q
    · exact q
    · exfalso
      have w := cf_rk_ind (S := cf_diff (cf_full n) A) (cf_ind_add he (cf_ind_sub s2 h2) q) (fun j hj hd => by
        rw [cf_add_bit] at hd
        by_cases c : e = j
        · subst c; rw [cf_diff_bit, cf_full_bit, hA]; simp [hj]
        · exact t2 j hj (by simpa [c] using hd))
      have hn : (cf_diff I A).testBit e = false := by
        cases c : (cf_diff I A).testBit e with
        | false => rfl
        | true => exact absurd (cf_sp_mem he c) q
      rw [cf_card_add he hn] at w
      omega
/-- the least cover: a set that is in every cover, and that is closed as the covers are, is one -/
theorem cf_cov_least {L M : Nat → Nat} {n I C : Nat} (h : cf_com L M n I) (hC : cf_sub C (cf_full n)) (hin : ∀ A, cf_sub A (cf_full n) → cf_cov L M n I A → cf_sub C A)
    (hg : ∀ e, e < n → C.testBit e = true → I.testBit e = false → cf_sp L n I (L e) → cf_sp L n (I &&& C) (L e))
    (hh : ∀ e, e < n → C.testBit e = false → I.testBit e = false → cf_sp M n (cf_diff I C) (M e)) : cf_cov L M n I C := by
  obtain ⟨A, a1, a2⟩ := cf_cov_ex h
  obtain ⟨h0, h1, h2, h3⟩ := h
  have sp := (cf_cov_sp h1 h2 a2).1
  have hCA := hin A a1 a2
  have s1 : cf_sub (I &&& C) I := fun i hi => by rw [Nat.testBit_and] at hi; cases c : I.testBit i <;> simp [c] at hi ⊢
  have s2 : cf_sub (cf_diff I C) I := fun i hi => by rw [cf_diff_bit] at hi; cases c : I.testBit i <;> simp [c] at hi ⊢
  have k1 : cf_bas L n C (I &&& C) := by
    refine ⟨fun i hi => by rw [Nat.testBit_and] at hi; cases c : C.testBit i <;> simp [c] at hi ⊢, cf_ind_sub s1 h1, fun e he hCe => ?_⟩
    cases c : I.testBit e with
    | true => exact cf_sp_mem he (by rw [Nat.testBit_and, c, hCe]; rfl)
    | false => exact hg e he hCe c (cf_sp_mono (fun i hi => by rw [Nat.testBit_and] at hi; cases d : I.testBit i <;> simp [d] at hi ⊢) (sp e he (hCA e hCe)))
  have k2 : cf_bas M n (cf_diff (cf_full n) C) (cf_diff I C) := by
    refine ⟨fun i hi => ?_, cf_ind_sub s2 h2, fun e he hd => ?_⟩
    · have := s2 i hi
      have := h0 i this
      rw [cf_diff_bit] at hi ⊢
      rw [this]
      cases c : C.testBit i <;> simp [c] at hi ⊢
    · rw [cf_diff_bit] at hd
      have hCe : C.testBit e = false := by cases c : C.testBit e <;> simp [c] at hd ⊢
      cases c : I.testBit e with
      | true => exact cf_sp_mem he (by rw [cf_diff_bit, c, hCe]; rfl)
      | false => exact hh e he hCe c
  show cf_rk L n C + cf_rk M n (cf_diff (cf_full n) C) = cf_card n I
  rw [cf_rk_bas k1, cf_rk_bas k2]
  have b3 := cf_card_ui n (I &&& C) (cf_diff I C)
  have b4 : cf_card n ((I &&& C) &&& cf_diff I C) = 0 := cf_card_none fun i _ => by
    rw [Nat.testBit_and, Nat.testBit_and, cf_diff_bit]; cases I.testBit i <;> cases C.testBit i <;> rfl
  have b5 : cf_card n ((I &&& C) ||| cf_diff I C) = cf_card n I := cf_card_congr fun i _ => by
    rw [Nat.testBit_or, Nat.testBit_and, cf_diff_bit]; cases I.testBit i <;> cases C.testBit i <;> rfl
  omega
end
section
/-! A FOREST'S ROWS: one pass over them takes the lines of its edges out of a line -/
theorem cf_lt_bit {a b t : Nat} (ha : a.testBit t = false) (hb : b.testBit t = true) (h : ∀ j, t < j → a.testBit j = b.testBit j) : a < b := by
  have hq : a / 2 ^ (t + 1) = b / 2 ^ (t + 1) := Nat.eq_of_testBit_eq fun i => by
    rw [Nat.testBit_div_two_pow, Nat.testBit_div_two_pow]; exact h _ (by omega)
  have h1 : a % 2 ^ (t + 1) < 2 ^ t := Nat.lt_pow_two_of_testBit _ fun i hi => by
    rw [Nat.testBit_mod_two_pow]
    by_cases c : i = t
    · subst c; rw [ha]; simp
    · have : ¬ i < t + 1 := by omega
      simp [this]
  have h2 : 2 ^ t ≤ b % 2 ^ (t + 1) := Nat.ge_two_pow_of_testBit (by rw [Nat.testBit_mod_two_pow, hb]; simp)
  have e1 := Nat.div_add_mod a (2 ^ (t + 1))
  have e2 := Nat.div_add_mod b (2 ^ (t + 1))
  rw [hq] at e1
  omega
def fo_step (r row : Nat) : Nat := if r ^^^ row < r then r ^^^ row else r
theorem fo_top {r row : Nat} (h : row ≠ 0) : r ^^^ row < r ↔ r.testBit row.log2 = true := by
  have hb : ∀ j, row.log2 < j → row.testBit j = false := fun j hj => Nat.testBit_lt_two_pow ((Nat.log2_lt h).mp hj)
  have ht := Nat.testBit_log2 h
  cases c : r.testBit row.log2 with
  | true =>
    refine ⟨fun _ => rfl, fun _ => cf_lt_bit (t := row.log2) (by rw [Nat.testBit_xor, c, ht]; rfl) c fun j hj => ?_⟩
    rw [Nat.testBit_xor, hb j hj]; simp
  | false =>
    refine ⟨fun q => ?_, fun q => by cases q⟩
    have := cf_lt_bit (a := r) (b := r ^^^ row) (t := row.log2) c (by rw [Nat.testBit_xor, c, ht]; rfl) fun j hj => by
      rw [Nat.testBit_xor, hb j hj]; simp
    omega
theorem fo_step_bit {r row : Nat} (h : row ≠ 0) : fo_step r row = if r.testBit row.log2 = true then r ^^^ row else r := by
  unfold fo_step
  by_cases c : r ^^^ row < r
  · rw [if_pos c, if_pos ((fo_top h).mp c)]
  · rw [if_neg c, if_neg fun q => c ((fo_top h).mpr q)]
theorem fo_step_lin {a b row : Nat} (h : row ≠ 0) : fo_step (a ^^^ b) row = fo_step a row ^^^ fo_step b row := by
  rw [fo_step_bit h, fo_step_bit h, fo_step_bit h, Nat.testBit_xor]
  cases a.testBit row.log2 <;> cases b.testBit row.log2
  · simp
  · simp [Nat.xor_assoc]
  · simp [Nat.xor_assoc, Nat.xor_comm row]
  · simp only [Bool.xor_self, if_true, Bool.false_eq_true, if_false]
    rw [cf_x4, Nat.xor_self, Nat.xor_zero]
theorem fo_step_0 (row : Nat) : fo_step 0 row = 0 := by simp [fo_step]
theorem fo_step_self (row : Nat) : fo_step row row = 0 := by
  unfold fo_step
  rw [Nat.xor_self]
  by_cases c : 0 < row
  · rw [if_pos c]
  · rw [if_neg c]; omega
def fo_rest (rows : Nat → Nat) (v : Nat) : Nat → Nat
  | 0 => v
  | i + 1 => fo_step (fo_rest rows v i) (rows i)
def fo_way (rows parts : Nat → Nat) (v : Nat) : Nat → Nat
  | 0 => 0
  | i + 1 => if fo_rest rows v i ^^^ rows i < fo_rest rows v i then fo_way rows parts v i ^^^ parts i else fo_way rows parts v i
theorem fo_rest_congr {rows rows' : Nat → Nat} {v k : Nat} (h : ∀ i, i < k → rows i = rows' i) : fo_rest rows v k = fo_rest rows' v k := by
  induction k with
  | zero => rfl
  | succ k ih => simp only [fo_rest]; rw [ih fun i hi => h i (by omega), h k (by omega)]
theorem fo_way_congr {rows rows' parts parts' : Nat → Nat} {v k : Nat} (h : ∀ i, i < k → rows i = rows' i) (h2 : ∀ i, i < k → parts i = parts' i) : fo_way rows parts v k = fo_way rows' parts' v k := by
  induction k with
  | zero => rfl
  | succ k ih =>
    simp only [fo_way]
    rw [ih (fun i hi => h i (by omega)) (fun i hi => h2 i (by omega)), fo_rest_congr (k := k) fun i hi => h i (by omega), h k (by omega), h2 k (by omega)]
theorem fo_rest_0 (rows : Nat → Nat) (k : Nat) : fo_rest rows 0 k = 0 := by
  induction k with
  | zero => rfl
  | succ k ih => simp only [fo_rest]; rw [ih, fo_step_0]
theorem fo_rest_lin {rows : Nat → Nat} {a b k : Nat} (h : ∀ i, i < k → rows i ≠ 0) : fo_rest rows (a ^^^ b) k = fo_rest rows a k ^^^ fo_rest rows b k := by
  induction k with
  | zero => rfl
  | succ k ih => simp only [fo_rest]; rw [ih fun i hi => h i (by omega), fo_step_lin (h k (by omega))]
/-- what a forest B of the edges' lines L holds -/
def fo_ok (L : Nat → Nat) (n B : Nat) (rows parts : Nat → Nat) (k : Nat) : Prop :=
  cf_sub B (cf_full n) ∧ cf_ind L n B ∧ cf_card n B = k ∧ (∀ i, i < k → rows i ≠ 0 ∧ cf_xs L n (parts i) = rows i ∧ cf_sub (parts i) B) ∧ ∀ b, b < n → B.testBit b = true → fo_rest rows (L b) k = 0
theorem fo_ok_congr {L : Nat → Nat} {n B : Nat} {rows parts rows' parts' : Nat → Nat} {k : Nat} (h : fo_ok L n B rows parts k) (h1 : ∀ i, i < k → rows i = rows' i) (h2 : ∀ i, i < k → parts i = parts' i) : fo_ok L n B rows' parts' k := by
  obtain ⟨a, b, c, d, e⟩ := h
  refine ⟨a, b, c, fun i hi => ?_, fun b hb hB => ?_⟩
  · rw [← h1 i hi, ← h2 i hi]; exact d i hi
  · rw [← fo_rest_congr h1]; exact e b hb hB
theorem fo_ok_0 (L : Nat → Nat) (n : Nat) (rows parts : Nat → Nat) : fo_ok L n 0 rows parts 0 :=
  ⟨cf_sub_0 _, cf_ind_0 L n, cf_card_0 n, fun i hi => absurd hi (Nat.not_lt_zero i), fun b _ h => by rw [Nat.zero_testBit] at h; cases h⟩
theorem fo_way_sub {L : Nat → Nat} {n B : Nat} {rows parts : Nat → Nat} {k : Nat} (h : fo_ok L n B rows parts k) (v : Nat) : ∀ i, i ≤ k → cf_sub (fo_way rows parts v i) B := by
  intro i
  induction i with
  | zero => intro _; exact cf_sub_0 B
  | succ i ih =>
    intro hi
    simp only [fo_way]
    have h1 := ih (by omega)
    have h2 := (h.2.2.2.1 i (by omega)).2.2
    split
    · intro j hj
      rw [Nat.testBit_xor] at hj
      cases c : (fo_way rows parts v i).testBit j with
      | true => exact h1 j c
      | false => rw [c] at hj; exact h2 j (by simpa using hj)
    · exact h1
theorem fo_way_eq {L : Nat → Nat} {n B : Nat} {rows parts : Nat → Nat} {k : Nat} (h : fo_ok L n B rows parts k) (v : Nat) : ∀ i, i ≤ k → fo_rest rows v i = v ^^^ cf_xs L n (fo_way rows parts v i) := by
  intro i
  induction i with
  | zero => intro _; simp [fo_rest, fo_way, cf_xs_0]
  | succ i ih =>
    intro hi
    simp only [fo_way, fo_rest, fo_step]
    have h1 := ih (by omega)
    have h2 := (h.2.2.2.1 i (by omega)).2.1
    split
    · rw [cf_xs_xor, h2, h1, Nat.xor_assoc]
    · exact h1
theorem fo_rest_iff {L : Nat → Nat} {n B : Nat} {rows parts : Nat → Nat} {k : Nat} (h : fo_ok L n B rows parts k) (v : Nat) : fo_rest rows v k = 0 ↔ cf_sp L n B v := by
  refine ⟨fun q => ⟨fo_way rows parts v k, fo_way_sub h v k (Nat.le_refl k), ?_⟩, fun q => ?_⟩
  · have e := fo_way_eq h v k (Nat.le_refl k)
    rw [q] at e
    have : v ^^^ (v ^^^ cf_xs L n (fo_way rows parts v k)) = v := by rw [← e, Nat.xor_zero]
    rw [← Nat.xor_assoc, Nat.xor_self, Nat.zero_xor] at this
    exact this
  · obtain ⟨T, hT, rfl⟩ := q
    have key : ∀ m, m ≤ n → fo_rest rows (cf_xs L m T) k = 0 := by
      intro m
      induction m with
      | zero => intro _; exact fo_rest_0 rows k
      | succ m ih =>
        intro hm
        simp only [cf_xs]
        split
        · rw [fo_rest_lin fun i hi => (h.2.2.2.1 i hi).1, ih (by omega), h.2.2.2.2 m (by omega) (hT m (by assumption)), Nat.xor_zero]
        · exact ih (by omega)
    exact key n (Nat.le_refl n)
theorem fo_way_sp {L : Nat → Nat} {n B : Nat} {rows parts : Nat → Nat} {k : Nat} (h : fo_ok L n B rows parts k) {v : Nat} (q : cf_sp L n B v) : cf_xs L n (fo_way rows parts v k) = v := by
  have e := fo_way_eq h v k (Nat.le_refl k)
  rw [(fo_rest_iff h v).mpr q] at e
  have : v ^^^ (v ^^^ cf_xs L n (fo_way rows parts v k)) = v := by rw [← e, Nat.xor_zero]
  rw [← Nat.xor_assoc, Nat.xor_self, Nat.zero_xor] at this
  exact this
/-- the way is the only one -/
theorem fo_way_only {L : Nat → Nat} {n B : Nat} {rows parts : Nat → Nat} {k : Nat} (h : fo_ok L n B rows parts k) {v T : Nat} (hT : cf_sub T B) (e : cf_xs L n T = v) : ∀ i, i < n → (fo_way rows parts v k).testBit i = T.testBit i := by
  have w := fo_way_sp h ⟨T, hT, e⟩
  have s := fo_way_sub h v k (Nat.le_refl k)
  intro i hi
  have := h.2.1 (fo_way rows parts v k ^^^ T) (fun j hj => by
    rw [Nat.testBit_xor] at hj
    cases c : (fo_way rows parts v k).testBit j with
    | true => exact s j c
    | false => rw [c] at hj; exact hT j (by simpa using hj)) (by rw [cf_xs_xor, w, e, Nat.xor_self]) i hi
  rw [Nat.testBit_xor] at this
  cases c : (fo_way rows parts v k).testBit i <;> cases d : T.testBit i <;> simp [c, d] at this ⊢
def fo_up (f : Nat → Nat) (k v : Nat) : Nat → Nat := fun j => if j = k then v else f j
theorem fo_up_self (f : Nat → Nat) (k v : Nat) : fo_up f k v k = v := by simp [fo_up]
theorem fo_up_lt (f : Nat → Nat) {k j : Nat} (v : Nat) (h : j < k) : fo_up f k v j = f j := by simp [fo_up]; omega
theorem fo_take {L : Nat → Nat} {n B : Nat} {rows parts : Nat → Nat} {k e : Nat} (h : fo_ok L n B rows parts k) (he : e < n) (hr : fo_rest rows (L e) k ≠ 0) :
    fo_ok L n (B ||| 2 ^ e) (fo_up rows k (fo_rest rows (L e) k)) (fo_up parts k (fo_way rows parts (L e) k ^^^ 2 ^ e)) (k + 1) := by
  have hns : ¬ cf_sp L n B (L e) := fun q => hr ((fo_rest_iff h _).mpr q)
  have hBe : B.testBit e = false := by
    cases c : B.testBit e with
    | false => rfl
    | true => exact absurd (cf_sp_mem he c) hns
  have hB : cf_sub B (B ||| 2 ^ e) := fun i hi => by rw [cf_add_bit, hi]; rfl
  refine ⟨fun i hi => ?_, cf_ind_add he h.2.1 hns, by rw [cf_card_add he hBe, h.2.2.1], fun i hi => ?_, fun b hb hBb => ?_⟩
  · rw [cf_add_bit] at hi
    by_cases c : e = i
    · subst c; rw [cf_full_bit]; exact decide_eq_true he
    · exact h.1 i (by simpa [c] using hi)
  · rcases Nat.lt_or_ge i k with q | q
    · rw [fo_up_lt _ _ q, fo_up_lt _ _ q]
      have := h.2.2.2.1 i q
      exact ⟨this.1, this.2.1, cf_sub_tr this.2.2 hB⟩
    · have : i = k := by omega
      subst this
      rw [fo_up_self, fo_up_self]
      refine ⟨hr, ?_, fun j hj => ?_⟩
      · rw [cf_xs_xor, cf_xs_one he, fo_way_eq h (L e) i (Nat.le_refl i), Nat.xor_comm]
      · rw [Nat.testBit_xor, cf_one_bit] at hj
        rw [cf_add_bit]
        by_cases c : e = j
        · simp [c]
        · simp [c] at hj
          rw [fo_way_sub h (L e) i (Nat.le_refl i) j hj]; rfl
  · simp only [fo_rest]
    rw [fo_up_self, fo_rest_congr (rows' := rows) fun i hi => fo_up_lt _ _ hi]
    rw [cf_add_bit] at hBb
    by_cases c : e = b
    · subst c; exact fo_step_self _
    · rw [h.2.2.2.2 b hb (by simpa [c] using hBb), fo_step_0]
/-- how many edges it has is less than how many there are, where one can still be taken -/
theorem fo_room {L : Nat → Nat} {n B : Nat} {rows parts : Nat → Nat} {k e : Nat} (h : fo_ok L n B rows parts k) (he : e < n) (hr : fo_rest rows (L e) k ≠ 0) : k < n := by
  have := fo_take h he hr
  have h2 := cf_card_le n (B ||| 2 ^ e)
  rw [this.2.2.1] at h2
  omega
/-- a row of edges put to it, those that close a ring left out -/
abbrev fo_St : Type := (Nat → Nat) × (Nat → Nat) × Nat
def fo_takes (L : Nat → Nat) (e : Nat) (q : fo_St) : fo_St :=
  if fo_rest q.1 (L e) q.2.2 = 0 then q else (fo_up q.1 q.2.2 (fo_rest q.1 (L e) q.2.2), fo_up q.2.1 q.2.2 (fo_way q.1 q.2.1 (L e) q.2.2 ^^^ 2 ^ e), q.2.2 + 1)
def fo_fill (L : Nat → Nat) (S : Nat) (rows parts : Nat → Nat) : Nat → fo_St
  | 0 => (rows, parts, 0)
  | m + 1 => if S.testBit m = true then fo_takes L m (fo_fill L S rows parts m) else fo_fill L S rows parts m
theorem fo_fill_ok {L : Nat → Nat} {n S : Nat} {rows parts : Nat → Nat} : ∀ m, m ≤ n → ∃ B, fo_ok L n B (fo_fill L S rows parts m).1 (fo_fill L S rows parts m).2.1 (fo_fill L S rows parts m).2.2 ∧ cf_sub B S ∧ (∀ i, i < m → S.testBit i = true → cf_sp L n B (L i)) ∧ ∀ i, m ≤ i → B.testBit i = false := by
  intro m
  induction m with
  | zero => intro _; exact ⟨0, fo_ok_0 L n rows parts, cf_sub_0 S, fun i hi => absurd hi (Nat.not_lt_zero i), fun i _ => Nat.zero_testBit i⟩
  | succ m ih =>
    intro hm
    obtain ⟨B, h1, h2, h3, h4⟩ := ih (by omega)
    simp only [fo_fill]
    by_cases c : S.testBit m = true
    · rw [if_pos c]
      unfold fo_takes
      by_cases d : fo_rest (fo_fill L S rows parts m).1 (L m) (fo_fill L S rows parts m).2.2 = 0
      · rw [if_pos d]
        refine ⟨B, h1, h2, fun i hi hS => ?_, fun i hi => h4 i (by omega)⟩
        rcases Nat.lt_or_ge i m with r | r
        · exact h3 i r hS
        · have : i = m := by omega
          rw [this]; exact (fo_rest_iff h1 _).mp d
      · rw [if_neg d]
        have hB : cf_sub B (B ||| 2 ^ m) := fun i hi => by rw [cf_add_bit, hi]; rfl
        refine ⟨B ||| 2 ^ m, fo_take h1 (by omega) d, fun i hi => ?_, fun i hi hS => ?_, fun i hi => ?_⟩
        · rw [cf_add_bit] at hi
          by_cases r : m = i
          · subst r; exact c
          · exact h2 i (by simpa [r] using hi)
        · rcases Nat.lt_or_ge i m with r | r
          · exact cf_sp_mono hB (h3 i r hS)
          · have : i = m := by omega
            rw [this]; exact cf_sp_mem (by omega) (by rw [cf_add_bit]; simp)
        · rw [cf_add_bit, h4 i (by omega)]; simp; omega
    · rw [if_neg c]
      refine ⟨B, h1, h2, fun i hi hS => ?_, fun i hi => h4 i (by omega)⟩
      rcases Nat.lt_or_ge i m with r | r
      · exact h3 i r hS
      · have : i = m := by omega
        rw [this] at hS; exact absurd hS c
theorem fo_fill_rk (L : Nat → Nat) (n S : Nat) (rows parts : Nat → Nat) : (fo_fill L S rows parts n).2.2 = cf_rk L n S := by
  obtain ⟨B, h1, h2, h3, _⟩ := fo_fill_ok (L := L) (n := n) (S := S) (rows := rows) (parts := parts) n (Nat.le_refl n)
  rw [cf_rk_bas ⟨h2, h1.2.1, h3⟩, h1.2.2.1]
end
section
/-! THE COVER'S LOOPS -/
/-- a forest that is filled with an independent set holds all of it -/
theorem fo_fill_ind {L : Nat → Nat} {n S : Nat} {rows parts : Nat → Nat} (hS : cf_sub S (cf_full n)) (hi : cf_ind L n S) : fo_ok L n S (fo_fill L S rows parts n).1 (fo_fill L S rows parts n).2.1 (fo_fill L S rows parts n).2.2 := by
  obtain ⟨B, h1, h2, h3, h4⟩ := fo_fill_ok (L := L) (n := n) (S := S) (rows := rows) (parts := parts) n (Nat.le_refl n)
  have e : B = S := Nat.eq_of_testBit_eq fun i => by
    cases c : S.testBit i with
    | false =>
      cases d : B.testBit i with
      | false => rfl
      | true => rw [h2 i d] at c; cases c
    | true =>
      have hin : i < n := by have := hS i c; rw [cf_full_bit] at this; exact of_decide_eq_true this
      cases d : B.testBit i with
      | true => rfl
      | false =>
        refine absurd (cf_sp_mono (fun j hj => ?_) (h3 i hin c)) (cf_ind_nsp hin hi c)
        rw [cf_diff_bit, cf_one_bit, h2 j hj]
        by_cases q : i = j
        · subst q; rw [d] at hj; cases hj
        · simp [q]
  rw [← e]; exact e ▸ h1
def cv_first (M : Nat → Nat) (rows : Nat → Nat) (k : Nat) : Nat → Nat
  | 0 => 0
  | e + 1 => if fo_rest rows (M e) k = 0 then cv_first M rows k e else cv_first M rows k e ||| 2 ^ e
theorem cv_first_bit (M rows : Nat → Nat) (k n i : Nat) : (cv_first M rows k n).testBit i = (decide (i < n) && decide (fo_rest rows (M i) k ≠ 0)) := by
  induction n with
  | zero => simp [cv_first]
  | succ n ih =>
    simp only [cv_first]
    by_cases d : i = n
    · subst d
      by_cases c : fo_rest rows (M i) k = 0
      · rw [if_pos c, ih]; simp [c]
      · rw [if_neg c, cf_add_bit]; simp [c]
    · have e1 : decide (i < n + 1) = decide (i < n) := by simp; omega
      have e2 : decide (n = i) = false := decide_eq_false fun q => d q.symm
      split
      · rw [ih, e1]
      · rw [cf_add_bit, ih, e1, e2, Bool.or_false]
def cv_grown (I : Nat) (w1 w2 : Nat → Nat) (C : Nat) : Nat → Nat
  | 0 => C
  | e + 1 => if I.testBit e = true then cv_grown I w1 w2 C e else if (cv_grown I w1 w2 C e).testBit e = true then cv_grown I w1 w2 C e ||| w1 e
    else if w2 e &&& cv_grown I w1 w2 C e = 0 then cv_grown I w1 w2 C e else cv_grown I w1 w2 C e ||| 2 ^ e
def cv_rounds (I : Nat) (w1 w2 : Nat → Nat) (n C : Nat) : Nat → Nat
  | 0 => C
  | r + 1 => cv_grown I w1 w2 (cv_rounds I w1 w2 n C r) n
theorem cf_or_sub {A B C : Nat} (h : cf_sub A C) (k : cf_sub B C) : cf_sub (A ||| B) C := fun i hi => by
  rw [Nat.testBit_or] at hi
  cases c : A.testBit i with
  | true => exact h i c
  | false => rw [c, Bool.false_or] at hi; exact k i hi
theorem cf_sub_or (A B : Nat) : cf_sub A (A ||| B) := fun i hi => by rw [Nat.testBit_or, hi]; rfl
theorem cf_sub_or' (A B : Nat) : cf_sub B (A ||| B) := fun i hi => by rw [Nat.testBit_or, hi, Bool.or_true]
theorem cv_grown_le (I : Nat) (w1 w2 : Nat → Nat) (C : Nat) : ∀ m, cf_sub C (cv_grown I w1 w2 C m) := by
  intro m
  induction m with
  | zero => exact cf_sub_rf C
  | succ m ih =>
    simp only [cv_grown]
    split
    · exact ih
    · split
      · exact cf_sub_tr ih (cf_sub_or _ _)
      · split
        · exact ih
        · exact cf_sub_tr ih (cf_sub_or _ _)
theorem cv_grown_mono (I : Nat) (w1 w2 : Nat → Nat) (C : Nat) {a : Nat} : ∀ b, a ≤ b → cf_sub (cv_grown I w1 w2 C a) (cv_grown I w1 w2 C b) := by
  intro b
  induction b with
  | zero => intro h; have : a = 0 := by omega
            subst this; exact cf_sub_rf _
  | succ b ih =>
    intro h
    rcases Nat.lt_or_ge b a with q | q
    · have : a = b + 1 := by omega
      subst this; exact cf_sub_rf _
    · refine cf_sub_tr (ih q) ?_
      simp only [cv_grown]
      split
      · exact cf_sub_rf _
      · split
        · exact cf_sub_or _ _
        · split
          · exact cf_sub_rf _
          · exact cf_sub_or _ _
theorem cf_sub_anti {A B : Nat} (h : cf_sub A B) (k : cf_sub B A) : A = B := Nat.eq_of_testBit_eq fun i => by
  cases c : A.testBit i with
  | true => rw [h i c]
  | false =>
    cases d : B.testBit i with
    | false => rfl
    | true => rw [k i d] at c; cases c
/-- a round that adds nothing: the set is closed -/
theorem cv_closed {I : Nat} {w1 w2 : Nat → Nat} {C n : Nat} (h : cv_grown I w1 w2 C n = C) {e : Nat} (he : e < n) (hI : I.testBit e = false) : (C.testBit e = true → cf_sub (w1 e) C) ∧ (C.testBit e = false → w2 e &&& C = 0) := by
  have all : ∀ m, m ≤ n → cv_grown I w1 w2 C m = C := fun m hm => cf_sub_anti (by have := cv_grown_mono I w1 w2 C n hm; rw [h] at this; exact this) (cv_grown_le I w1 w2 C m)
  have h1 := all (e + 1) (by omega)
  simp only [cv_grown] at h1
  rw [all e (by omega), if_neg (by rw [hI]; simp)] at h1
  refine ⟨fun c => ?_, fun c => ?_⟩
  · rw [if_pos c] at h1
    have := cf_sub_or' C (w1 e)
    rw [h1] at this; exact this
  · rw [if_neg (by rw [c]; simp)] at h1
    by_cases d : w2 e &&& C = 0
    · exact d
    · rw [if_neg d] at h1
      have := cf_sub_or' C (2 ^ e) e (by rw [cf_one_bit]; simp)
      rw [h1, c] at this; cases this
theorem cv_rounds_fix {I : Nat} {w1 w2 : Nat → Nat} {n C : Nat} (hC : cf_sub C (cf_full n)) (hw : ∀ e, e < n → cf_sub (w1 e) (cf_full n)) : cf_sub (cv_rounds I w1 w2 n C n) (cf_full n) ∧ cv_grown I w1 w2 (cv_rounds I w1 w2 n C n) n = cv_rounds I w1 w2 n C n := by
  have hfull : ∀ C, cf_sub C (cf_full n) → ∀ m, m ≤ n → cf_sub (cv_grown I w1 w2 C m) (cf_full n) := by
    intro C hC m
    induction m with
    | zero => intro _; exact hC
    | succ m ih =>
      intro hm
      have h1 := ih (by omega)
      simp only [cv_grown]
      split
      · exact h1
      · split
        · exact cf_or_sub h1 (hw m (by omega))
        · split
          · exact h1
          · exact cf_or_sub h1 (cf_one_sub (by rw [cf_full_bit]; exact decide_eq_true (by omega)))
  have key : ∀ r, cf_sub (cv_rounds I w1 w2 n C r) (cf_full n) ∧ (cv_grown I w1 w2 (cv_rounds I w1 w2 n C r) n = cv_rounds I w1 w2 n C r ∨ r ≤ cf_card n (cv_rounds I w1 w2 n C r)) := by
    intro r
    induction r with
    | zero => exact ⟨hC, Or.inr (Nat.zero_le _)⟩
    | succ r ih =>
      obtain ⟨h1, h2⟩ := ih
      refine ⟨hfull _ h1 n (Nat.le_refl n), ?_⟩
      rcases h2 with h2 | h2
      · left
        simp only [cv_rounds]
        rw [h2, h2]
      · by_cases c : cv_grown I w1 w2 (cv_rounds I w1 w2 n C r) n = cv_rounds I w1 w2 n C r
        · left; simp only [cv_rounds]; rw [c, c]
        · right
          simp only [cv_rounds]
          rcases Nat.lt_or_ge (cf_card n (cv_rounds I w1 w2 n C r)) (cf_card n (cv_grown I w1 w2 (cv_rounds I w1 w2 n C r) n)) with q | q
          · omega
          · exfalso
            refine c (cf_sub_anti (fun i hi => ?_) (cv_grown_le _ _ _ _ _))
            have hin : i < n := by have := hfull _ h1 n (Nat.le_refl n) i hi; rw [cf_full_bit] at this; exact of_decide_eq_true this
            rw [cf_card_eq (cv_grown_le _ _ _ _ _) q i hin]; exact hi
  obtain ⟨k1, k2⟩ := key n
  refine ⟨k1, ?_⟩
  rcases k2 with k2 | k2
  · exact k2
  · have hall : cv_rounds I w1 w2 n C n = cf_full n := cf_sub_anti k1 fun i hi => by
      have hin : i < n := by rw [cf_full_bit] at hi; exact of_decide_eq_true hi
      have hc : cf_card n (cf_full n) ≤ cf_card n (cv_rounds I w1 w2 n C n) := Nat.le_trans (cf_card_le n _) k2
      rw [cf_card_eq k1 hc i hin]; exact hi
    exact cf_sub_anti (by rw [hall]; exact hfull _ (cf_sub_rf _) n (Nat.le_refl n)) (cv_grown_le _ _ _ _ _)
/-- THE COVER -/
theorem cv_ok {L M : Nat → Nat} {n I : Nat} {rows1 parts1 rows2 parts2 : Nat → Nat} {k1 k2 : Nat} (h : cf_com L M n I) (f1 : fo_ok L n I rows1 parts1 k1) (f2 : fo_ok M n I rows2 parts2 k2) :
    cf_sub (cv_rounds I (fun e => fo_way rows1 parts1 (L e) k1) (fun e => fo_way rows2 parts2 (M e) k2) n (cv_first M rows2 k2 n) n) (cf_full n)
    ∧ cf_cov L M n I (cv_rounds I (fun e => fo_way rows1 parts1 (L e) k1) (fun e => fo_way rows2 parts2 (M e) k2) n (cv_first M rows2 k2 n) n)
    ∧ ∀ A, cf_sub A (cf_full n) → cf_cov L M n I A → cf_sub (cv_rounds I (fun e => fo_way rows1 parts1 (L e) k1) (fun e => fo_way rows2 parts2 (M e) k2) n (cv_first M rows2 k2 n) n) A := by
  have hw1 : ∀ e, cf_sub (fo_way rows1 parts1 (L e) k1) I := fun e => fo_way_sub f1 _ k1 (Nat.le_refl k1)
  have hw2 : ∀ e, cf_sub (fo_way rows2 parts2 (M e) k2) I := fun e => fo_way_sub f2 _ k2 (Nat.le_refl k2)
  have hf0 : cf_sub (cv_first M rows2 k2 n) (cf_full n) := fun i hi => by
    rw [cv_first_bit] at hi
    rw [cf_full_bit]
    cases c : decide (i < n) with
    | true => rfl
    | false => rw [c] at hi; simp at hi
  obtain ⟨g1, g2⟩ := cv_rounds_fix (I := I) (w1 := fun e => fo_way rows1 parts1 (L e) k1) (w2 := fun e => fo_way rows2 parts2 (M e) k2) hf0 (fun e _ => cf_sub_tr (hw1 e) h.1)
  have hin : ∀ A, cf_sub A (cf_full n) → cf_cov L M n I A → ∀ r, cf_sub (cv_rounds I (fun e => fo_way rows1 parts1 (L e) k1) (fun e => fo_way rows2 parts2 (M e) k2) n (cv_first M rows2 k2 n) r) A := by
    intro A hA hc
    obtain ⟨s1, s2⟩ := cf_cov_sp h.2.1 h.2.2.1 hc
    have ia : cf_sub (I &&& A) I := fun i hi => by rw [Nat.testBit_and] at hi; cases c : I.testBit i <;> simp [c] at hi ⊢
    have id : cf_sub (cf_diff I A) I := fun i hi => by rw [cf_diff_bit] at hi; cases c : I.testBit i <;> simp [c] at hi ⊢
    intro r
    induction r with
    | zero =>
      intro i hi
      simp only [cv_rounds] at hi
      rw [cv_first_bit] at hi
      have hi1 : i < n := by
        by_cases c : i < n
        · exact c
        · simp [c] at hi
      have hi2 : fo_rest rows2 (M i) k2 ≠ 0 := by
        intro c; simp [c] at hi
      cases c : A.testBit i with
      | true => rfl
      | false => exact absurd ((fo_rest_iff f2 _).mpr (cf_sp_mono id (s2 i hi1 c))) hi2
    | succ r ih =>
      simp only [cv_rounds]
      have step : ∀ m, m ≤ n → cf_sub (cv_grown I (fun e => fo_way rows1 parts1 (L e) k1) (fun e => fo_way rows2 parts2 (M e) k2) (cv_rounds I (fun e => fo_way rows1 parts1 (L e) k1) (fun e => fo_way rows2 parts2 (M e) k2) n (cv_first M rows2 k2 n) r) m) A := by
        intro m
        induction m with
        | zero => intro _; exact ih
        | succ m ihm =>
          intro hm
          have h1 := ihm (by omega)
          simp only [cv_grown]
          split
          · exact h1
          · split
            · rename_i hmm
              refine cf_or_sub h1 fun i hi => ?_
              obtain ⟨T, t1, t2⟩ := s1 m (by omega) (h1 m hmm)
              have hin : i < n := by have := h.1 i (hw1 m i hi); rw [cf_full_bit] at this; exact of_decide_eq_true this
              have := fo_way_only f1 (cf_sub_tr t1 ia) t2 i hin
              rw [hi] at this
              have := t1 i this.symm
              rw [Nat.testBit_and] at this
              cases c : A.testBit i <;> simp [c] at this ⊢
            · split
              · exact h1
              · rename_i hne
                refine cf_or_sub h1 (cf_one_sub ?_)
                cases c : A.testBit m with
                | true => rfl
                | false =>
                  exfalso
                  obtain ⟨T, t1, t2⟩ := s2 m (by omega) c
                  refine hne (Nat.eq_of_testBit_eq fun i => ?_)
                  rw [Nat.testBit_and, Nat.zero_testBit]
                  cases d : (fo_way rows2 parts2 (M m) k2).testBit i with
                  | false => rfl
                  | true =>
                    have hin : i < n := by have := h.1 i (hw2 m i d); rw [cf_full_bit] at this; exact of_decide_eq_true this
                    have := fo_way_only f2 (cf_sub_tr t1 id) t2 i hin
                    rw [d] at this
                    have := t1 i this.symm
                    rw [cf_diff_bit] at this
                    have hAi : A.testBit i = false := by cases q : A.testBit i <;> simp [q] at this ⊢
                    rw [Bool.true_and]
                    cases q : (cv_grown I (fun e => fo_way rows1 parts1 (L e) k1) (fun e => fo_way rows2 parts2 (M e) k2) (cv_rounds I (fun e => fo_way rows1 parts1 (L e) k1) (fun e => fo_way rows2 parts2 (M e) k2) n (cv_first M rows2 k2 n) r) m).testBit i with
                    | false => rfl
                    | true => rw [h1 i q] at hAi; cases hAi
      exact step n (Nat.le_refl n)
  have hfirst : ∀ r, cf_sub (cv_first M rows2 k2 n) (cv_rounds I (fun e => fo_way rows1 parts1 (L e) k1) (fun e => fo_way rows2 parts2 (M e) k2) n (cv_first M rows2 k2 n) r) := by
    intro r
    induction r with
    | zero => exact cf_sub_rf _
    | succ r ih => exact cf_sub_tr ih (cv_grown_le _ _ _ _ _)
  refine ⟨g1, cf_cov_least h g1 (fun A a b => hin A a b n) (fun e he hC hI hs => ?_) (fun e he hC hI => ?_), fun A a b => hin A a b n⟩
  · have := (cv_closed g2 he hI).1 hC
    refine ⟨fo_way rows1 parts1 (L e) k1, fun i hi => ?_, fo_way_sp f1 hs⟩
    rw [Nat.testBit_and, hw1 e i hi, this i hi]; rfl
  · have := (cv_closed g2 he hI).2 hC
    have hs : cf_sp M n I (M e) := by
      refine (fo_rest_iff f2 _).mp ?_
      by_cases c : fo_rest rows2 (M e) k2 = 0
      · exact c
      · have := hfirst n e (by rw [cv_first_bit]; simp [he, c])
        rw [hC] at this; cases this
    refine ⟨fo_way rows2 parts2 (M e) k2, fun i hi => ?_, fo_way_sp f2 hs⟩
    rw [cf_diff_bit, hw2 e i hi]
    have q : (fo_way rows2 parts2 (M e) k2 &&& cv_rounds I (fun e => fo_way rows1 parts1 (L e) k1) (fun e => fo_way rows2 parts2 (M e) k2) n (cv_first M rows2 k2 n) n).testBit i = false := by
      rw [show fo_way rows2 parts2 (M e) k2 &&& cv_rounds I (fun e => fo_way rows1 parts1 (L e) k1) (fun e => fo_way rows2 parts2 (M e) k2) n (cv_first M rows2 k2 n) n = 0 from this]; exact Nat.zero_testBit i
    rw [Nat.testBit_and, hi, Bool.true_and] at q
    rw [q]; rfl
end
section
/-! THE COMMON SET: the search that tries sets with an edge before those without it -/
def cf_lex (A B : Nat) : Prop := ∃ i, A.testBit i = true ∧ B.testBit i = false ∧ ∀ j, j < i → A.testBit j = B.testBit j
theorem cf_lex_ir {A : Nat} (h : cf_lex A A) : False := by
  obtain ⟨i, h1, h2, _⟩ := h
  rw [h1] at h2; cases h2
theorem cf_lex_tr {A B C : Nat} (h : cf_lex A B) (k : cf_lex B C) : cf_lex A C := by
  obtain ⟨i, h1, h2, h3⟩ := h
  obtain ⟨j, k1, k2, k3⟩ := k
  rcases Nat.lt_trichotomy i j with q | q | q
  · exact ⟨i, h1, by rw [← k3 i q]; exact h2, fun x hx => by rw [h3 x hx, k3 x (by omega)]⟩
  · subst q; rw [h2] at k1; cases k1
  · exact ⟨j, by rw [h3 j q]; exact k1, k2, fun x hx => by rw [h3 x (by omega), k3 x hx]⟩
theorem cf_lex_or {A B : Nat} (h : A ≠ B) : cf_lex A B ∨ cf_lex B A := by
  have key : ∀ m, (∀ i, i < m → A.testBit i = B.testBit i) ∨ ∃ i, A.testBit i ≠ B.testBit i ∧ ∀ j, j < i → A.testBit j = B.testBit j := by
    intro m
    induction m with
    | zero => left; intro i hi; exact absurd hi (Nat.not_lt_zero i)
    | succ m ih =>
      rcases ih with q | q
      · by_cases c : A.testBit m = B.testBit m
        · left
          intro i hi
          rcases Nat.lt_or_ge i m with r | r
          · exact q i r
          · have : i = m := by omega
            rw [this]; exact c
        · right; exact ⟨m, c, q⟩
      · right; exact q
  obtain ⟨x, hx⟩ := Nat.exists_testBit_ne_of_ne h
  rcases key (x + 1) with q | ⟨i, h1, h2⟩
  · exact absurd (q x (by omega)) hx
  · cases c : A.testBit i with
    | true => left; exact ⟨i, c, by cases d : B.testBit i with
        | false => rfl
        | true => rw [c, d] at h1; exact absurd rfl h1, h2⟩
    | false => right; exact ⟨i, by cases d : B.testBit i with
        | true => rfl
        | false => rw [c, d] at h1; exact absurd rfl h1, c, fun j hj => (h2 j hj).symm⟩
/-- J is common, and below e it is the set -/
def se_ext (L M : Nat → Nat) (n e S J : Nat) : Prop := cf_sub J (cf_full n) ∧ cf_ind L n J ∧ cf_ind M n J ∧ ∀ i, i < e → J.testBit i = S.testBit i
def se_spec (L M : Nat → Nat) (n e S found r : Nat) : Prop :=
  (r = found ∧ ∀ J, se_ext L M n e S J → cf_card n J ≤ cf_card n found) ∨ (se_ext L M n e S r ∧ cf_card n found < cf_card n r ∧ ∀ J, se_ext L M n e S J → cf_card n J ≤ cf_card n r ∧ (cf_card n J = cf_card n r → r = J ∨ cf_lex r J))
theorem cf_card_split {n e S J : Nat} (he : e ≤ n) (h : ∀ i, i < e → J.testBit i = S.testBit i) (hS : ∀ i, e ≤ i → S.testBit i = false) : cf_card n J ≤ cf_card n S + (n - e) := by
  have k1 : cf_card e J = cf_card e S := cf_card_congr h
  have key : ∀ d, cf_card (e + d) J ≤ cf_card e J + d ∧ cf_card (e + d) S = cf_card e S := by
    intro d
    induction d with
    | zero => exact ⟨Nat.le_refl _, rfl⟩
    | succ d ih =>
      obtain ⟨a, b⟩ := ih
      refine ⟨?_, ?_⟩
      · show cf_card (e + d) J + (if J.testBit (e + d) = true then 1 else 0) ≤ _
        split <;> omega
      · show cf_card (e + d) S + (if S.testBit (e + d) = true then 1 else 0) = _
        rw [hS (e + d) (by omega), b]; simp
  obtain ⟨a, b⟩ := key (n - e)
  rw [show e + (n - e) = n by omega] at a b
  omega
theorem se_prune {L M : Nat → Nat} {n e S found lim : Nat} (he : e ≤ n) (hS : ∀ i, e ≤ i → S.testBit i = false) (hl : ∀ J, cf_ind L n J → cf_ind M n J → cf_card n J ≤ lim)
    (h : min lim (cf_card n S + n - e) ≤ cf_card n found) : se_spec L M n e S found found := by
  left
  refine ⟨rfl, fun J hJ => ?_⟩
  have h1 := hl J hJ.2.1 hJ.2.2.1
  have h2 := cf_card_split he hJ.2.2.2 hS
  omega
theorem se_leaf {L M : Nat → Nat} {n S found : Nat} (hS : cf_sub S (cf_full n)) (h1 : cf_ind L n S) (h2 : cf_ind M n S) (h : cf_card n found < cf_card n S) : se_spec L M n n S found S := by
  right
  refine ⟨⟨hS, h1, h2, fun _ _ => rfl⟩, h, fun J hJ => ?_⟩
  have e : S = J := Nat.eq_of_testBit_eq fun i => by
    rcases Nat.lt_or_ge i n with q | q
    · exact (hJ.2.2.2 i q).symm
    · rw [cf_sub_full hS q, cf_sub_full hJ.1 q]
  rw [← e]
  exact ⟨Nat.le_refl _, fun _ => Or.inl rfl⟩
theorem se_ext_in {L M : Nat → Nat} {n e S J : Nat} (h : se_ext L M n e S J) (c : J.testBit e = true) : se_ext L M n (e + 1) (S ||| 2 ^ e) J := by
  refine ⟨h.1, h.2.1, h.2.2.1, fun i hi => ?_⟩
  rw [cf_add_bit]
  by_cases q : e = i
  · subst q; rw [c]; simp
  · rw [h.2.2.2 i (by omega)]; simp [q]
theorem se_ext_out {L M : Nat → Nat} {n e S J : Nat} (hS : S.testBit e = false) (h : se_ext L M n e S J) (c : J.testBit e = false) : se_ext L M n (e + 1) S J := by
  refine ⟨h.1, h.2.1, h.2.2.1, fun i hi => ?_⟩
  by_cases q : e = i
  · subst q; rw [c, hS]
  · exact h.2.2.2 i (by omega)
theorem se_ext_up {L M : Nat → Nat} {n e S J : Nat} (h : se_ext L M n (e + 1) S J) : se_ext L M n e S J := ⟨h.1, h.2.1, h.2.2.1, fun i hi => h.2.2.2 i (by omega)⟩
theorem se_ext_upi {L M : Nat → Nat} {n e S J : Nat} (h : se_ext L M n (e + 1) (S ||| 2 ^ e) J) : se_ext L M n e S J ∧ J.testBit e = true := by
  refine ⟨⟨h.1, h.2.1, h.2.2.1, fun i hi => ?_⟩, ?_⟩
  · rw [h.2.2.2 i (by omega), cf_add_bit]
    have : ¬ e = i := by omega
    simp [this]
  · rw [h.2.2.2 e (by omega), cf_add_bit]; simp
theorem se_out {L M : Nat → Nat} {n e S found r : Nat} (hS : S.testBit e = false) (hn : ∀ J, se_ext L M n e S J → J.testBit e = false) (h : se_spec L M n (e + 1) S found r) : se_spec L M n e S found r := by
  rcases h with ⟨h1, h2⟩ | ⟨h1, h2, h3⟩
  · left; exact ⟨h1, fun J hJ => h2 J (se_ext_out hS hJ (hn J hJ))⟩
  · right; exact ⟨se_ext_up h1, h2, fun J hJ => h3 J (se_ext_out hS hJ (hn J hJ))⟩
theorem se_in {L M : Nat → Nat} {n e S found x y : Nat} (hS : S.testBit e = false) (h : se_spec L M n (e + 1) (S ||| 2 ^ e) found x) (k : se_spec L M n (e + 1) S x y) : se_spec L M n e S found y := by
  rcases h with ⟨h1, h2⟩ | ⟨h1, h2, h3⟩
  · subst h1
    rcases k with ⟨k1, k2⟩ | ⟨k1, k2, k3⟩
    · left
      refine ⟨k1, fun J hJ => ?_⟩
      cases c : J.testBit e with
      | true => exact h2 J (se_ext_in hJ c)
      | false => exact k2 J (se_ext_out hS hJ c)
    · right
      refine ⟨se_ext_up k1, k2, fun J hJ => ?_⟩
      cases c : J.testBit e with
      | true => have := h2 J (se_ext_in hJ c); exact ⟨by omega, fun _ => by omega⟩
      | false => exact k3 J (se_ext_out hS hJ c)
  · obtain ⟨h1a, h1b⟩ := se_ext_upi h1
    rcases k with ⟨k1, k2⟩ | ⟨k1, k2, k3⟩
    · subst k1
      right
      refine ⟨h1a, h2, fun J hJ => ?_⟩
      cases c : J.testBit e with
      | true => exact h3 J (se_ext_in hJ c)
      | false =>
        refine ⟨k2 J (se_ext_out hS hJ c), fun _ => Or.inr ⟨e, h1b, c, fun j hj => ?_⟩⟩
        rw [h1a.2.2.2 j hj, hJ.2.2.2 j hj]
    · right
      refine ⟨se_ext_up k1, by omega, fun J hJ => ?_⟩
      cases c : J.testBit e with
      | true => have := (h3 J (se_ext_in hJ c)).1; exact ⟨by omega, fun _ => by omega⟩
      | false => exact k3 J (se_ext_out hS hJ c)
/-- THE COMMON SET -/
def cm_spec (L M : Nat → Nat) (n I : Nat) : Prop := cf_com L M n I ∧ ∀ J, cf_sub J (cf_full n) → cf_ind L n J → cf_ind M n J → cf_card n J = cf_card n I → I = J ∨ cf_lex I J
theorem cm_of_se {L M : Nat → Nat} {n r : Nat} (h : se_spec L M n 0 0 0 r) : cm_spec L M n r := by
  have ext : ∀ J, cf_sub J (cf_full n) → cf_ind L n J → cf_ind M n J → se_ext L M n 0 0 J := fun J a b c => ⟨a, b, c, fun i hi => absurd hi (Nat.not_lt_zero i)⟩
  rcases h with ⟨h1, h2⟩ | ⟨h1, h2, h3⟩
  · subst h1
    refine ⟨⟨cf_sub_0 _, cf_ind_0 L n, cf_ind_0 M n, fun J a b c => h2 J (ext J a b c)⟩, fun J a b c d => Or.inl ?_⟩
    rw [cf_card_0] at d
    refine Nat.eq_of_testBit_eq fun i => ?_
    rw [Nat.zero_testBit]
    rcases Nat.lt_or_ge i n with q | q
    · have := cf_card_eq (n := n) (cf_sub_0 J) (by rw [d]; exact Nat.zero_le _) i q
      rw [Nat.zero_testBit] at this; exact this
    · exact (cf_sub_full a q).symm
  · exact ⟨⟨h1.1, h1.2.1, h1.2.2.1, fun J a b c => (h3 J (ext J a b c)).1⟩, fun J a b c d => (h3 J (ext J a b c)).2 d⟩
theorem cm_only {L M : Nat → Nat} {n I J : Nat} (h : cm_spec L M n I) (k : cm_spec L M n J) : I = J := by
  have c1 := h.1.2.2.2 J k.1.1 k.1.2.1 k.1.2.2.1
  have c2 := k.1.2.2.2 I h.1.1 h.1.2.1 h.1.2.2.1
  rcases h.2 J k.1.1 k.1.2.1 k.1.2.2.1 (by omega) with q | q
  · exact q
  · rcases k.2 I h.1.1 h.1.2.1 h.1.2.2.1 (by omega) with r | r
    · exact r.symm
    · exact absurd (cf_lex_tr q r) cf_lex_ir
end
section
/-! THE BEST FOREST: heaviest edges first -/
def gy_hv (f : Nat → Int32) (S : Nat) : Nat → Int32 × Nat
  | 0 => (-1000, 0)
  | e + 1 => if S.testBit e = true ∧ (gy_hv f S e).1 < f e then (f e, e) else gy_hv f S e
def gw_in (f : Nat → Int32) (n : Nat) : Prop := ∀ e, e < n → -999 ≤ (f e).toInt ∧ (f e).toInt ≤ 999
theorem gy_hvor {f : Nat → Int32} {S n : Nat} (hf : gw_in f n) : ∀ m, m ≤ n → ((∀ e, e < m → S.testBit e = false) ∧ gy_hv f S m = (-1000, 0)) ∨ ((gy_hv f S m).2 < m ∧ S.testBit (gy_hv f S m).2 = true ∧ (gy_hv f S m).1 = f (gy_hv f S m).2 ∧ ∀ e, e < m → S.testBit e = true → (f e).toInt < (f (gy_hv f S m).2).toInt ∨ ((f e).toInt = (f (gy_hv f S m).2).toInt ∧ (gy_hv f S m).2 ≤ e)) := by
  intro m
  induction m with
  | zero => intro _; left; exact ⟨fun e he => absurd he (Nat.not_lt_zero e), rfl⟩
  | succ m ih =>
    intro hm
    simp only [gy_hv]
    rcases ih (by omega) with ⟨h1, h2⟩ | ⟨h1, h2, h3, h4⟩
    · by_cases c : S.testBit m = true
      · right
        have q : (gy_hv f S m).1 < f m := by
          rw [h2, Int32.lt_iff_toInt_lt]
          have := hf m (by omega)
          have e1 : ((-1000 : Int32)).toInt = -1000 := by decide
          rw [e1]; omega
        rw [if_pos ⟨c, q⟩]
        refine ⟨by omega, c, rfl, fun e he hS => ?_⟩
        rcases Nat.lt_or_ge e m with r | r
        · rw [h1 e r] at hS; cases hS
        · have : e = m := by omega
          subst this; right; exact ⟨rfl, Nat.le_refl _⟩
      · left
        rw [if_neg fun q => c q.1]
        refine ⟨fun e he => ?_, h2⟩
        rcases Nat.lt_or_ge e m with r | r
        · exact h1 e r
        · have : e = m := by omega
          subst this
          cases d : S.testBit e with
          | false => rfl
          | true => exact absurd d c
    · right
      by_cases c : S.testBit m = true ∧ (gy_hv f S m).1 < f m
      · rw [if_pos c]
        have q := c.2
        rw [h3, Int32.lt_iff_toInt_lt] at q
        refine ⟨by omega, c.1, rfl, fun e he hS => ?_⟩
        rcases Nat.lt_or_ge e m with r | r
        · rcases h4 e r hS with s | s
          · left; show (f e).toInt < (f m).toInt; omega
          · left; show (f e).toInt < (f m).toInt; omega
        · have : e = m := by omega
          subst this; right; exact ⟨rfl, Nat.le_refl _⟩
      · rw [if_neg c]
        refine ⟨by omega, h2, h3, fun e he hS => ?_⟩
        rcases Nat.lt_or_ge e m with r | r
        · exact h4 e r hS
        · have : e = m := by omega
          subst this
          have q : ¬ (f (gy_hv f S e).2).toInt < (f e).toInt := fun q => c ⟨hS, by rw [h3, Int32.lt_iff_toInt_lt]; exact q⟩
          rcases Int.lt_or_eq_of_le (Int.not_lt.mp q) with s | s
          · left; exact s
          · right; exact ⟨s, by omega⟩
/-- the turns: what is untried, and the forest so far -/
def gy_U (f : Nat → Int32) (n : Nat) : Nat → Nat
  | 0 => cf_full n
  | t + 1 => cf_diff (gy_U f n t) (2 ^ (gy_hv f (gy_U f n t) n).2)
def gy_s (f : Nat → Int32) (n t : Nat) : Nat := (gy_hv f (gy_U f n t) n).2
theorem gy_U_card {f : Nat → Int32} {n : Nat} (hf : gw_in f n) : ∀ t, t ≤ n → cf_card n (gy_U f n t) = n - t ∧ (t < n → gy_s f n t < n ∧ (gy_U f n t).testBit (gy_s f n t) = true) := by
  have has : ∀ t, t < n → cf_card n (gy_U f n t) = n - t → gy_s f n t < n ∧ (gy_U f n t).testBit (gy_s f n t) = true := by
    intro t ht hc
    rcases gy_hvor (S := gy_U f n t) hf n (Nat.le_refl n) with ⟨h1, _⟩ | ⟨h1, h2, _, _⟩
    · rw [cf_card_none h1] at hc; omega
    · exact ⟨h1, h2⟩
  intro t
  induction t with
  | zero =>
    intro _
    have e : cf_card n (gy_U f n 0) = n - 0 := by
      show cf_card n (cf_full n) = n
      have key : ∀ m, m ≤ n → cf_card m (cf_full n) = m := by
        intro m
        induction m with
        | zero => intro _; rfl
        | succ m ih =>
          intro hm
          simp only [cf_card]
          rw [ih (by omega), cf_full_bit]
          have : m < n := by omega
          simp [this]
      exact key n (Nat.le_refl n)
    exact ⟨e, fun h => has 0 h e⟩
  | succ t ih =>
    intro ht
    obtain ⟨a, b⟩ := ih (by omega)
    obtain ⟨b1, b2⟩ := b (by omega)
    have e : cf_card n (gy_U f n (t + 1)) = n - (t + 1) := by
      have := cf_card_del b1 b2
      show cf_card n (cf_diff (gy_U f n t) (2 ^ gy_s f n t)) = _
      omega
    exact ⟨e, fun h => has (t + 1) h e⟩
theorem gy_U_le {f : Nat → Int32} {n a : Nat} : ∀ d, cf_sub (gy_U f n (a + d)) (gy_U f n a) := by
  intro d
  induction d with
  | zero => exact cf_sub_rf _
  | succ d ih =>
    refine cf_sub_tr (fun i hi => ?_) ih
    have hi : (cf_diff (gy_U f n (a + d)) (2 ^ gy_s f n (a + d))).testBit i = true := hi
    rw [cf_diff_bit] at hi
    cases c : (gy_U f n (a + d)).testBit i <;> simp [c] at hi ⊢
/-- an edge comes before another: it is heavier, or as heavy and less -/
def gy_lt (f : Nat → Int32) (a b : Nat) : Prop := (f b).toInt < (f a).toInt ∨ ((f b).toInt = (f a).toInt ∧ a < b)
theorem gy_sorted {f : Nat → Int32} {n i j : Nat} (hf : gw_in f n) (hij : i < j) (hj : j < n) : gy_lt f (gy_s f n i) (gy_s f n j) := by
  obtain ⟨_, hJ⟩ := gy_U_card hf j (by omega)
  obtain ⟨j1, j2⟩ := hJ hj
  have hsub := gy_U_le (f := f) (n := n) (a := i + 1) (j - (i + 1)) (gy_s f n j)
  rw [show i + 1 + (j - (i + 1)) = j by omega] at hsub
  have h1 := hsub j2
  have h1 : (cf_diff (gy_U f n i) (2 ^ gy_s f n i)).testBit (gy_s f n j) = true := h1
  rw [cf_diff_bit, cf_one_bit] at h1
  have hU : (gy_U f n i).testBit (gy_s f n j) = true := by cases c : (gy_U f n i).testBit (gy_s f n j) <;> simp [c] at h1 ⊢
  have hne : gy_s f n i ≠ gy_s f n j := fun q => by simp [q] at h1
  rcases gy_hvor (S := gy_U f n i) hf n (Nat.le_refl n) with ⟨k1, _⟩ | ⟨k1, k2, _, k4⟩
  · rw [k1 _ j1] at hU; cases hU
  · rcases k4 _ j1 hU with s | ⟨s, s2⟩
    · left; exact s
    · right; refine ⟨s, ?_⟩
      have : gy_s f n i ≤ gy_s f n j := s2
      omega
theorem gy_onto {f : Nat → Int32} {n x : Nat} (hf : gw_in f n) (hx : x < n) : ∃ t, t < n ∧ gy_s f n t = x := by
  have key : ∀ t, t ≤ n → (∃ u, u < t ∧ gy_s f n u = x) ∨ (gy_U f n t).testBit x = true := by
    intro t
    induction t with
    | zero => intro _; right; show (cf_full n).testBit x = true; rw [cf_full_bit]; exact decide_eq_true hx
    | succ t ih =>
      intro ht
      rcases ih (by omega) with ⟨u, h1, h2⟩ | h
      · left; exact ⟨u, by omega, h2⟩
      · by_cases c : gy_s f n t = x
        · left; exact ⟨t, by omega, c⟩
        · right
          show (cf_diff (gy_U f n t) (2 ^ gy_s f n t)).testBit x = true
          rw [cf_diff_bit, cf_one_bit, h]; simp [c]
  rcases key n (Nat.le_refl n) with ⟨u, h1, h2⟩ | h
  · exact ⟨u, h1, h2⟩
  · have := (gy_U_card hf n (Nat.le_refl n)).1
    have := cf_card_del hx h
    omega
/-- sums of weights -/
def gw_sum (f : Nat → Int32) : Nat → Nat → Int
  | 0, _ => 0
  | n + 1, S => gw_sum f n S + (if S.testBit n = true then (f n).toInt else 0)
theorem gw_congr {f : Nat → Int32} {n S T : Nat} (h : ∀ i, i < n → S.testBit i = T.testBit i) : gw_sum f n S = gw_sum f n T := by
  induction n with
  | zero => rfl
  | succ n ih => simp only [gw_sum]; rw [ih fun i hi => h i (by omega), h n (by omega)]
theorem gw_add {f : Nat → Int32} {n S e : Nat} (he : e < n) (hs : S.testBit e = false) : gw_sum f n (S ||| 2 ^ e) = gw_sum f n S + (f e).toInt := by
  induction n with
  | zero => omega
  | succ n ih =>
    simp only [gw_sum, cf_add_bit]
    by_cases c : e = n
    · subst c
      rw [gw_congr (T := S) (fun i hi => by rw [cf_add_bit]; simp; omega), hs]; simp
    · rw [ih (by omega)]; simp [c]; omega
/-- better: a greater sum, or the same and first in ORDER -/
def gw_bet (f : Nat → Int32) (n A B : Nat) : Prop := gw_sum f n B < gw_sum f n A ∨ (gw_sum f n B = gw_sum f n A ∧ cf_lex A B)
theorem gw_bet_tr {f : Nat → Int32} {n A B C : Nat} (h : gw_bet f n A B) (k : gw_bet f n B C) : gw_bet f n A C := by
  rcases h with h | ⟨h, h2⟩ <;> rcases k with k | ⟨k, k2⟩
  · left; omega
  · left; omega
  · left; omega
  · right; exact ⟨by omega, cf_lex_tr h2 k2⟩
theorem gw_bet_ir {f : Nat → Int32} {n A : Nat} (h : gw_bet f n A A) : False := by
  rcases h with h | ⟨_, h⟩
  · omega
  · exact cf_lex_ir h
theorem gw_swap {f : Nat → Int32} {n J x y : Nat} (hx : x < n) (hy : y < n) (hJx : J.testBit x = false) (hJy : J.testBit y = true) (hl : gy_lt f x y) : gw_bet f n (cf_diff J (2 ^ y) ||| 2 ^ x) J := by
  have hxy : y ≠ x := fun q => by rw [q, hJx] at hJy; cases hJy
  have b1 : (cf_diff J (2 ^ y)).testBit x = false := by rw [cf_diff_bit, hJx]; rfl
  have s1 := gw_add (f := f) hx b1
  have s2 := gw_add (f := f) (n := n) (S := cf_diff J (2 ^ y)) hy (by rw [cf_diff_bit, cf_one_bit]; simp)
  have e1 : cf_diff J (2 ^ y) ||| 2 ^ y = J := Nat.eq_of_testBit_eq fun i => by
    rw [cf_add_bit, cf_diff_bit, cf_one_bit]
    by_cases c : y = i
    · subst c; rw [hJy]; simp
    · simp [c]
  rw [e1] at s2
  rcases hl with h | ⟨h, h2⟩
  · left; omega
  · right
    refine ⟨by omega, x, by rw [cf_add_bit]; simp, hJx, fun j hj => ?_⟩
    rw [cf_add_bit, cf_diff_bit, cf_one_bit]
    have q1 : ¬ x = j := by omega
    have q2 : ¬ y = j := by omega
    simp [q1, q2]
/-- THE BEST FOREST -/
def be_spec (L : Nat → Nat) (f : Nat → Int32) (n F : Nat) : Prop := cf_sub F (cf_full n) ∧ cf_ind L n F ∧ cf_card n F = cf_rk L n (cf_full n) ∧ ∀ J, cf_sub J (cf_full n) → cf_ind L n J → cf_card n J = cf_rk L n (cf_full n) → F = J ∨ gw_bet f n F J
theorem be_only {L : Nat → Nat} {f : Nat → Int32} {n F G : Nat} (h : be_spec L f n F) (k : be_spec L f n G) : F = G := by
  rcases h.2.2.2 G k.1 k.2.1 k.2.2.1 with q | q
  · exact q
  · rcases k.2.2.2 F h.1 h.2.1 h.2.2.1 with r | r
    · exact r.symm
    · exact absurd (gw_bet_tr q r) gw_bet_ir
/-- F is what the turns make: an edge is in F just when what of F came before does not span it -/
def gy_ok (L : Nat → Nat) (f : Nat → Int32) (n t F : Nat) : Prop := cf_sub F (cf_full n) ∧ cf_ind L n F ∧ (∀ x, F.testBit x = true → ∃ u, u < t ∧ gy_s f n u = x) ∧ ∀ u, u < t → F.testBit (gy_s f n u) = false → ∃ T, cf_sub T F ∧ cf_sp L n T (L (gy_s f n u)) ∧ ∀ x, T.testBit x = true → ∃ v, v < u ∧ gy_s f n v = x
theorem gy_ok_0 (L : Nat → Nat) (f : Nat → Int32) (n : Nat) : gy_ok L f n 0 0 := ⟨cf_sub_0 _, cf_ind_0 L n, (fun x h => absurd h (by rw [Nat.zero_testBit]; exact Bool.false_ne_true)), fun u hu => absurd hu (Nat.not_lt_zero u)⟩
theorem gy_ok_in {L : Nat → Nat} {f : Nat → Int32} {n t F : Nat} (hf : gw_in f n) (ht : t < n) (h : gy_ok L f n t F) (hn : ¬ cf_sp L n F (L (gy_s f n t))) : gy_ok L f n (t + 1) (F ||| 2 ^ gy_s f n t) := by
  obtain ⟨a, b, c, d⟩ := h
  obtain ⟨s1, _⟩ := (gy_U_card hf t (by omega)).2 ht
  refine ⟨cf_or_sub a (cf_one_sub (by rw [cf_full_bit]; exact decide_eq_true s1)), cf_ind_add s1 b hn, fun x hx => ?_, fun u hu hF => ?_⟩
  · rw [cf_add_bit] at hx
    by_cases q : gy_s f n t = x
    · exact ⟨t, by omega, q⟩
    · obtain ⟨u, u1, u2⟩ := c x (by simpa [q] using hx)
      exact ⟨u, by omega, u2⟩
  · rw [cf_add_bit] at hF
    have hF1 : F.testBit (gy_s f n u) = false := by cases q : F.testBit (gy_s f n u) <;> simp [q] at hF ⊢
    have hut : u ≠ t := fun q => by simp [q] at hF
    obtain ⟨T, t1, t2, t3⟩ := d u (by omega) hF1
    exact ⟨T, cf_sub_tr t1 (cf_sub_or _ _), t2, t3⟩
theorem gy_ok_out {L : Nat → Nat} {f : Nat → Int32} {n t F : Nat} (h : gy_ok L f n t F) (hs : cf_sp L n F (L (gy_s f n t))) : gy_ok L f n (t + 1) F := by
  obtain ⟨a, b, c, d⟩ := h
  refine ⟨a, b, fun x hx => ?_, fun u hu hF => ?_⟩
  · obtain ⟨u, u1, u2⟩ := c x hx
    exact ⟨u, by omega, u2⟩
  · rcases Nat.lt_or_ge u t with q | q
    · exact d u q hF
    · have : u = t := by omega
      subst this
      exact ⟨F, cf_sub_rf F, hs, c⟩
/-- an independent set with as many elements as the rank spans all -/
theorem cf_sp_full {L : Nat → Nat} {n J : Nat} (hJ : cf_sub J (cf_full n)) (hi : cf_ind L n J) (hc : cf_card n J = cf_rk L n (cf_full n)) {x : Nat} (hx : x < n) : cf_sp L n J (L x) := by
  rcases Classical.em (cf_sp L n J (L x)) with q | q
  · exact q
  · exfalso
    have hJx : J.testBit x = false := by
      cases c : J.testBit x with
      | false => rfl
      | true => exact absurd (cf_sp_mem hx c) q
    have := cf_rk_ind (S := cf_full n) (cf_ind_add hx hi q) (fun j hj _ => by rw [cf_full_bit]; exact decide_eq_true hj)
    rw [cf_card_add hx hJx] at this
    omega
theorem gy_best {L : Nat → Nat} {f : Nat → Int32} {n F : Nat} (hf : gw_in f n) (h : gy_ok L f n n F) : be_spec L f n F := by
  obtain ⟨a, b, c, d⟩ := h
  have hcard : cf_card n F = cf_rk L n (cf_full n) := by
    refine (cf_rk_bas ⟨a, b, fun i hi _ => ?_⟩).symm
    cases q : F.testBit i with
    | true => exact cf_sp_mem hi q
    | false =>
      obtain ⟨t, t1, t2⟩ := gy_onto hf hi
      obtain ⟨T, s1, s2, _⟩ := d t t1 (by rw [t2]; exact q)
      rw [t2] at s2
      exact cf_sp_mono s1 s2
  refine ⟨a, b, hcard, ?_⟩
  have key : ∀ k J, cf_card n (cf_diff J F) = k → cf_sub J (cf_full n) → cf_ind L n J → cf_card n J = cf_rk L n (cf_full n) → F = J ∨ gw_bet f n F J := by
    intro k
    induction k with
    | zero =>
      intro J hk hJ hi hc
      left
      have hsub : cf_sub J F := fun i hi => by
        have hin : i < n := by have := hJ i hi; rw [cf_full_bit] at this; exact of_decide_eq_true this
        cases q : F.testBit i with
        | true => rfl
        | false =>
          have := cf_card_del (n := n) (S := cf_diff J F) hin (by rw [cf_diff_bit, hi, q]; rfl)
          omega
      refine Nat.eq_of_testBit_eq fun i => ?_
      rcases Nat.lt_or_ge i n with q | q
      · exact (cf_card_eq hsub (by omega) i q).symm
      · rw [cf_sub_full a q, cf_sub_full hJ q]
    | succ k ih =>
      intro J hk hJ hi hc
      right
      -- the first turn at which they differ
      have first : ∀ m, m ≤ n → (∀ t, t < m → F.testBit (gy_s f n t) = J.testBit (gy_s f n t)) ∨ ∃ t, t < n ∧ F.testBit (gy_s f n t) ≠ J.testBit (gy_s f n t) ∧ ∀ u, u < t → F.testBit (gy_s f n u) = J.testBit (gy_s f n u) := by
        intro m
        induction m with
        | zero => intro _; left; intro t ht; exact absurd ht (Nat.not_lt_zero t)
        | succ m ihm =>
          intro hm
          rcases ihm (by omega) with q | q
          · by_cases r : F.testBit (gy_s f n m) = J.testBit (gy_s f n m)
            · left
              intro t ht
              rcases Nat.lt_or_ge t m with w | w
              · exact q t w
              · have : t = m := by omega
                rw [this]; exact r
            · right; exact ⟨m, by omega, r, q⟩
          · right; exact q
      rcases first n (Nat.le_refl n) with q | ⟨t, t1, t2, t3⟩
      · exfalso
        obtain ⟨x, x1, x2⟩ := cf_card_some (n := n) (S := cf_diff J F) (by omega)
        obtain ⟨t, t1, t2⟩ := gy_onto hf x1
        have := q t t1
        rw [t2] at this
        rw [cf_diff_bit, this] at x2
        cases r : J.testBit x <;> simp [r] at x2
      · obtain ⟨s1, _⟩ := (gy_U_card hf t (by omega)).2 t1
        have hFt : F.testBit (gy_s f n t) = true := by
          cases r : F.testBit (gy_s f n t) with
          | true => rfl
          | false =>
            exfalso
            have hJt : J.testBit (gy_s f n t) = true := by
              cases w : J.testBit (gy_s f n t) with
              | true => rfl
              | false => rw [r, w] at t2; exact absurd rfl t2
            obtain ⟨T, p1, p2, p3⟩ := d t t1 r
            refine cf_ind_nsp s1 hi hJt (cf_sp_mono (fun x hx => ?_) p2)
            obtain ⟨v, v1, v2⟩ := p3 x hx
            have hFx := p1 x hx
            have := t3 v v1
            rw [v2, hFx] at this
            rw [cf_diff_bit, ← this, cf_one_bit]
            have hne : ¬ gy_s f n t = x := fun w => by rw [w, hFx] at r; cases r
            simp [hne]
        have hJt : J.testBit (gy_s f n t) = false := by
          cases w : J.testBit (gy_s f n t) with
          | false => rfl
          | true => rw [hFt, w] at t2; exact absurd rfl t2
        obtain ⟨T, p1, p2⟩ := cf_sp_full hJ hi hc s1
        -- one of the circle that F has not
        have hex : ∃ y, y < n ∧ T.testBit y = true ∧ F.testBit y = false := by
          rcases Classical.em (∃ y, y < n ∧ T.testBit y = true ∧ F.testBit y = false) with q | q
          · exact q
          · exfalso
            have hT : (T &&& cf_full n).testBit (gy_s f n t) = false := by
              rw [Nat.testBit_and]
              cases w : T.testBit (gy_s f n t) with
              | false => rfl
              | true => rw [p1 _ w] at hJt; cases hJt
            refine cf_ind_nsp s1 b hFt ⟨T &&& cf_full n, fun x hx => ?_, ?_⟩
            · have hx0 := hx
              rw [Nat.testBit_and, cf_full_bit] at hx
              have hxn : x < n := by
                by_cases w : x < n
                · exact w
                · simp [w] at hx
              have hTx : T.testBit x = true := by simpa [hxn] using hx
              have hFx : F.testBit x = true := by
                cases w : F.testBit x with
                | true => rfl
                | false => exact absurd ⟨x, hxn, hTx, w⟩ q
              have hne : ¬ gy_s f n t = x := fun w => by rw [← w, hT] at hx0; cases hx0
              rw [cf_diff_bit, cf_one_bit, hFx]; simp [hne]
            · rw [← p2]
              exact cf_xs_congr fun i hi => by rw [Nat.testBit_and, cf_full_bit]; simp [hi]
        obtain ⟨y, y1, y2, y3⟩ := hex
        have hJy := p1 y y2
        obtain ⟨v, v1, v2⟩ := gy_onto hf y1
        have hvt : t < v := by
          rcases Nat.lt_trichotomy t v with w | w | w
          · exact w
          · rw [← w] at v2; rw [v2, y3] at hFt; cases hFt
          · have := t3 v w
            rw [v2, y3, hJy] at this; cases this
        have hlt := gy_sorted hf hvt v1
        rw [v2] at hlt
        have hne : y ≠ gy_s f n t := fun w => by rw [w, hFt] at y3; cases y3
        have hns : ¬ cf_sp L n (cf_diff J (2 ^ y)) (L (gy_s f n t)) := by
          rintro ⟨V, w1, w2⟩
          have hJs : cf_sub (cf_diff J (2 ^ y)) J := fun i hi => by rw [cf_diff_bit] at hi; cases r : J.testBit i <;> simp [r] at hi ⊢
          have := hi (T ^^^ V) (fun i hi => by
            rw [Nat.testBit_xor] at hi
            cases r : T.testBit i with
            | true => exact p1 i r
            | false => rw [r] at hi; exact hJs i (w1 i (by simpa using hi))) (by rw [cf_xs_xor, p2, w2, Nat.xor_self]) y y1
          rw [Nat.testBit_xor, y2] at this
          have hV : V.testBit y = true := by cases r : V.testBit y <;> simp [r] at this ⊢
          have := w1 y hV
          rw [cf_diff_bit, cf_one_bit] at this
          simp at this
        have hJ0 : cf_ind L n (cf_diff J (2 ^ y)) := cf_ind_sub (fun i hi => by rw [cf_diff_bit] at hi; cases r : J.testBit i <;> simp [r] at hi ⊢) hi
        have hb0 : (cf_diff J (2 ^ y)).testBit (gy_s f n t) = false := by rw [cf_diff_bit, hJt]; rfl
        have hbet := gw_swap (f := f) s1 y1 hJt hJy hlt
        have hc1 := cf_card_add (n := n) s1 hb0
        have hc2 := cf_card_del y1 hJy
        have hk2 : cf_card n (cf_diff (cf_diff J (2 ^ y) ||| 2 ^ gy_s f n t) F) = k := by
          have := cf_card_del (n := n) (S := cf_diff J F) y1 (by rw [cf_diff_bit, hJy, y3]; rfl)
          rw [hk] at this
          rw [← Nat.add_right_cancel this]
          refine cf_card_congr fun i _ => ?_
          rw [cf_diff_bit, cf_add_bit, cf_diff_bit, cf_one_bit, cf_diff_bit, cf_diff_bit, cf_one_bit]
          by_cases r : gy_s f n t = i
          · rw [← r, hFt]; simp
          · simp [r]; cases J.testBit i <;> cases F.testBit i <;> simp
        have hJ' : cf_sub (cf_diff J (2 ^ y) ||| 2 ^ gy_s f n t) (cf_full n) := cf_or_sub (fun i hi => by rw [cf_diff_bit] at hi; exact hJ i (by cases r : J.testBit i <;> simp [r] at hi ⊢)) (cf_one_sub (by rw [cf_full_bit]; exact decide_eq_true s1))
        rcases ih _ hk2 hJ' (cf_ind_add s1 hJ0 hns) (by omega) with w | w
        · rw [← w] at hbet; exact hbet
        · exact gw_bet_tr w hbet
  exact fun J => key _ J rfl
end
section
/-! THE SAME CIRCLES: what two rows of lines have in common; packing, shifting, putting side by side, tying together -/
def cy_eq (L M : Nat → Nat) (n : Nat) : Prop := ∀ T, cf_sub T (cf_full n) → (cf_xs L n T = 0 ↔ cf_xs M n T = 0)
theorem cy_rf (L : Nat → Nat) (n : Nat) : cy_eq L L n := fun _ _ => Iff.rfl
theorem cy_sym {L M : Nat → Nat} {n : Nat} (h : cy_eq L M n) : cy_eq M L n := fun T hT => (h T hT).symm
theorem cy_tr {L M N : Nat → Nat} {n : Nat} (h : cy_eq L M n) (k : cy_eq M N n) : cy_eq L N n := fun T hT => (h T hT).trans (k T hT)
theorem cf_cut (n T : Nat) : cf_sub (T &&& cf_full n) (cf_full n) := fun i hi => by rw [Nat.testBit_and] at hi; cases c : (cf_full n).testBit i <;> simp [c] at hi ⊢
theorem cf_cut_bit {n T i : Nat} (hi : i < n) : (T &&& cf_full n).testBit i = T.testBit i := by rw [Nat.testBit_and, cf_full_bit]; simp [hi]
theorem cf_cut_xs (L : Nat → Nat) (n T : Nat) : cf_xs L n (T &&& cf_full n) = cf_xs L n T := cf_xs_congr fun _ hi => cf_cut_bit hi
theorem cy_ind {L M : Nat → Nat} {n S : Nat} (h : cy_eq L M n) (hi : cf_ind L n S) : cf_ind M n S := by
  intro T hT h0 i hin
  have h1 := (h (T &&& cf_full n) (cf_cut n T)).mpr (by rw [cf_cut_xs]; exact h0)
  have := hi (T &&& cf_full n) (fun j hj => by rw [Nat.testBit_and] at hj; exact hT j (by cases c : T.testBit j <;> simp [c] at hj ⊢)) h1 i hin
  rw [cf_cut_bit hin] at this; exact this
theorem cy_rk {L M : Nat → Nat} {n : Nat} (h : cy_eq L M n) (S : Nat) : cf_rk L n S = cf_rk M n S := by
  have key : ∀ {L M : Nat → Nat}, cy_eq L M n → cf_rk L n S ≤ cf_rk M n S := by
    intro L M h
    obtain ⟨B, hb⟩ := cf_bas_ex L n S
    rw [cf_rk_bas hb]
    exact cf_rk_ind (cy_ind h hb.2.1) fun j _ hj => hb.1 j hj
  exact Nat.le_antisymm (key h) (key (cy_sym h))
theorem cy_com {L L' M M' : Nat → Nat} {n I : Nat} (h : cy_eq L L' n) (k : cy_eq M M' n) (c : cf_com L M n I) : cf_com L' M' n I :=
  ⟨c.1, cy_ind h c.2.1, cy_ind k c.2.2.1, fun J a b d => c.2.2.2 J a (cy_ind (cy_sym h) b) (cy_ind (cy_sym k) d)⟩
theorem cy_cm {L L' M M' : Nat → Nat} {n I : Nat} (h : cy_eq L L' n) (k : cy_eq M M' n) (c : cm_spec L M n I) : cm_spec L' M' n I :=
  ⟨cy_com h k c.1, fun J a b d => c.2 J a (cy_ind (cy_sym h) b) (cy_ind (cy_sym k) d)⟩
theorem cy_be {L L' : Nat → Nat} {f : Nat → Int32} {n F : Nat} (h : cy_eq L L' n) (c : be_spec L f n F) : be_spec L' f n F :=
  ⟨c.1, cy_ind h c.2.1, by rw [← cy_rk h]; exact c.2.2.1, fun J a b d => c.2.2.2 J a (cy_ind (cy_sym h) b) (by rw [cy_rk h]; exact d)⟩
theorem cy_cov {L L' M M' : Nat → Nat} {n I A : Nat} (h : cy_eq L L' n) (k : cy_eq M M' n) (c : cf_cov L M n I A) : cf_cov L' M' n I A := by
  unfold cf_cov at c ⊢
  rw [← cy_rk h, ← cy_rk k]; exact c
/-- sums stay below a power of two -/
theorem cf_xs_lt {L : Nat → Nat} {n T k : Nat} (h : ∀ i, i < n → T.testBit i = true → L i < 2 ^ k) : cf_xs L n T < 2 ^ k := by
  induction n with
  | zero => exact Nat.two_pow_pos k
  | succ n ih =>
    simp only [cf_xs]
    have h1 := ih fun i hi => h i (by omega)
    split
    · exact Nat.xor_lt_two_pow h1 (h n (by omega) (by assumption))
    · exact h1
theorem cf_xs_sub {L : Nat → Nat} {n T m : Nat} (h : ∀ i, i < n → T.testBit i = true → cf_sub (L i) m) : cf_sub (cf_xs L n T) m := by
  induction n with
  | zero => exact cf_sub_0 m
  | succ n ih =>
    simp only [cf_xs]
    have h1 := ih fun i hi => h i (by omega)
    split
    · intro j hj
      rw [Nat.testBit_xor] at hj
      cases c : (cf_xs L n T).testBit j with
      | true => exact h1 j c
      | false => rw [c] at hj; exact h n (by omega) (by assumption) j (by simpa using hj)
    · exact h1
/-- a map that keeps sums, over a sum -/
theorem cf_xs_map {L : Nat → Nat} {φ : Nat → Nat} (h0 : φ 0 = 0) (hx : ∀ a b, φ (a ^^^ b) = φ a ^^^ φ b) (n T : Nat) : cf_xs (fun e => φ (L e)) n T = φ (cf_xs L n T) := by
  induction n with
  | zero => exact h0.symm
  | succ n ih =>
    simp only [cf_xs]
    split
    · rw [ih, hx]
    · exact ih
/-- the place of a vertex among those that are met -/
def pq_ix (met i : Nat) : Nat := cf_card i met
def pq_of (met v : Nat) : Nat := cf_xs (fun i => 2 ^ pq_ix met i) 32 v
theorem pq_ix_lt {met i j : Nat} (h : i < j) (hi : met.testBit i = true) : pq_ix met i < pq_ix met j := by
  unfold pq_ix
  have key : ∀ d, cf_card (i + d) met ≤ cf_card (i + d + 1) met := fun d => by
    show _ ≤ cf_card (i + d) met + _
    omega
  have k2 : ∀ d, cf_card (i + 1) met ≤ cf_card (i + 1 + d) met := by
    intro d
    induction d with
    | zero => exact Nat.le_refl _
    | succ d ih => exact Nat.le_trans ih (by have := key (1 + d); rw [show i + (1 + d) = i + 1 + d by omega] at this; exact this)
  have k3 := k2 (j - (i + 1))
  rw [show i + 1 + (j - (i + 1)) = j by omega] at k3
  have : cf_card (i + 1) met = cf_card i met + 1 := by simp only [cf_card]; rw [if_pos hi]
  omega
theorem pq_inj {met v : Nat} (hv : cf_sub v met) (hn : v < 2 ^ 32) (h : pq_of met v = 0) : v = 0 := by
  have key : ∀ m, cf_xs (fun i => 2 ^ pq_ix met i) m v = 0 → ∀ i, i < m → v.testBit i = false := by
    intro m
    induction m with
    | zero => intro _ i hi; exact absurd hi (Nat.not_lt_zero i)
    | succ m ih =>
      intro h0 i hi
      simp only [cf_xs] at h0
      by_cases c : v.testBit m = true
      · exfalso
        rw [if_pos c] at h0
        have hl : cf_xs (fun i => 2 ^ pq_ix met i) m v < 2 ^ pq_ix met m := cf_xs_lt fun j hj hb => Nat.pow_lt_pow_right (by omega) (pq_ix_lt hj (hv j hb))
        have : (cf_xs (fun i => 2 ^ pq_ix met i) m v ^^^ 2 ^ pq_ix met m).testBit (pq_ix met m) = true := by
          rw [Nat.testBit_xor, Nat.testBit_lt_two_pow hl, cf_one_bit]; simp
        rw [h0, Nat.zero_testBit] at this; cases this
      · rw [if_neg c] at h0
        rcases Nat.lt_or_ge i m with q | q
        · exact ih h0 i q
        · have : i = m := by omega
          rw [this]
          cases d : v.testBit m with
          | false => rfl
          | true => exact absurd d c
  refine Nat.eq_of_testBit_eq fun i => ?_
  rw [Nat.zero_testBit]
  rcases Nat.lt_or_ge i 32 with q | q
  · exact key 32 h i q
  · exact Nat.testBit_lt_two_pow (Nat.lt_of_lt_of_le hn (Nat.pow_le_pow_right (by omega) q))
theorem pq_xor (met a b : Nat) : pq_of met (a ^^^ b) = pq_of met a ^^^ pq_of met b := cf_xs_xor _ 32 a b
theorem pq_0 (met : Nat) : pq_of met 0 = 0 := cf_xs_0 _ 32
theorem pq_one (met : Nat) {i : Nat} (hi : i < 32) : pq_of met (2 ^ i) = 2 ^ pq_ix met i := cf_xs_one hi
/-- packed lines make the same circles -/
theorem pq_cy {L : Nat → Nat} {n met : Nat} (hm : ∀ e, e < n → cf_sub (L e) met) (hl : ∀ e, e < n → L e < 2 ^ 32) : cy_eq L (fun e => pq_of met (L e)) n := by
  intro T _
  rw [cf_xs_map (pq_0 met) (pq_xor met)]
  refine ⟨fun h => by rw [h, pq_0], fun h => pq_inj (cf_xs_sub fun i hi _ => hm i hi) (cf_xs_lt fun i hi _ => hl i hi) h⟩
/-- below the count of what is met -/
theorem pq_lt {met v : Nat} (hv : cf_sub v met) (hm : met < 2 ^ 32) : pq_of met v < 2 ^ cf_card 32 met := by
  refine cf_xs_lt fun i hi hb => Nat.pow_lt_pow_right (by omega) ?_
  exact pq_ix_lt hi (hv i hb)
/-- two rows of lines, one behind the other, the second's lines above a power of two -/
def bs_L (L M : Nat → Nat) (n sh : Nat) : Nat → Nat := fun e => if e < n then L e else M (e - n) * 2 ^ sh
theorem bs_xs {L M : Nat → Nat} {n sh : Nat} : ∀ k T, cf_xs (bs_L L M n sh) (n + k) T = cf_xs L n T ^^^ (cf_xs M k (T / 2 ^ n) * 2 ^ sh) := by
  intro k
  induction k with
  | zero =>
    intro T
    rw [show cf_xs M 0 (T / 2 ^ n) = 0 from rfl, Nat.zero_mul, Nat.xor_zero, Nat.add_zero]
    exact cf_xs_congrL fun i hi _ => by simp [bs_L, hi]
  | succ k ih =>
    intro T
    rw [← Nat.add_assoc]
    simp only [cf_xs]
    rw [ih, Nat.testBit_div_two_pow, Nat.add_comm k n]
    by_cases c : T.testBit (n + k) = true
    · rw [if_pos c, if_pos c]
      have e : bs_L L M n sh (n + k) = M k * 2 ^ sh := by
        unfold bs_L
        rw [if_neg (by omega), Nat.add_sub_cancel_left]
      rw [e, Nat.xor_assoc, ← Nat.shiftLeft_eq, ← Nat.shiftLeft_eq, ← Nat.shiftLeft_eq, Nat.shiftLeft_xor_distrib]
    · rw [if_neg c, if_neg c]
theorem bs_zero {a b sh : Nat} (ha : a < 2 ^ sh) : a ^^^ (b * 2 ^ sh) = 0 ↔ a = 0 ∧ b = 0 := by
  refine ⟨fun h => ?_, fun ⟨h, k⟩ => by rw [h, k, Nat.zero_mul, Nat.xor_zero]⟩
  have e : a = b * 2 ^ sh := by
    have : (a ^^^ (b * 2 ^ sh)) ^^^ (b * 2 ^ sh) = b * 2 ^ sh := by rw [h, Nat.zero_xor]
    rw [cf_xc] at this; exact this
  have hb : b = 0 := by
    rcases Nat.eq_zero_or_pos b with q | q
    · exact q
    · exfalso
      have : 1 * 2 ^ sh ≤ b * 2 ^ sh := Nat.mul_le_mul_right _ q
      omega
  subst hb
  rw [Nat.zero_mul] at e
  exact ⟨e, rfl⟩
/-- graphs side by side: circles are those of the one and those of the other -/
theorem bs_cy {L M : Nat → Nat} {n k sh : Nat} (hL : ∀ e, e < n → L e < 2 ^ sh) (T : Nat) : cf_xs (bs_L L M n sh) (n + k) T = 0 ↔ cf_xs L n T = 0 ∧ cf_xs M k (T / 2 ^ n) = 0 := by
  rw [bs_xs]
  exact bs_zero (cf_xs_lt fun i hi _ => hL i hi)
theorem bs_eq {L M L' M' : Nat → Nat} {n k sh sh' : Nat} (hL : ∀ e, e < n → L e < 2 ^ sh) (hL' : ∀ e, e < n → L' e < 2 ^ sh') (h : cy_eq L L' n) (q : cy_eq M M' k) : cy_eq (bs_L L M n sh) (bs_L L' M' n sh') (n + k) := by
  intro T hT
  rw [bs_cy hL, bs_cy hL']
  have e1 : cf_xs L n T = 0 ↔ cf_xs L' n T = 0 := by
    rw [← cf_cut_xs L, ← cf_cut_xs L']; exact h _ (cf_cut n T)
  have e2 : cf_xs M k (T / 2 ^ n) = 0 ↔ cf_xs M' k (T / 2 ^ n) = 0 := by
    rw [← cf_cut_xs M, ← cf_cut_xs M']; exact q _ (cf_cut k _)
  rw [e1, e2]
/-- lines of two ends -/
def gl_two (v : Nat) : Prop := ∃ a b, a < 24 ∧ b < 24 ∧ v = 2 ^ a ^^^ 2 ^ b
theorem gl_lt {v : Nat} (h : gl_two v) : v < 2 ^ 24 := by
  obtain ⟨a, b, ha, hb, rfl⟩ := h
  exact Nat.xor_lt_two_pow (Nat.pow_lt_pow_right (by omega) ha) (Nat.pow_lt_pow_right (by omega) hb)
theorem gl_step {r row : Nat} (hr : gl_two r) (hw : gl_two row) : gl_two (fo_step r row) := by
  unfold fo_step
  by_cases c : r ^^^ row < r
  · rw [if_pos c]
    have hne : row ≠ 0 := fun q => by rw [q, Nat.xor_zero] at c; omega
    have ht := (fo_top hne).mp c
    have h2 := Nat.testBit_log2 hne
    obtain ⟨a, b, ha, hb, rfl⟩ := hr
    obtain ⟨x, y, hx, hy, rfl⟩ := hw
    generalize (2 ^ x ^^^ 2 ^ y).log2 = t at ht h2
    rw [Nat.testBit_xor, cf_one_bit, cf_one_bit] at ht h2
    have k1 : a = t ∨ b = t := by
      by_cases q : a = t
      · exact Or.inl q
      · by_cases q2 : b = t
        · exact Or.inr q2
        · simp [q, q2] at ht
    have k2 : x = t ∨ y = t := by
      by_cases q : x = t
      · exact Or.inl q
      · by_cases q2 : y = t
        · exact Or.inr q2
        · simp [q, q2] at h2
    rcases k1 with rfl | rfl <;> rcases k2 with rfl | rfl
    · exact ⟨b, y, hb, hy, by rw [cf_x4, Nat.xor_self, Nat.zero_xor]⟩
    · exact ⟨b, x, hb, hx, by rw [Nat.xor_comm (2 ^ x), cf_x4, Nat.xor_self, Nat.zero_xor]⟩
    · exact ⟨a, y, ha, hy, by rw [Nat.xor_comm (2 ^ a), cf_x4, Nat.xor_self, Nat.zero_xor]⟩
    · exact ⟨a, x, ha, hx, by rw [cf_x4, Nat.xor_self, Nat.xor_zero]⟩
  · rw [if_neg c]; exact hr
theorem gl_rest {rows : Nat → Nat} {v k : Nat} (hv : gl_two v) (h : ∀ i, i < k → gl_two (rows i)) : gl_two (fo_rest rows v k) := by
  induction k with
  | zero => exact hv
  | succ k ih => exact gl_step (ih fun i hi => h i (by omega)) (h k (by omega))
theorem gl_fill {L : Nat → Nat} {n S : Nat} {rows parts : Nat → Nat} (hL : ∀ e, e < n → gl_two (L e)) : ∀ m, m ≤ n → ∀ i, i < (fo_fill L S rows parts m).2.2 → gl_two ((fo_fill L S rows parts m).1 i) := by
  intro m
  induction m with
  | zero => intro _ i hi; exact absurd hi (Nat.not_lt_zero i)
  | succ m ih =>
    intro hm
    have h1 := ih (by omega)
    simp only [fo_fill]
    split
    · unfold fo_takes
      split
      · exact h1
      · intro i hi
        dsimp only at hi ⊢
        rcases Nat.lt_or_ge i (fo_fill L S rows parts m).2.2 with q | q
        · rw [fo_up_lt _ _ q]; exact h1 i q
        · have : i = (fo_fill L S rows parts m).2.2 := by omega
          rw [this, fo_up_self]
          exact gl_rest (hL m (by omega)) h1
    · exact h1
/-- tied together: a sum of rests is nothing just when the sum of the lines is spanned -/
theorem gl_tied {L : Nat → Nat} {n B : Nat} {rows parts : Nat → Nat} {k : Nat} (h : fo_ok L n B rows parts k) (T : Nat) : cf_xs (fun e => fo_rest rows (L e) k) n T = 0 ↔ cf_sp L n B (cf_xs L n T) := by
  rw [cf_xs_map (φ := fun v => fo_rest rows v k) (fo_rest_0 rows k) (fun a b => fo_rest_lin fun i hi => (h.2.2.2.1 i hi).1)]
  exact fo_rest_iff h _
end
section
/-! HOW MANY BITS: the sums of pairs, of fours, of eights -/
theorem bc_split (k a M c : Nat) (hc : c < 2 ^ k) : a &&& (2 ^ k * M + c) = 2 ^ k * ((a / 2 ^ k) &&& M) + ((a % 2 ^ k) &&& c) := by
  have h2 : (a % 2 ^ k) &&& c < 2 ^ k := Nat.and_lt_two_pow _ hc
  refine Nat.eq_of_testBit_eq fun j => ?_
  rw [Nat.testBit_and, Nat.testBit_two_pow_mul_add _ hc, Nat.testBit_two_pow_mul_add _ h2]
  by_cases q : j < k
  · rw [if_pos q, if_pos q, Nat.testBit_and, Nat.testBit_mod_two_pow]
    simp [q]
  · rw [if_neg q, if_neg q, Nat.testBit_and, Nat.testBit_div_two_pow]
    rw [show j - k + k = j by omega]
def bc_p (d : Nat) : Nat := d - d / 2
def bc_M : Nat → Nat
  | 0 => 0
  | j + 1 => 4 * bc_M j + 1
def bc_N : Nat → Nat
  | 0 => 0
  | j + 1 => 16 * bc_N j + 3
def bc_O : Nat → Nat
  | 0 => 0
  | j + 1 => 256 * bc_O j + 15
def bc_1 : Nat → Nat → Nat
  | 0, _ => 0
  | j + 1, x => 4 * bc_1 j (x / 4) + bc_p (x % 4)
def bc_2 : Nat → Nat → Nat
  | 0, _ => 0
  | j + 1, x => 16 * bc_2 j (x / 16) + (bc_p (x / 4 % 4) + bc_p (x % 4))
def bc_3 : Nat → Nat → Nat
  | 0, _ => 0
  | j + 1, x => 256 * bc_3 j (x / 256) + ((bc_p (x / 64 % 4) + bc_p (x / 16 % 4)) + (bc_p (x / 4 % 4) + bc_p (x % 4)))
theorem bc_p_le {d : Nat} (h : d < 4) : bc_p d ≤ 2 := by unfold bc_p; omega
theorem bc_s1 : ∀ j x, x < 4 ^ j → ((x / 2) &&& bc_M j) + bc_1 j x = x := by
  intro j
  induction j with
  | zero => intro x hx; simp [bc_M, bc_1] at hx ⊢; omega
  | succ j ih =>
    intro x hx
    have h1 := ih (x / 4) (by rw [Nat.pow_succ] at hx; omega)
    simp only [bc_M, bc_1]
    have e := bc_split 2 (x / 2) (bc_M j) 1 (by decide)
    rw [show (2 : Nat) ^ 2 = 4 from rfl] at e
    rw [e, Nat.and_one_is_mod, show x / 2 / 4 = x / 4 / 2 by omega]
    unfold bc_p
    omega
theorem bc_1_two (j x : Nat) : bc_1 (2 * (j + 1)) x = 16 * bc_1 (2 * j) (x / 16) + (4 * bc_p (x / 4 % 4) + bc_p (x % 4)) := by
  rw [show 2 * (j + 1) = 2 * j + 1 + 1 by omega]
  simp only [bc_1]
  rw [show x / 4 / 4 = x / 16 by omega]
  omega
theorem bc_s2 : ∀ j x, ((bc_1 (2 * j) x) &&& bc_N j) + ((bc_1 (2 * j) x / 4) &&& bc_N j) = bc_2 j x := by
  intro j
  induction j with
  | zero => intro x; simp [bc_1, bc_2, bc_N]
  | succ j ih =>
    intro x
    have h1 := ih (x / 16)
    have pa := bc_p_le (d := x / 4 % 4) (by omega)
    have pb := bc_p_le (d := x % 4) (by omega)
    simp only [bc_N, bc_2]
    rw [bc_1_two]
    generalize bc_1 (2 * j) (x / 16) = v at h1 ⊢
    generalize bc_p (x / 4 % 4) = pa' at pa ⊢
    generalize bc_p (x % 4) = pb' at pb ⊢
    have e1 := bc_split 4 (16 * v + (4 * pa' + pb')) (bc_N j) 3 (by decide)
    have e2 := bc_split 4 ((16 * v + (4 * pa' + pb')) / 4) (bc_N j) 3 (by decide)
    rw [show (2 : Nat) ^ 4 = 16 from rfl] at e1 e2
    have m3 : ∀ z : Nat, z &&& 3 = z % 4 := fun z => by
      have := Nat.and_two_pow_sub_one_eq_mod z 2
      exact this
    rw [m3] at e1 e2
    rw [e1, e2, show (16 * v + (4 * pa' + pb')) / 16 = v by omega, show (16 * v + (4 * pa' + pb')) / 4 / 16 = v / 4 by omega]
    omega
theorem bc_2_two (j x : Nat) : bc_2 (2 * (j + 1)) x = 256 * bc_2 (2 * j) (x / 256) + (16 * (bc_p (x / 64 % 4) + bc_p (x / 16 % 4)) + (bc_p (x / 4 % 4) + bc_p (x % 4))) := by
  rw [show 2 * (j + 1) = 2 * j + 1 + 1 by omega]
  simp only [bc_2]
  rw [show x / 16 / 16 = x / 256 by omega, show x / 16 / 4 = x / 64 by omega]
  omega
theorem bc_2_low (j x : Nat) : bc_2 j x % 16 ≤ 4 := by
  cases j with
  | zero => simp [bc_2]
  | succ j =>
    simp only [bc_2]
    have pa := bc_p_le (d := x / 4 % 4) (by omega)
    have pb := bc_p_le (d := x % 4) (by omega)
    omega
theorem bc_s3 : ∀ j x, (bc_2 (2 * j) x + bc_2 (2 * j) x / 16) &&& bc_O j = bc_3 j x := by
  intro j
  induction j with
  | zero => intro x; simp [bc_2, bc_O, bc_3]
  | succ j ih =>
    intro x
    have h1 := ih (x / 256)
    have hl := bc_2_low (2 * j) (x / 256)
    have pa := bc_p_le (d := x / 4 % 4) (by omega)
    have pb := bc_p_le (d := x % 4) (by omega)
    have pc := bc_p_le (d := x / 64 % 4) (by omega)
    have pd := bc_p_le (d := x / 16 % 4) (by omega)
    simp only [bc_O, bc_3]
    rw [bc_2_two]
    generalize bc_2 (2 * j) (x / 256) = v at h1 hl ⊢
    generalize bc_p (x / 4 % 4) = pa' at pa ⊢
    generalize bc_p (x % 4) = pb' at pb ⊢
    generalize bc_p (x / 64 % 4) = pc' at pc ⊢
    generalize bc_p (x / 16 % 4) = pd' at pd ⊢
    have m15 : ∀ z : Nat, z &&& 15 = z % 16 := fun z => Nat.and_two_pow_sub_one_eq_mod z 4
    have e1 := bc_split 8 ((256 * v + (16 * (pc' + pd') + (pa' + pb'))) + (256 * v + (16 * (pc' + pd') + (pa' + pb'))) / 16) (bc_O j) 15 (by decide)
    rw [show (2 : Nat) ^ 8 = 256 from rfl, m15] at e1
    rw [e1, show ((256 * v + (16 * (pc' + pd') + (pa' + pb'))) + (256 * v + (16 * (pc' + pd') + (pa' + pb'))) / 16) / 256 = v + v / 16 by omega, h1]
    omega
/-- a count from below -/
theorem cf_card_half (n x : Nat) : cf_card (n + 1) x = x % 2 + cf_card n (x / 2) := by
  induction n with
  | zero =>
    simp only [cf_card, Nat.testBit_zero]
    by_cases c : x % 2 = 1
    · simp [c]
    · have : x % 2 = 0 := by omega
      simp [this]
  | succ n ih =>
    rw [show cf_card (n + 1 + 1) x = cf_card (n + 1) x + (if x.testBit (n + 1) = true then 1 else 0) from rfl, ih, Nat.testBit_add_one]
    simp only [cf_card]
    omega
theorem cf_card_four (n x : Nat) : cf_card (n + 2) x = bc_p (x % 4) + cf_card n (x / 4) := by
  rw [cf_card_half, cf_card_half, show x / 2 / 2 = x / 4 by omega]
  unfold bc_p
  omega
def bc_g : Nat → Nat → Nat
  | 0, _ => 0
  | j + 1, x => bc_p (x % 4) + bc_g j (x / 4)
theorem bc_g_card : ∀ j x, cf_card (2 * j) x = bc_g j x := by
  intro j
  induction j with
  | zero => intro x; rfl
  | succ j ih =>
    intro x
    rw [show 2 * (j + 1) = 2 * j + 2 by omega, cf_card_four, ih]
    rfl
theorem bc_all (x : Nat) : ∃ p0 p1 p2 p3, p0 ≤ 8 ∧ p1 ≤ 8 ∧ p2 ≤ 8 ∧ p3 ≤ 8 ∧ bc_3 4 x = p0 + 256 * p1 + 65536 * p2 + 16777216 * p3 ∧ cf_card 32 x = p0 + p1 + p2 + p3 := by
  have q : ∀ d, bc_p (d % 4) ≤ 2 := fun d => bc_p_le (by omega)
  refine ⟨(bc_p (x / 64 % 4) + bc_p (x / 16 % 4)) + (bc_p (x / 4 % 4) + bc_p (x % 4)), (bc_p (x / 16384 % 4) + bc_p (x / 4096 % 4)) + (bc_p (x / 1024 % 4) + bc_p (x / 256 % 4)),
    (bc_p (x / 4194304 % 4) + bc_p (x / 1048576 % 4)) + (bc_p (x / 262144 % 4) + bc_p (x / 65536 % 4)),
    (bc_p (x / 1073741824 % 4) + bc_p (x / 268435456 % 4)) + (bc_p (x / 67108864 % 4) + bc_p (x / 16777216 % 4)), ?_, ?_, ?_, ?_, ?_, ?_⟩
  · have := q (x / 64); have := q (x / 16); have := q (x / 4); have := q x; omega
  · have := q (x / 16384); have := q (x / 4096); have := q (x / 1024); have := q (x / 256); omega
  · have := q (x / 4194304); have := q (x / 1048576); have := q (x / 262144); have := q (x / 65536); omega
  · have := q (x / 1073741824); have := q (x / 268435456); have := q (x / 67108864); have := q (x / 16777216); omega
  · simp only [bc_3, Nat.div_div_eq_div_mul, Nat.reduceMul]; omega
  · rw [show (32 : Nat) = 2 * 16 from rfl, bc_g_card]
    simp only [bc_g, Nat.div_div_eq_div_mul, Nat.reduceMul]; omega
/-- the whole of it, as the JDK counts -/
theorem bc_count {x : Nat} (hx : x < 2 ^ 30) :
    (let a := x - ((x / 2) &&& 1431655765)
     let b := (a &&& 858993459) + ((a / 4) &&& 858993459)
     let d := (b + b / 16) &&& 252645135
     let f := d + d / 256
     (f + f / 65536) &&& 63) = cf_card 32 x := by
  have s1 := bc_s1 16 x (by rw [show (4 : Nat) ^ 16 = 2 ^ 32 from rfl]; omega)
  have s2 := bc_s2 8 x
  have s3 := bc_s3 4 x
  rw [show bc_M 16 = 1431655765 from rfl] at s1
  rw [show bc_N 8 = 858993459 from rfl, show 2 * 8 = 16 from rfl] at s2
  rw [show bc_O 4 = 252645135 from rfl, show 2 * 4 = 8 from rfl] at s3
  have ea : x - ((x / 2) &&& 1431655765) = bc_1 16 x := by omega
  obtain ⟨p0, p1, p2, p3, h0, h1, h2, h3, e1, e2⟩ := bc_all x
  dsimp only
  rw [ea, s2, s3, e1, e2]
  have m63 : ∀ z : Nat, z &&& 63 = z % 64 := fun z => Nat.and_two_pow_sub_one_eq_mod z 6
  rw [m63]
  have e3 : (p0 + 256 * p1 + 65536 * p2 + 16777216 * p3) / 256 = p1 + 256 * p2 + 65536 * p3 := by omega
  rw [e3]
  have e4 : (p0 + 256 * p1 + 65536 * p2 + 16777216 * p3 + (p1 + 256 * p2 + 65536 * p3)) / 65536 = p2 + p3 + 256 * p3 := by omega
  rw [e4]
  omega
end
section
-- ===== PART A: goes FIRST, ahead of the names: the tables' words, and 'selects' of the private methods out of them =====
/-- a private method of a class that the tables say can be made, by its rows of tables_1 -/
def lw_okq (q : MethodName × Nat) : Prop := (q.1.cls ≠ "java/lang/invoke/MethodHandle" ∧ q.1.cls ≠ "java/lang/invoke/VarHandle") ∧ Cond.instantiable q.1.cls q.2 ∈ tables_1 ∧ Cond.privateMethod q.1 ∈ tables_1 ∧ Cond.instanceMethod q.1 ∈ tables_1
theorem lw_p0 : lw_okq (⟨"CommonForests", "isEdge", "(II)Z"⟩, 4) := ⟨⟨by decide +kernel, by decide +kernel⟩, List.mem_of_getElem? (i := 8) (by decide +kernel), List.mem_of_getElem? (i := 101) (by decide +kernel), List.mem_of_getElem? (i := 102) (by decide +kernel)⟩
theorem lw_p1 : lw_okq (⟨"CommonForests", "isSet", "(II)Z"⟩, 4) := ⟨⟨by decide +kernel, by decide +kernel⟩, List.mem_of_getElem? (i := 8) (by decide +kernel), List.mem_of_getElem? (i := 109) (by decide +kernel), List.mem_of_getElem? (i := 110) (by decide +kernel)⟩
theorem lw_p2 : lw_okq (⟨"CommonForests", "draftPacked", "(LCommonForests$Graph;II)V"⟩, 4) := ⟨⟨by decide +kernel, by decide +kernel⟩, List.mem_of_getElem? (i := 8) (by decide +kernel), List.mem_of_getElem? (i := 153) (by decide +kernel), List.mem_of_getElem? (i := 154) (by decide +kernel)⟩
theorem lw_p3 : lw_okq (⟨"CommonForests", "areAlike", "(II)Z"⟩, 4) := ⟨⟨by decide +kernel, by decide +kernel⟩, List.mem_of_getElem? (i := 8) (by decide +kernel), List.mem_of_getElem? (i := 197) (by decide +kernel), List.mem_of_getElem? (i := 198) (by decide +kernel)⟩
theorem lw_p4 : lw_okq (⟨"CommonForests", "largestInBoth", "(LCommonForests$Graph;LCommonForests$Graph;)I"⟩, 4) := ⟨⟨by decide +kernel, by decide +kernel⟩, List.mem_of_getElem? (i := 8) (by decide +kernel), List.mem_of_getElem? (i := 201) (by decide +kernel), List.mem_of_getElem? (i := 202) (by decide +kernel)⟩
theorem lw_p5 : lw_okq (⟨"CommonForests", "searched", "(LCommonForests$Graph;LCommonForests$Graph;IIII)I"⟩, 4) := ⟨⟨by decide +kernel, by decide +kernel⟩, List.mem_of_getElem? (i := 8) (by decide +kernel), List.mem_of_getElem? (i := 206) (by decide +kernel), List.mem_of_getElem? (i := 207) (by decide +kernel)⟩
theorem lw_p6 : lw_okq (⟨"CommonForests", "leastCover", "(LCommonForests$Graph;LCommonForests$Graph;)I"⟩, 4) := ⟨⟨by decide +kernel, by decide +kernel⟩, List.mem_of_getElem? (i := 8) (by decide +kernel), List.mem_of_getElem? (i := 218) (by decide +kernel), List.mem_of_getElem? (i := 219) (by decide +kernel)⟩
theorem lw_p7 : lw_okq (⟨"CommonForests", "grown", "(LCommonForests$Graph;LCommonForests$Graph;II)I"⟩, 4) := ⟨⟨by decide +kernel, by decide +kernel⟩, List.mem_of_getElem? (i := 8) (by decide +kernel), List.mem_of_getElem? (i := 222) (by decide +kernel), List.mem_of_getElem? (i := 223) (by decide +kernel)⟩
theorem lw_p8 : lw_okq (⟨"CommonForestsModel", "isEdge", "(II)Z"⟩, 10) := ⟨⟨by decide +kernel, by decide +kernel⟩, List.mem_of_getElem? (i := 227) (by decide +kernel), List.mem_of_getElem? (i := 281) (by decide +kernel), List.mem_of_getElem? (i := 282) (by decide +kernel)⟩
theorem lw_p9 : lw_okq (⟨"CommonForestsModel", "isSet", "(II)Z"⟩, 10) := ⟨⟨by decide +kernel, by decide +kernel⟩, List.mem_of_getElem? (i := 227) (by decide +kernel), List.mem_of_getElem? (i := 289) (by decide +kernel), List.mem_of_getElem? (i := 290) (by decide +kernel)⟩
theorem lw_p10 : lw_okq (⟨"CommonForestsModel", "whole", "(I)I"⟩, 10) := ⟨⟨by decide +kernel, by decide +kernel⟩, List.mem_of_getElem? (i := 227) (by decide +kernel), List.mem_of_getElem? (i := 293) (by decide +kernel), List.mem_of_getElem? (i := 294) (by decide +kernel)⟩
theorem lw_p11 : lw_okq (⟨"CommonForestsModel", "join", "(II)I"⟩, 10) := ⟨⟨by decide +kernel, by decide +kernel⟩, List.mem_of_getElem? (i := 227) (by decide +kernel), List.mem_of_getElem? (i := 297) (by decide +kernel), List.mem_of_getElem? (i := 298) (by decide +kernel)⟩
theorem lw_p12 : lw_okq (⟨"CommonForestsModel", "lay", "(II)V"⟩, 10) := ⟨⟨by decide +kernel, by decide +kernel⟩, List.mem_of_getElem? (i := 227) (by decide +kernel), List.mem_of_getElem? (i := 301) (by decide +kernel), List.mem_of_getElem? (i := 302) (by decide +kernel)⟩
theorem lw_p13 : lw_okq (⟨"CommonForestsModel", "keep", "(II)I"⟩, 10) := ⟨⟨by decide +kernel, by decide +kernel⟩, List.mem_of_getElem? (i := 227) (by decide +kernel), List.mem_of_getElem? (i := 305) (by decide +kernel), List.mem_of_getElem? (i := 306) (by decide +kernel)⟩
theorem lw_p14 : lw_okq (⟨"CommonForestsModel", "number", "(II)I"⟩, 10) := ⟨⟨by decide +kernel, by decide +kernel⟩, List.mem_of_getElem? (i := 227) (by decide +kernel), List.mem_of_getElem? (i := 313) (by decide +kernel), List.mem_of_getElem? (i := 314) (by decide +kernel)⟩
theorem lw_p15 : lw_okq (⟨"CommonForestsModel", "measure", "(I[B)V"⟩, 10) := ⟨⟨by decide +kernel, by decide +kernel⟩, List.mem_of_getElem? (i := 227) (by decide +kernel), List.mem_of_getElem? (i := 333) (by decide +kernel), List.mem_of_getElem? (i := 334) (by decide +kernel)⟩
def lw_privs_1 : List (MethodName × Nat) := [(⟨"CommonForests", "isEdge", "(II)Z"⟩, 4), (⟨"CommonForests", "isSet", "(II)Z"⟩, 4), (⟨"CommonForests", "draftPacked", "(LCommonForests$Graph;II)V"⟩, 4), (⟨"CommonForests", "areAlike", "(II)Z"⟩, 4), (⟨"CommonForests", "largestInBoth", "(LCommonForests$Graph;LCommonForests$Graph;)I"⟩, 4), (⟨"CommonForests", "searched", "(LCommonForests$Graph;LCommonForests$Graph;IIII)I"⟩, 4), (⟨"CommonForests", "leastCover", "(LCommonForests$Graph;LCommonForests$Graph;)I"⟩, 4), (⟨"CommonForests", "grown", "(LCommonForests$Graph;LCommonForests$Graph;II)I"⟩, 4), (⟨"CommonForestsModel", "isEdge", "(II)Z"⟩, 10), (⟨"CommonForestsModel", "isSet", "(II)Z"⟩, 10), (⟨"CommonForestsModel", "whole", "(I)I"⟩, 10), (⟨"CommonForestsModel", "join", "(II)I"⟩, 10), (⟨"CommonForestsModel", "lay", "(II)V"⟩, 10), (⟨"CommonForestsModel", "keep", "(II)I"⟩, 10), (⟨"CommonForestsModel", "number", "(II)I"⟩, 10), (⟨"CommonForestsModel", "measure", "(I[B)V"⟩, 10)]
theorem lw_r1 : ∀ q ∈ lw_privs_1, lw_okq q := List.forall_mem_cons.mpr ⟨lw_p0, List.forall_mem_cons.mpr ⟨lw_p1, List.forall_mem_cons.mpr ⟨lw_p2, List.forall_mem_cons.mpr ⟨lw_p3, List.forall_mem_cons.mpr ⟨lw_p4, List.forall_mem_cons.mpr ⟨lw_p5, List.forall_mem_cons.mpr ⟨lw_p6, List.forall_mem_cons.mpr ⟨lw_p7, List.forall_mem_cons.mpr ⟨lw_p8, List.forall_mem_cons.mpr ⟨lw_p9, List.forall_mem_cons.mpr ⟨lw_p10, List.forall_mem_cons.mpr ⟨lw_p11, List.forall_mem_cons.mpr ⟨lw_p12, List.forall_mem_cons.mpr ⟨lw_p13, List.forall_mem_cons.mpr ⟨lw_p14, List.forall_mem_cons.mpr ⟨lw_p15, fun _ h => absurd h List.not_mem_nil⟩⟩⟩⟩⟩⟩⟩⟩⟩⟩⟩⟩⟩⟩⟩⟩
theorem lw_p16 : lw_okq (⟨"CommonForestsModel", "areAlike", "(II)Z"⟩, 10) := ⟨⟨by decide +kernel, by decide +kernel⟩, List.mem_of_getElem? (i := 227) (by decide +kernel), List.mem_of_getElem? (i := 347) (by decide +kernel), List.mem_of_getElem? (i := 348) (by decide +kernel)⟩
theorem lw_p17 : lw_okq (⟨"CommonForestsModel", "commonOf", "(II)I"⟩, 10) := ⟨⟨by decide +kernel, by decide +kernel⟩, List.mem_of_getElem? (i := 227) (by decide +kernel), List.mem_of_getElem? (i := 351) (by decide +kernel), List.mem_of_getElem? (i := 352) (by decide +kernel)⟩
def lw_privs_2 : List (MethodName × Nat) := [(⟨"CommonForestsModel", "areAlike", "(II)Z"⟩, 10), (⟨"CommonForestsModel", "commonOf", "(II)I"⟩, 10)]
theorem lw_r2 : ∀ q ∈ lw_privs_2, lw_okq q := List.forall_mem_cons.mpr ⟨lw_p16, List.forall_mem_cons.mpr ⟨lw_p17, fun _ h => absurd h List.not_mem_nil⟩⟩
def lw_privs : List (MethodName × Nat) := lw_privs_1 ++ (lw_privs_2)
def lw_tbl : List Cond := k2_sels lw_privs ++ tables_1
theorem lw_privs_ok : ∀ q ∈ lw_privs, lw_okq q := by
  show ∀ q ∈ lw_privs_1 ++ (lw_privs_2), lw_okq q
  exact List.forall_mem_append.mpr ⟨lw_r1, lw_r2⟩

def lw_gd : List Cond := lw_tbl.filter goodWord
def RX0 : String := "CommonForests$Forest"
def TX0 : u_T := fun k => match k with
  | 0 => ("CommonForests$Forest", "rows", "[I", true)
  | 1 => ("CommonForests$Forest", "parts", "[I", true)
  | _ => ("CommonForests$Forest", "size", "I", false)
def tyX0 : Nat → FieldType := fun k => match k with
  | 0 => .array .int
  | 1 => .array .int
  | _ => .int
abbrev wsX00 : List Cond := u_ws RX0 TX0 3
theorem nmX0 : ∀ a, a < 3 → ∀ b, b < 3 → a ≠ b → (TX0 a).2.1 ≠ (TX0 b).2.1 := by decide +kernel
theorem tyX0_ok : ∀ k, k < 3 → parseFieldDescriptor (TX0 k).2.2.1 = some (tyX0 k) := by decide +kernel
theorem inX0 : ∀ w ∈ wsX00, w ∈ lw_gd := fun w h => List.mem_filter.mpr ⟨(show ∀ w ∈ wsX00, w ∈ lw_tbl by decide +kernel) w h, (show ∀ w ∈ wsX00, goodWord w = true by decide +kernel) w h⟩
def RX1 : String := "CommonForests$Graph"
def TX1 : u_T := fun k => match k with
  | 0 => ("CommonForests$Graph", "lines", "[I", true)
  | 1 => ("CommonForests$Graph", "weights", "[I", true)
  | 2 => ("CommonForests$Graph", "count", "I", false)
  | 3 => ("CommonForests$Graph", "vertices", "I", false)
  | _ => ("CommonForests$Graph", "open", "Z", false)
def tyX1 : Nat → FieldType := fun k => match k with
  | 0 => .array .int
  | 1 => .array .int
  | 2 => .int
  | 3 => .int
  | _ => .boolean
abbrev wsX10 : List Cond := u_ws RX1 TX1 5
theorem nmX1 : ∀ a, a < 5 → ∀ b, b < 5 → a ≠ b → (TX1 a).2.1 ≠ (TX1 b).2.1 := by decide +kernel
theorem tyX1_ok : ∀ k, k < 5 → parseFieldDescriptor (TX1 k).2.2.1 = some (tyX1 k) := by decide +kernel
theorem inX1 : ∀ w ∈ wsX10, w ∈ lw_gd := fun w h => List.mem_filter.mpr ⟨(show ∀ w ∈ wsX10, w ∈ lw_tbl by decide +kernel) w h, (show ∀ w ∈ wsX10, goodWord w = true by decide +kernel) w h⟩
def RX2 : String := "CommonForests"
def TX2 : u_T := fun k => match k with
  | 0 => ("CommonForests", "graphs", "[LCommonForests$Graph;", true)
  | 1 => ("CommonForests", "first", "LCommonForests$Forest;", true)
  | 2 => ("CommonForests", "second", "LCommonForests$Forest;", true)
  | _ => ("CommonForests", "draft", "[I", true)
def tyX2 : Nat → FieldType := fun k => match k with
  | 0 => .array (.object "CommonForests$Graph")
  | 1 => .object "CommonForests$Forest"
  | 2 => .object "CommonForests$Forest"
  | _ => .array .int
abbrev wsX20 : List Cond := u_ws RX2 TX2 4
theorem nmX2 : ∀ a, a < 4 → ∀ b, b < 4 → a ≠ b → (TX2 a).2.1 ≠ (TX2 b).2.1 := by decide +kernel
theorem tyX2_ok : ∀ k, k < 4 → parseFieldDescriptor (TX2 k).2.2.1 = some (tyX2 k) := by decide +kernel
theorem inX2 : ∀ w ∈ wsX20, w ∈ lw_gd := fun w h => List.mem_filter.mpr ⟨(show ∀ w ∈ wsX20, w ∈ lw_tbl by decide +kernel) w h, (show ∀ w ∈ wsX20, goodWord w = true by decide +kernel) w h⟩
def RX3 : String := "CommonForestsModel"
def TX3 : u_T := fun k => match k with
  | 0 => ("CommonForestsModel", "vertices", "[I", true)
  | 1 => ("CommonForestsModel", "counts", "[I", true)
  | 2 => ("CommonForestsModel", "open", "[Z", true)
  | 3 => ("CommonForestsModel", "ends", "[I", true)
  | 4 => ("CommonForestsModel", "weights", "[I", true)
  | 5 => ("CommonForestsModel", "made", "[I", true)
  | 6 => ("CommonForestsModel", "madeCount", "I", false)
  | 7 => ("CommonForestsModel", "names", "[I", true)
  | 8 => ("CommonForestsModel", "first", "[B", true)
  | _ => ("CommonForestsModel", "second", "[B", true)
def tyX3 : Nat → FieldType := fun k => match k with
  | 0 => .array .int
  | 1 => .array .int
  | 2 => .array .boolean
  | 3 => .array .int
  | 4 => .array .int
  | 5 => .array .int
  | 6 => .int
  | 7 => .array .int
  | 8 => .array .byte
  | _ => .array .byte
abbrev wsX30 : List Cond := u_ws RX3 TX3 10
theorem nmX3 : ∀ a, a < 10 → ∀ b, b < 10 → a ≠ b → (TX3 a).2.1 ≠ (TX3 b).2.1 := by decide +kernel
theorem tyX3_ok : ∀ k, k < 10 → parseFieldDescriptor (TX3 k).2.2.1 = some (tyX3 k) := by decide +kernel
theorem inX3 : ∀ w ∈ wsX30, w ∈ lw_gd := fun w h => List.mem_filter.mpr ⟨(show ∀ w ∈ wsX30, w ∈ lw_tbl by decide +kernel) w h, (show ∀ w ∈ wsX30, goodWord w = true by decide +kernel) w h⟩
def RL : String := "CommonForestsLaw"
def RJ6 : String := "java/lang/Integer"
abbrev vwCl : List vw_C := [(RX0, TX0, 3), (RX1, TX1, 5), (RX2, TX2, 4), (RX3, TX3, 10)]
abbrev cX2_init : ByteArray := prog_1_method_1_code
def yX2_init : MethodName := ⟨RX2, "<init>", "()V"⟩
abbrev cX2_begin : ByteArray := prog_1_method_2_code
def yX2_begin : MethodName := ⟨RX2, "begin", "(II)Z"⟩
abbrev cX2_isGraph : ByteArray := prog_1_method_13_code
def yX2_isGraph : MethodName := ⟨RX2, "isGraph", "(I)Z"⟩
abbrev cX2_add : ByteArray := prog_1_method_3_code
def yX2_add : MethodName := ⟨RX2, "add", "(III)I"⟩
abbrev cX2_weigh : ByteArray := prog_1_method_4_code
def yX2_weigh : MethodName := ⟨RX2, "weigh", "(III)Z"⟩
abbrev cX2_isEdge : ByteArray := prog_1_method_14_code
def yX2_isEdge : MethodName := ⟨RX2, "isEdge", "(II)Z"⟩
abbrev cX2_leave : ByteArray := prog_1_method_5_code
def yX2_leave : MethodName := ⟨RX2, "leave", "(IIIZ)I"⟩
abbrev cX2_isSet : ByteArray := prog_1_method_15_code
def yX2_isSet : MethodName := ⟨RX2, "isSet", "(II)Z"⟩
abbrev cX2_all : ByteArray := prog_1_method_17_code
def yX2_all : MethodName := ⟨RX2, "all", "(I)I"⟩
abbrev cX2_has : ByteArray := prog_1_method_18_code
def yX2_has : MethodName := ⟨RX2, "has", "(II)Z"⟩
abbrev cX2_beside : ByteArray := prog_1_method_6_code
def yX2_beside : MethodName := ⟨RX2, "beside", "(III)I"⟩
abbrev cX2_draftPacked : ByteArray := prog_1_method_19_code
def yX2_draftPacked : MethodName := ⟨RX2, "draftPacked", "(LCommonForests$Graph;II)V"⟩
abbrev cX2_packed : ByteArray := prog_1_method_20_code
def yX2_packed : MethodName := ⟨RX2, "packed", "(II)I"⟩
abbrev cX2_edges : ByteArray := prog_1_method_7_code
def yX2_edges : MethodName := ⟨RX2, "edges", "(I)I"⟩
abbrev cX2_weight : ByteArray := prog_1_method_8_code
def yX2_weight : MethodName := ⟨RX2, "weight", "(II)I"⟩
abbrev cX2_rank : ByteArray := prog_1_method_9_code
def yX2_rank : MethodName := ⟨RX2, "rank", "(II)I"⟩
abbrev cX2_best : ByteArray := prog_1_method_10_code
def yX2_best : MethodName := ⟨RX2, "best", "(I)I"⟩
abbrev cX2_common : ByteArray := prog_1_method_11_code
def yX2_common : MethodName := ⟨RX2, "common", "(II)I"⟩
abbrev cX2_areAlike : ByteArray := prog_1_method_16_code
def yX2_areAlike : MethodName := ⟨RX2, "areAlike", "(II)Z"⟩
abbrev cX2_largestInBoth : ByteArray := prog_1_method_21_code
def yX2_largestInBoth : MethodName := ⟨RX2, "largestInBoth", "(LCommonForests$Graph;LCommonForests$Graph;)I"⟩
abbrev cX2_searched : ByteArray := prog_1_method_22_code
def yX2_searched : MethodName := ⟨RX2, "searched", "(LCommonForests$Graph;LCommonForests$Graph;IIII)I"⟩
abbrev cX2_cover : ByteArray := prog_1_method_12_code
def yX2_cover : MethodName := ⟨RX2, "cover", "(II)I"⟩
abbrev cX2_leastCover : ByteArray := prog_1_method_23_code
def yX2_leastCover : MethodName := ⟨RX2, "leastCover", "(LCommonForests$Graph;LCommonForests$Graph;)I"⟩
abbrev cX2_grown : ByteArray := prog_1_method_24_code
def yX2_grown : MethodName := ⟨RX2, "grown", "(LCommonForests$Graph;LCommonForests$Graph;II)I"⟩
abbrev cX0_init : ByteArray := prog_2_method_1_code
def yX0_init : MethodName := ⟨RX0, "<init>", "()V"⟩
abbrev cX0_fill : ByteArray := prog_2_method_3_code
def yX0_fill : MethodName := ⟨RX0, "fill", "(LCommonForests$Graph;I)I"⟩
abbrev cX0_clear : ByteArray := prog_2_method_2_code
def yX0_clear : MethodName := ⟨RX0, "clear", "()V"⟩
abbrev cX0_takes : ByteArray := prog_2_method_4_code
def yX0_takes : MethodName := ⟨RX0, "takes", "(II)Z"⟩
abbrev cX0_rest : ByteArray := prog_2_method_6_code
def yX0_rest : MethodName := ⟨RX0, "rest", "(I)I"⟩
abbrev cX0_way : ByteArray := prog_2_method_7_code
def yX0_way : MethodName := ⟨RX0, "way", "(I)I"⟩
abbrev cX0_drop : ByteArray := prog_2_method_5_code
def yX0_drop : MethodName := ⟨RX0, "drop", "()V"⟩
abbrev cX1_init : ByteArray := prog_3_method_1_code
def yX1_init : MethodName := ⟨RX1, "<init>", "()V"⟩
abbrev cX1_restart : ByteArray := prog_3_method_2_code
def yX1_restart : MethodName := ⟨RX1, "restart", "(I)V"⟩
abbrev cX1_canMeet : ByteArray := prog_3_method_3_code
def yX1_canMeet : MethodName := ⟨RX1, "canMeet", "(I)Z"⟩
abbrev cX1_append : ByteArray := prog_3_method_4_code
def yX1_append : MethodName := ⟨RX1, "append", "(I)I"⟩
abbrev cX1_become : ByteArray := prog_3_method_5_code
def yX1_become : MethodName := ⟨RX1, "become", "([II)V"⟩
abbrev cX1_met : ByteArray := prog_3_method_6_code
def yX1_met : MethodName := ⟨RX1, "met", "()I"⟩
abbrev cX1_heaviest : ByteArray := prog_3_method_7_code
def yX1_heaviest : MethodName := ⟨RX1, "heaviest", "(I)I"⟩
abbrev cJ6_bitCount : ByteArray := prog_6_method_49_code
def yJ6_bitCount : MethodName := ⟨RJ6, "bitCount", "(I)I"⟩
abbrev cX3_init : ByteArray := prog_5_method_1_code
def yX3_init : MethodName := ⟨RX3, "<init>", "()V"⟩
abbrev cX3_begin : ByteArray := prog_5_method_9_code
def yX3_begin : MethodName := ⟨RX3, "begin", "(II)Z"⟩
abbrev cX3_isGraph : ByteArray := prog_5_method_3_code
def yX3_isGraph : MethodName := ⟨RX3, "isGraph", "(I)Z"⟩
abbrev cX3_add : ByteArray := prog_5_method_10_code
def yX3_add : MethodName := ⟨RX3, "add", "(III)I"⟩
abbrev cX3_weigh : ByteArray := prog_5_method_11_code
def yX3_weigh : MethodName := ⟨RX3, "weigh", "(III)Z"⟩
abbrev cX3_isEdge : ByteArray := prog_5_method_4_code
def yX3_isEdge : MethodName := ⟨RX3, "isEdge", "(II)Z"⟩
abbrev cX3_leave : ByteArray := prog_5_method_14_code
def yX3_leave : MethodName := ⟨RX3, "leave", "(IIIZ)I"⟩
abbrev cX3_isSet : ByteArray := prog_5_method_6_code
def yX3_isSet : MethodName := ⟨RX3, "isSet", "(II)Z"⟩
abbrev cX3_whole : ByteArray := prog_5_method_5_code
def yX3_whole : MethodName := ⟨RX3, "whole", "(I)I"⟩
abbrev cX3_join : ByteArray := prog_5_method_17_code
def yX3_join : MethodName := ⟨RX3, "join", "(II)I"⟩
abbrev cX3_lay : ByteArray := prog_5_method_12_code
def yX3_lay : MethodName := ⟨RX3, "lay", "(II)V"⟩
abbrev cX3_keep : ByteArray := prog_5_method_13_code
def yX3_keep : MethodName := ⟨RX3, "keep", "(II)I"⟩
abbrev cX3_beside : ByteArray := prog_5_method_15_code
def yX3_beside : MethodName := ⟨RX3, "beside", "(III)I"⟩
abbrev cX3_number : ByteArray := prog_5_method_16_code
def yX3_number : MethodName := ⟨RX3, "number", "(II)I"⟩
abbrev cX3_edges : ByteArray := prog_5_method_19_code
def yX3_edges : MethodName := ⟨RX3, "edges", "(I)I"⟩
abbrev cX3_weight : ByteArray := prog_5_method_20_code
def yX3_weight : MethodName := ⟨RX3, "weight", "(II)I"⟩
abbrev cX3_rank : ByteArray := prog_5_method_21_code
def yX3_rank : MethodName := ⟨RX3, "rank", "(II)I"⟩
abbrev cX3_best : ByteArray := prog_5_method_22_code
def yX3_best : MethodName := ⟨RX3, "best", "(I)I"⟩
abbrev cX3_measure : ByteArray := prog_5_method_18_code
def yX3_measure : MethodName := ⟨RX3, "measure", "(I[B)V"⟩
abbrev cX3_size : ByteArray := prog_5_method_7_code
def yX3_size : MethodName := ⟨RX3, "size", "(I)I"⟩
abbrev cX3_comesFirst : ByteArray := prog_5_method_8_code
def yX3_comesFirst : MethodName := ⟨RX3, "comesFirst", "(II)Z"⟩
abbrev cX3_common : ByteArray := prog_5_method_25_code
def yX3_common : MethodName := ⟨RX3, "common", "(II)I"⟩
abbrev cX3_areAlike : ByteArray := prog_5_method_24_code
def yX3_areAlike : MethodName := ⟨RX3, "areAlike", "(II)Z"⟩
abbrev cX3_commonOf : ByteArray := prog_5_method_23_code
def yX3_commonOf : MethodName := ⟨RX3, "commonOf", "(II)I"⟩
abbrev cX3_cover : ByteArray := prog_5_method_26_code
def yX3_cover : MethodName := ⟨RX3, "cover", "(II)I"⟩
end
section
theorem tw_0 : Cond.selects RX2 yX2_isEdge yX2_isEdge ∈ lw_gd := List.mem_filter.mpr ⟨List.mem_of_getElem? (i := 0) (by decide +kernel), by decide +kernel⟩
theorem tw_1 : Cond.selects RX2 yX2_isSet yX2_isSet ∈ lw_gd := List.mem_filter.mpr ⟨List.mem_of_getElem? (i := 1) (by decide +kernel), by decide +kernel⟩
theorem tw_2 : Cond.selects RX2 yX2_draftPacked yX2_draftPacked ∈ lw_gd := List.mem_filter.mpr ⟨List.mem_of_getElem? (i := 2) (by decide +kernel), by decide +kernel⟩
theorem tw_3 : Cond.selects RX2 yX2_areAlike yX2_areAlike ∈ lw_gd := List.mem_filter.mpr ⟨List.mem_of_getElem? (i := 3) (by decide +kernel), by decide +kernel⟩
theorem tw_4 : Cond.selects RX2 yX2_largestInBoth yX2_largestInBoth ∈ lw_gd := List.mem_filter.mpr ⟨List.mem_of_getElem? (i := 4) (by decide +kernel), by decide +kernel⟩
theorem tw_5 : Cond.selects RX2 yX2_searched yX2_searched ∈ lw_gd := List.mem_filter.mpr ⟨List.mem_of_getElem? (i := 5) (by decide +kernel), by decide +kernel⟩
theorem tw_6 : Cond.selects RX2 yX2_leastCover yX2_leastCover ∈ lw_gd := List.mem_filter.mpr ⟨List.mem_of_getElem? (i := 6) (by decide +kernel), by decide +kernel⟩
theorem tw_7 : Cond.selects RX2 yX2_grown yX2_grown ∈ lw_gd := List.mem_filter.mpr ⟨List.mem_of_getElem? (i := 7) (by decide +kernel), by decide +kernel⟩
theorem tw_8 : Cond.selects RX3 yX3_isEdge yX3_isEdge ∈ lw_gd := List.mem_filter.mpr ⟨List.mem_of_getElem? (i := 8) (by decide +kernel), by decide +kernel⟩
theorem tw_9 : Cond.selects RX3 yX3_isSet yX3_isSet ∈ lw_gd := List.mem_filter.mpr ⟨List.mem_of_getElem? (i := 9) (by decide +kernel), by decide +kernel⟩
theorem tw_10 : Cond.selects RX3 yX3_whole yX3_whole ∈ lw_gd := List.mem_filter.mpr ⟨List.mem_of_getElem? (i := 10) (by decide +kernel), by decide +kernel⟩
theorem tw_11 : Cond.selects RX3 yX3_join yX3_join ∈ lw_gd := List.mem_filter.mpr ⟨List.mem_of_getElem? (i := 11) (by decide +kernel), by decide +kernel⟩
theorem tw_12 : Cond.selects RX3 yX3_lay yX3_lay ∈ lw_gd := List.mem_filter.mpr ⟨List.mem_of_getElem? (i := 12) (by decide +kernel), by decide +kernel⟩
theorem tw_13 : Cond.selects RX3 yX3_keep yX3_keep ∈ lw_gd := List.mem_filter.mpr ⟨List.mem_of_getElem? (i := 13) (by decide +kernel), by decide +kernel⟩
theorem tw_14 : Cond.selects RX3 yX3_number yX3_number ∈ lw_gd := List.mem_filter.mpr ⟨List.mem_of_getElem? (i := 14) (by decide +kernel), by decide +kernel⟩
theorem tw_15 : Cond.selects RX3 yX3_measure yX3_measure ∈ lw_gd := List.mem_filter.mpr ⟨List.mem_of_getElem? (i := 15) (by decide +kernel), by decide +kernel⟩
theorem tw_16 : Cond.selects RX3 yX3_areAlike yX3_areAlike ∈ lw_gd := List.mem_filter.mpr ⟨List.mem_of_getElem? (i := 16) (by decide +kernel), by decide +kernel⟩
theorem tw_17 : Cond.selects RX3 yX3_commonOf yX3_commonOf ∈ lw_gd := List.mem_filter.mpr ⟨List.mem_of_getElem? (i := 17) (by decide +kernel), by decide +kernel⟩
theorem tw_18 : Cond.initialized RL ∈ lw_gd := List.mem_filter.mpr ⟨List.mem_of_getElem? (i := 18) (by decide +kernel), by decide +kernel⟩
theorem tw_19 : Cond.initialized RX2 ∈ lw_gd := List.mem_filter.mpr ⟨List.mem_of_getElem? (i := 19) (by decide +kernel), by decide +kernel⟩
theorem tw_20 : Cond.initialized RX0 ∈ lw_gd := List.mem_filter.mpr ⟨List.mem_of_getElem? (i := 20) (by decide +kernel), by decide +kernel⟩
theorem tw_21 : Cond.initialized RX1 ∈ lw_gd := List.mem_filter.mpr ⟨List.mem_of_getElem? (i := 21) (by decide +kernel), by decide +kernel⟩
theorem tw_22 : Cond.initialized RX3 ∈ lw_gd := List.mem_filter.mpr ⟨List.mem_of_getElem? (i := 22) (by decide +kernel), by decide +kernel⟩
theorem tw_23 : Cond.initialized "java/lang/Math" ∈ lw_gd := List.mem_filter.mpr ⟨List.mem_of_getElem? (i := 23) (by decide +kernel), by decide +kernel⟩
theorem tw_24 : Cond.initialized RJ6 ∈ lw_gd := List.mem_filter.mpr ⟨List.mem_of_getElem? (i := 24) (by decide +kernel), by decide +kernel⟩
theorem tw_25 : Cond.classLink RL 7 RX2 ∈ lw_gd := List.mem_filter.mpr ⟨List.mem_of_getElem? (i := 25) (by decide +kernel), by decide +kernel⟩
theorem tw_26 : Cond.instantiable RX2 4 ∈ lw_gd := List.mem_filter.mpr ⟨List.mem_of_getElem? (i := 26) (by decide +kernel), by decide +kernel⟩
theorem tw_27 : Cond.methodLink RL 9 yX2_init ∈ lw_gd := List.mem_filter.mpr ⟨List.mem_of_getElem? (i := 27) (by decide +kernel), by decide +kernel⟩
theorem tw_28 : Cond.instanceMethod yX2_init ∈ lw_gd := List.mem_filter.mpr ⟨List.mem_of_getElem? (i := 28) (by decide +kernel), by decide +kernel⟩
theorem tw_29 : Cond.code yX2_init cX2_init 2 none ∈ lw_gd := List.mem_filter.mpr ⟨List.mem_of_getElem? (i := 29) (by decide +kernel), by decide +kernel⟩
theorem tw_30 : Cond.methodLink RX2 1 Lib.objectInit ∈ lw_gd := List.mem_filter.mpr ⟨List.mem_of_getElem? (i := 30) (by decide +kernel), by decide +kernel⟩
theorem tw_31 : Cond.instanceMethod Lib.objectInit ∈ lw_gd := List.mem_filter.mpr ⟨List.mem_of_getElem? (i := 31) (by decide +kernel), by decide +kernel⟩
theorem tw_32 : Cond.code Lib.objectInit object_method_1_code 1 none ∈ lw_gd := List.mem_filter.mpr ⟨List.mem_of_getElem? (i := 32) (by decide +kernel), by decide +kernel⟩
theorem tw_33 : Cond.classLink RX2 9 RX1 ∈ lw_gd := List.mem_filter.mpr ⟨List.mem_of_getElem? (i := 33) (by decide +kernel), by decide +kernel⟩
theorem tw_34 : Cond.arrayOver (.object RX1) ∈ lw_tbl := List.mem_of_getElem? (i := 34) (by decide +kernel)
theorem tw_35 : Cond.classLink RX2 15 RX0 ∈ lw_gd := List.mem_filter.mpr ⟨List.mem_of_getElem? (i := 35) (by decide +kernel), by decide +kernel⟩
theorem tw_36 : Cond.instantiable RX0 3 ∈ lw_gd := List.mem_filter.mpr ⟨List.mem_of_getElem? (i := 36) (by decide +kernel), by decide +kernel⟩
theorem tw_37 : Cond.methodLinkNest RX2 17 yX0_init RX2 ∈ lw_tbl := List.mem_of_getElem? (i := 37) (by decide +kernel)
theorem tw_38 : Cond.instanceMethod yX0_init ∈ lw_gd := List.mem_filter.mpr ⟨List.mem_of_getElem? (i := 38) (by decide +kernel), by decide +kernel⟩
theorem tw_39 : Cond.code yX0_init cX0_init 1 none ∈ lw_gd := List.mem_filter.mpr ⟨List.mem_of_getElem? (i := 39) (by decide +kernel), by decide +kernel⟩
theorem tw_40 : Cond.methodLink RX0 3 Lib.objectInit ∈ lw_gd := List.mem_filter.mpr ⟨List.mem_of_getElem? (i := 40) (by decide +kernel), by decide +kernel⟩
theorem tw_41 : Cond.fieldLink RX0 9 RX0 "rows" "[I" ∈ lw_gd := List.mem_filter.mpr ⟨List.mem_of_getElem? (i := 41) (by decide +kernel), by decide +kernel⟩
theorem tw_42 : Cond.fieldLink RX0 15 RX0 "parts" "[I" ∈ lw_gd := List.mem_filter.mpr ⟨List.mem_of_getElem? (i := 42) (by decide +kernel), by decide +kernel⟩
theorem tw_43 : Cond.fieldLink RX0 18 RX0 "size" "I" ∈ lw_gd := List.mem_filter.mpr ⟨List.mem_of_getElem? (i := 43) (by decide +kernel), by decide +kernel⟩
theorem tw_44 : Cond.laysFinal RX0 RX0 "rows" "[I" ∈ lw_gd := List.mem_filter.mpr ⟨List.mem_of_getElem? (i := 44) (by decide +kernel), by decide +kernel⟩
theorem tw_46 : Cond.laysFinal RX0 RX0 "parts" "[I" ∈ lw_gd := List.mem_filter.mpr ⟨List.mem_of_getElem? (i := 46) (by decide +kernel), by decide +kernel⟩
theorem tw_48 : Cond.lays RX0 RX0 "size" "I" ∈ lw_gd := List.mem_filter.mpr ⟨List.mem_of_getElem? (i := 48) (by decide +kernel), by decide +kernel⟩
theorem tw_51 : Cond.arrayClass .int ∈ lw_gd := List.mem_filter.mpr ⟨List.mem_of_getElem? (i := 51) (by decide +kernel), by decide +kernel⟩
theorem tw_52 : Cond.instantiable RX1 5 ∈ lw_gd := List.mem_filter.mpr ⟨List.mem_of_getElem? (i := 52) (by decide +kernel), by decide +kernel⟩
theorem tw_53 : Cond.methodLinkNest RX2 29 yX1_init RX2 ∈ lw_tbl := List.mem_of_getElem? (i := 53) (by decide +kernel)
theorem tw_54 : Cond.instanceMethod yX1_init ∈ lw_gd := List.mem_filter.mpr ⟨List.mem_of_getElem? (i := 54) (by decide +kernel), by decide +kernel⟩
theorem tw_55 : Cond.code yX1_init cX1_init 1 none ∈ lw_gd := List.mem_filter.mpr ⟨List.mem_of_getElem? (i := 55) (by decide +kernel), by decide +kernel⟩
theorem tw_56 : Cond.methodLink RX1 3 Lib.objectInit ∈ lw_gd := List.mem_filter.mpr ⟨List.mem_of_getElem? (i := 56) (by decide +kernel), by decide +kernel⟩
theorem tw_57 : Cond.fieldLink RX1 9 RX1 "lines" "[I" ∈ lw_gd := List.mem_filter.mpr ⟨List.mem_of_getElem? (i := 57) (by decide +kernel), by decide +kernel⟩
theorem tw_58 : Cond.fieldLink RX0 34 RX1 "lines" "[I" ∈ lw_gd := List.mem_filter.mpr ⟨List.mem_of_getElem? (i := 58) (by decide +kernel), by decide +kernel⟩
theorem tw_59 : Cond.fieldLink RX2 66 RX1 "lines" "[I" ∈ lw_gd := List.mem_filter.mpr ⟨List.mem_of_getElem? (i := 59) (by decide +kernel), by decide +kernel⟩
theorem tw_60 : Cond.fieldLink RX1 15 RX1 "weights" "[I" ∈ lw_gd := List.mem_filter.mpr ⟨List.mem_of_getElem? (i := 60) (by decide +kernel), by decide +kernel⟩
theorem tw_61 : Cond.fieldLink RX2 49 RX1 "weights" "[I" ∈ lw_gd := List.mem_filter.mpr ⟨List.mem_of_getElem? (i := 61) (by decide +kernel), by decide +kernel⟩
theorem tw_62 : Cond.fieldLink RX1 18 RX1 "count" "I" ∈ lw_gd := List.mem_filter.mpr ⟨List.mem_of_getElem? (i := 62) (by decide +kernel), by decide +kernel⟩
theorem tw_63 : Cond.fieldLink RX0 25 RX1 "count" "I" ∈ lw_gd := List.mem_filter.mpr ⟨List.mem_of_getElem? (i := 63) (by decide +kernel), by decide +kernel⟩
theorem tw_64 : Cond.fieldLink RX2 59 RX1 "count" "I" ∈ lw_gd := List.mem_filter.mpr ⟨List.mem_of_getElem? (i := 64) (by decide +kernel), by decide +kernel⟩
theorem tw_65 : Cond.fieldLink RX1 22 RX1 "vertices" "I" ∈ lw_gd := List.mem_filter.mpr ⟨List.mem_of_getElem? (i := 65) (by decide +kernel), by decide +kernel⟩
theorem tw_66 : Cond.fieldLink RX1 25 RX1 "open" "Z" ∈ lw_gd := List.mem_filter.mpr ⟨List.mem_of_getElem? (i := 66) (by decide +kernel), by decide +kernel⟩
theorem tw_67 : Cond.laysFinal RX1 RX1 "lines" "[I" ∈ lw_gd := List.mem_filter.mpr ⟨List.mem_of_getElem? (i := 67) (by decide +kernel), by decide +kernel⟩
theorem tw_69 : Cond.laysFinal RX1 RX1 "weights" "[I" ∈ lw_gd := List.mem_filter.mpr ⟨List.mem_of_getElem? (i := 69) (by decide +kernel), by decide +kernel⟩
theorem tw_71 : Cond.lays RX1 RX1 "count" "I" ∈ lw_gd := List.mem_filter.mpr ⟨List.mem_of_getElem? (i := 71) (by decide +kernel), by decide +kernel⟩
theorem tw_73 : Cond.lays RX1 RX1 "vertices" "I" ∈ lw_gd := List.mem_filter.mpr ⟨List.mem_of_getElem? (i := 73) (by decide +kernel), by decide +kernel⟩
theorem tw_75 : Cond.lays RX1 RX1 "open" "Z" ∈ lw_gd := List.mem_filter.mpr ⟨List.mem_of_getElem? (i := 75) (by decide +kernel), by decide +kernel⟩
theorem tw_78 : Cond.fieldLink RX2 11 RX2 "graphs" "[LCommonForests$Graph;" ∈ lw_gd := List.mem_filter.mpr ⟨List.mem_of_getElem? (i := 78) (by decide +kernel), by decide +kernel⟩
theorem tw_79 : Cond.fieldLink RX2 18 RX2 "first" "LCommonForests$Forest;" ∈ lw_gd := List.mem_filter.mpr ⟨List.mem_of_getElem? (i := 79) (by decide +kernel), by decide +kernel⟩
theorem tw_80 : Cond.fieldLink RX2 22 RX2 "second" "LCommonForests$Forest;" ∈ lw_gd := List.mem_filter.mpr ⟨List.mem_of_getElem? (i := 80) (by decide +kernel), by decide +kernel⟩
theorem tw_81 : Cond.fieldLink RX2 25 RX2 "draft" "[I" ∈ lw_gd := List.mem_filter.mpr ⟨List.mem_of_getElem? (i := 81) (by decide +kernel), by decide +kernel⟩
theorem tw_82 : Cond.laysFinal RX2 RX2 "graphs" "[LCommonForests$Graph;" ∈ lw_gd := List.mem_filter.mpr ⟨List.mem_of_getElem? (i := 82) (by decide +kernel), by decide +kernel⟩
theorem tw_84 : Cond.laysFinal RX2 RX2 "first" "LCommonForests$Forest;" ∈ lw_gd := List.mem_filter.mpr ⟨List.mem_of_getElem? (i := 84) (by decide +kernel), by decide +kernel⟩
theorem tw_86 : Cond.laysFinal RX2 RX2 "second" "LCommonForests$Forest;" ∈ lw_gd := List.mem_filter.mpr ⟨List.mem_of_getElem? (i := 86) (by decide +kernel), by decide +kernel⟩
theorem tw_88 : Cond.laysFinal RX2 RX2 "draft" "[I" ∈ lw_gd := List.mem_filter.mpr ⟨List.mem_of_getElem? (i := 88) (by decide +kernel), by decide +kernel⟩
theorem tw_91 : Cond.methodLink RL 13 yX2_begin ∈ lw_gd := List.mem_filter.mpr ⟨List.mem_of_getElem? (i := 91) (by decide +kernel), by decide +kernel⟩
theorem tw_92 : Cond.instanceMethod yX2_begin ∈ lw_gd := List.mem_filter.mpr ⟨List.mem_of_getElem? (i := 92) (by decide +kernel), by decide +kernel⟩
theorem tw_93 : Cond.selects RX2 yX2_begin yX2_begin ∈ lw_gd := List.mem_filter.mpr ⟨List.mem_of_getElem? (i := 93) (by decide +kernel), by decide +kernel⟩
theorem tw_94 : Cond.code yX2_begin cX2_begin 3 (some .boolean) ∈ lw_gd := List.mem_filter.mpr ⟨List.mem_of_getElem? (i := 94) (by decide +kernel), by decide +kernel⟩
theorem tw_95 : Cond.methodLink RX2 30 yX2_isGraph ∈ lw_gd := List.mem_filter.mpr ⟨List.mem_of_getElem? (i := 95) (by decide +kernel), by decide +kernel⟩
theorem tw_96 : Cond.static yX2_isGraph ∈ lw_gd := List.mem_filter.mpr ⟨List.mem_of_getElem? (i := 96) (by decide +kernel), by decide +kernel⟩
theorem tw_97 : Cond.code yX2_isGraph cX2_isGraph 1 (some .boolean) ∈ lw_gd := List.mem_filter.mpr ⟨List.mem_of_getElem? (i := 97) (by decide +kernel), by decide +kernel⟩
theorem tw_98 : Cond.methodLink RX2 34 yX1_restart ∈ lw_gd := List.mem_filter.mpr ⟨List.mem_of_getElem? (i := 98) (by decide +kernel), by decide +kernel⟩
theorem tw_99 : Cond.instanceMethod yX1_restart ∈ lw_gd := List.mem_filter.mpr ⟨List.mem_of_getElem? (i := 99) (by decide +kernel), by decide +kernel⟩
theorem tw_100 : Cond.selects RX1 yX1_restart yX1_restart ∈ lw_gd := List.mem_filter.mpr ⟨List.mem_of_getElem? (i := 100) (by decide +kernel), by decide +kernel⟩
theorem tw_101 : Cond.code yX1_restart cX1_restart 2 none ∈ lw_gd := List.mem_filter.mpr ⟨List.mem_of_getElem? (i := 101) (by decide +kernel), by decide +kernel⟩
theorem tw_102 : Cond.methodLink RL 18 yX2_add ∈ lw_gd := List.mem_filter.mpr ⟨List.mem_of_getElem? (i := 102) (by decide +kernel), by decide +kernel⟩
theorem tw_103 : Cond.instanceMethod yX2_add ∈ lw_gd := List.mem_filter.mpr ⟨List.mem_of_getElem? (i := 103) (by decide +kernel), by decide +kernel⟩
theorem tw_104 : Cond.selects RX2 yX2_add yX2_add ∈ lw_gd := List.mem_filter.mpr ⟨List.mem_of_getElem? (i := 104) (by decide +kernel), by decide +kernel⟩
theorem tw_105 : Cond.code yX2_add cX2_add 6 (some .int) ∈ lw_gd := List.mem_filter.mpr ⟨List.mem_of_getElem? (i := 105) (by decide +kernel), by decide +kernel⟩
theorem tw_106 : Cond.methodLink RX2 38 yX1_canMeet ∈ lw_gd := List.mem_filter.mpr ⟨List.mem_of_getElem? (i := 106) (by decide +kernel), by decide +kernel⟩
theorem tw_107 : Cond.instanceMethod yX1_canMeet ∈ lw_gd := List.mem_filter.mpr ⟨List.mem_of_getElem? (i := 107) (by decide +kernel), by decide +kernel⟩
theorem tw_108 : Cond.selects RX1 yX1_canMeet yX1_canMeet ∈ lw_gd := List.mem_filter.mpr ⟨List.mem_of_getElem? (i := 108) (by decide +kernel), by decide +kernel⟩
theorem tw_109 : Cond.code yX1_canMeet cX1_canMeet 2 (some .boolean) ∈ lw_gd := List.mem_filter.mpr ⟨List.mem_of_getElem? (i := 109) (by decide +kernel), by decide +kernel⟩
theorem tw_110 : Cond.methodLink RX2 41 yX1_append ∈ lw_gd := List.mem_filter.mpr ⟨List.mem_of_getElem? (i := 110) (by decide +kernel), by decide +kernel⟩
theorem tw_111 : Cond.instanceMethod yX1_append ∈ lw_gd := List.mem_filter.mpr ⟨List.mem_of_getElem? (i := 111) (by decide +kernel), by decide +kernel⟩
theorem tw_112 : Cond.selects RX1 yX1_append yX1_append ∈ lw_gd := List.mem_filter.mpr ⟨List.mem_of_getElem? (i := 112) (by decide +kernel), by decide +kernel⟩
theorem tw_113 : Cond.code yX1_append cX1_append 2 (some .int) ∈ lw_gd := List.mem_filter.mpr ⟨List.mem_of_getElem? (i := 113) (by decide +kernel), by decide +kernel⟩
theorem tw_114 : Cond.methodLink RL 23 yX2_weigh ∈ lw_gd := List.mem_filter.mpr ⟨List.mem_of_getElem? (i := 114) (by decide +kernel), by decide +kernel⟩
theorem tw_115 : Cond.instanceMethod yX2_weigh ∈ lw_gd := List.mem_filter.mpr ⟨List.mem_of_getElem? (i := 115) (by decide +kernel), by decide +kernel⟩
theorem tw_116 : Cond.selects RX2 yX2_weigh yX2_weigh ∈ lw_gd := List.mem_filter.mpr ⟨List.mem_of_getElem? (i := 116) (by decide +kernel), by decide +kernel⟩
theorem tw_117 : Cond.code yX2_weigh cX2_weigh 4 (some .boolean) ∈ lw_gd := List.mem_filter.mpr ⟨List.mem_of_getElem? (i := 117) (by decide +kernel), by decide +kernel⟩
theorem tw_118 : Cond.methodLink RX2 45 yX2_isEdge ∈ lw_gd := List.mem_filter.mpr ⟨List.mem_of_getElem? (i := 118) (by decide +kernel), by decide +kernel⟩
theorem tw_119 : Cond.privateMethod yX2_isEdge ∈ lw_tbl := List.mem_of_getElem? (i := 119) (by decide +kernel)
theorem tw_120 : Cond.instanceMethod yX2_isEdge ∈ lw_gd := List.mem_filter.mpr ⟨List.mem_of_getElem? (i := 120) (by decide +kernel), by decide +kernel⟩
theorem tw_121 : Cond.code yX2_isEdge cX2_isEdge 3 (some .boolean) ∈ lw_gd := List.mem_filter.mpr ⟨List.mem_of_getElem? (i := 121) (by decide +kernel), by decide +kernel⟩
theorem tw_122 : Cond.methodLink RL 28 yX2_leave ∈ lw_gd := List.mem_filter.mpr ⟨List.mem_of_getElem? (i := 122) (by decide +kernel), by decide +kernel⟩
theorem tw_123 : Cond.instanceMethod yX2_leave ∈ lw_gd := List.mem_filter.mpr ⟨List.mem_of_getElem? (i := 123) (by decide +kernel), by decide +kernel⟩
theorem tw_124 : Cond.selects RX2 yX2_leave yX2_leave ∈ lw_gd := List.mem_filter.mpr ⟨List.mem_of_getElem? (i := 124) (by decide +kernel), by decide +kernel⟩
theorem tw_125 : Cond.code yX2_leave cX2_leave 8 (some .int) ∈ lw_gd := List.mem_filter.mpr ⟨List.mem_of_getElem? (i := 125) (by decide +kernel), by decide +kernel⟩
theorem tw_126 : Cond.methodLink RX2 52 yX2_isSet ∈ lw_gd := List.mem_filter.mpr ⟨List.mem_of_getElem? (i := 126) (by decide +kernel), by decide +kernel⟩
theorem tw_127 : Cond.privateMethod yX2_isSet ∈ lw_tbl := List.mem_of_getElem? (i := 127) (by decide +kernel)
theorem tw_128 : Cond.instanceMethod yX2_isSet ∈ lw_gd := List.mem_filter.mpr ⟨List.mem_of_getElem? (i := 128) (by decide +kernel), by decide +kernel⟩
theorem tw_129 : Cond.code yX2_isSet cX2_isSet 3 (some .boolean) ∈ lw_gd := List.mem_filter.mpr ⟨List.mem_of_getElem? (i := 129) (by decide +kernel), by decide +kernel⟩
theorem tw_130 : Cond.methodLink RX2 89 yX2_all ∈ lw_gd := List.mem_filter.mpr ⟨List.mem_of_getElem? (i := 130) (by decide +kernel), by decide +kernel⟩
theorem tw_131 : Cond.static yX2_all ∈ lw_gd := List.mem_filter.mpr ⟨List.mem_of_getElem? (i := 131) (by decide +kernel), by decide +kernel⟩
theorem tw_132 : Cond.code yX2_all cX2_all 1 (some .int) ∈ lw_gd := List.mem_filter.mpr ⟨List.mem_of_getElem? (i := 132) (by decide +kernel), by decide +kernel⟩
theorem tw_133 : Cond.methodLink RX2 55 yX0_fill ∈ lw_gd := List.mem_filter.mpr ⟨List.mem_of_getElem? (i := 133) (by decide +kernel), by decide +kernel⟩
theorem tw_134 : Cond.instanceMethod yX0_fill ∈ lw_gd := List.mem_filter.mpr ⟨List.mem_of_getElem? (i := 134) (by decide +kernel), by decide +kernel⟩
theorem tw_135 : Cond.selects RX0 yX0_fill yX0_fill ∈ lw_gd := List.mem_filter.mpr ⟨List.mem_of_getElem? (i := 135) (by decide +kernel), by decide +kernel⟩
theorem tw_136 : Cond.code yX0_fill cX0_fill 4 (some .int) ∈ lw_gd := List.mem_filter.mpr ⟨List.mem_of_getElem? (i := 136) (by decide +kernel), by decide +kernel⟩
theorem tw_137 : Cond.methodLink RX0 22 yX0_clear ∈ lw_gd := List.mem_filter.mpr ⟨List.mem_of_getElem? (i := 137) (by decide +kernel), by decide +kernel⟩
theorem tw_138 : Cond.instanceMethod yX0_clear ∈ lw_gd := List.mem_filter.mpr ⟨List.mem_of_getElem? (i := 138) (by decide +kernel), by decide +kernel⟩
theorem tw_139 : Cond.selects RX0 yX0_clear yX0_clear ∈ lw_gd := List.mem_filter.mpr ⟨List.mem_of_getElem? (i := 139) (by decide +kernel), by decide +kernel⟩
theorem tw_140 : Cond.code yX0_clear cX0_clear 1 none ∈ lw_gd := List.mem_filter.mpr ⟨List.mem_of_getElem? (i := 140) (by decide +kernel), by decide +kernel⟩
theorem tw_141 : Cond.methodLinkNest RX0 30 yX2_has RX2 ∈ lw_tbl := List.mem_of_getElem? (i := 141) (by decide +kernel)
theorem tw_142 : Cond.static yX2_has ∈ lw_gd := List.mem_filter.mpr ⟨List.mem_of_getElem? (i := 142) (by decide +kernel), by decide +kernel⟩
theorem tw_143 : Cond.code yX2_has cX2_has 2 (some .boolean) ∈ lw_gd := List.mem_filter.mpr ⟨List.mem_of_getElem? (i := 143) (by decide +kernel), by decide +kernel⟩
theorem tw_144 : Cond.methodLink RX0 37 yX0_takes ∈ lw_gd := List.mem_filter.mpr ⟨List.mem_of_getElem? (i := 144) (by decide +kernel), by decide +kernel⟩
theorem tw_145 : Cond.instanceMethod yX0_takes ∈ lw_gd := List.mem_filter.mpr ⟨List.mem_of_getElem? (i := 145) (by decide +kernel), by decide +kernel⟩
theorem tw_146 : Cond.selects RX0 yX0_takes yX0_takes ∈ lw_gd := List.mem_filter.mpr ⟨List.mem_of_getElem? (i := 146) (by decide +kernel), by decide +kernel⟩
theorem tw_147 : Cond.code yX0_takes cX0_takes 4 (some .boolean) ∈ lw_gd := List.mem_filter.mpr ⟨List.mem_of_getElem? (i := 147) (by decide +kernel), by decide +kernel⟩
theorem tw_148 : Cond.methodLink RX0 40 yX0_rest ∈ lw_gd := List.mem_filter.mpr ⟨List.mem_of_getElem? (i := 148) (by decide +kernel), by decide +kernel⟩
theorem tw_149 : Cond.instanceMethod yX0_rest ∈ lw_gd := List.mem_filter.mpr ⟨List.mem_of_getElem? (i := 149) (by decide +kernel), by decide +kernel⟩
theorem tw_150 : Cond.selects RX0 yX0_rest yX0_rest ∈ lw_gd := List.mem_filter.mpr ⟨List.mem_of_getElem? (i := 150) (by decide +kernel), by decide +kernel⟩
theorem tw_151 : Cond.code yX0_rest cX0_rest 4 (some .int) ∈ lw_gd := List.mem_filter.mpr ⟨List.mem_of_getElem? (i := 151) (by decide +kernel), by decide +kernel⟩
theorem tw_152 : Cond.methodLink RX0 47 Lib.Math.min.name ∈ lw_gd := List.mem_filter.mpr ⟨List.mem_of_getElem? (i := 152) (by decide +kernel), by decide +kernel⟩
theorem tw_153 : Cond.static Lib.Math.min.name ∈ lw_gd := List.mem_filter.mpr ⟨List.mem_of_getElem? (i := 153) (by decide +kernel), by decide +kernel⟩
theorem tw_154 : Cond.code Lib.Math.min.name prog_7_method_69_code 2 (some .int) ∈ lw_gd := List.mem_filter.mpr ⟨List.mem_of_getElem? (i := 154) (by decide +kernel), by decide +kernel⟩
theorem tw_155 : Cond.methodLink RX0 44 yX0_way ∈ lw_gd := List.mem_filter.mpr ⟨List.mem_of_getElem? (i := 155) (by decide +kernel), by decide +kernel⟩
theorem tw_156 : Cond.instanceMethod yX0_way ∈ lw_gd := List.mem_filter.mpr ⟨List.mem_of_getElem? (i := 156) (by decide +kernel), by decide +kernel⟩
theorem tw_157 : Cond.selects RX0 yX0_way yX0_way ∈ lw_gd := List.mem_filter.mpr ⟨List.mem_of_getElem? (i := 157) (by decide +kernel), by decide +kernel⟩
theorem tw_158 : Cond.code yX0_way cX0_way 5 (some .int) ∈ lw_gd := List.mem_filter.mpr ⟨List.mem_of_getElem? (i := 158) (by decide +kernel), by decide +kernel⟩
theorem tw_159 : Cond.methodLink RX2 63 yX2_has ∈ lw_gd := List.mem_filter.mpr ⟨List.mem_of_getElem? (i := 159) (by decide +kernel), by decide +kernel⟩
theorem tw_160 : Cond.methodLink RX2 69 yX0_rest ∈ lw_gd := List.mem_filter.mpr ⟨List.mem_of_getElem? (i := 160) (by decide +kernel), by decide +kernel⟩
theorem tw_161 : Cond.methodLink RX2 72 yX1_become ∈ lw_gd := List.mem_filter.mpr ⟨List.mem_of_getElem? (i := 161) (by decide +kernel), by decide +kernel⟩
theorem tw_162 : Cond.instanceMethod yX1_become ∈ lw_gd := List.mem_filter.mpr ⟨List.mem_of_getElem? (i := 162) (by decide +kernel), by decide +kernel⟩
theorem tw_163 : Cond.selects RX1 yX1_become yX1_become ∈ lw_gd := List.mem_filter.mpr ⟨List.mem_of_getElem? (i := 163) (by decide +kernel), by decide +kernel⟩
theorem tw_164 : Cond.code yX1_become cX1_become 4 none ∈ lw_gd := List.mem_filter.mpr ⟨List.mem_of_getElem? (i := 164) (by decide +kernel), by decide +kernel⟩
theorem tw_165 : Cond.methodLink RX1 29 yX1_append ∈ lw_gd := List.mem_filter.mpr ⟨List.mem_of_getElem? (i := 165) (by decide +kernel), by decide +kernel⟩
theorem tw_166 : Cond.methodLink RL 33 yX2_beside ∈ lw_gd := List.mem_filter.mpr ⟨List.mem_of_getElem? (i := 166) (by decide +kernel), by decide +kernel⟩
theorem tw_167 : Cond.instanceMethod yX2_beside ∈ lw_gd := List.mem_filter.mpr ⟨List.mem_of_getElem? (i := 167) (by decide +kernel), by decide +kernel⟩
theorem tw_168 : Cond.selects RX2 yX2_beside yX2_beside ∈ lw_gd := List.mem_filter.mpr ⟨List.mem_of_getElem? (i := 168) (by decide +kernel), by decide +kernel⟩
theorem tw_169 : Cond.code yX2_beside cX2_beside 6 (some .int) ∈ lw_gd := List.mem_filter.mpr ⟨List.mem_of_getElem? (i := 169) (by decide +kernel), by decide +kernel⟩
theorem tw_170 : Cond.methodLink RX2 76 yX2_draftPacked ∈ lw_gd := List.mem_filter.mpr ⟨List.mem_of_getElem? (i := 170) (by decide +kernel), by decide +kernel⟩
theorem tw_171 : Cond.privateMethod yX2_draftPacked ∈ lw_tbl := List.mem_of_getElem? (i := 171) (by decide +kernel)
theorem tw_172 : Cond.instanceMethod yX2_draftPacked ∈ lw_gd := List.mem_filter.mpr ⟨List.mem_of_getElem? (i := 172) (by decide +kernel), by decide +kernel⟩
theorem tw_173 : Cond.code yX2_draftPacked cX2_draftPacked 6 none ∈ lw_gd := List.mem_filter.mpr ⟨List.mem_of_getElem? (i := 173) (by decide +kernel), by decide +kernel⟩
theorem tw_174 : Cond.methodLink RX2 80 yX1_met ∈ lw_gd := List.mem_filter.mpr ⟨List.mem_of_getElem? (i := 174) (by decide +kernel), by decide +kernel⟩
theorem tw_175 : Cond.instanceMethod yX1_met ∈ lw_gd := List.mem_filter.mpr ⟨List.mem_of_getElem? (i := 175) (by decide +kernel), by decide +kernel⟩
theorem tw_176 : Cond.selects RX1 yX1_met yX1_met ∈ lw_gd := List.mem_filter.mpr ⟨List.mem_of_getElem? (i := 176) (by decide +kernel), by decide +kernel⟩
theorem tw_177 : Cond.code yX1_met cX1_met 3 (some .int) ∈ lw_gd := List.mem_filter.mpr ⟨List.mem_of_getElem? (i := 177) (by decide +kernel), by decide +kernel⟩
theorem tw_178 : Cond.methodLink RX2 111 yX2_packed ∈ lw_gd := List.mem_filter.mpr ⟨List.mem_of_getElem? (i := 178) (by decide +kernel), by decide +kernel⟩
theorem tw_179 : Cond.static yX2_packed ∈ lw_gd := List.mem_filter.mpr ⟨List.mem_of_getElem? (i := 179) (by decide +kernel), by decide +kernel⟩
theorem tw_180 : Cond.code yX2_packed cX2_packed 4 (some .int) ∈ lw_gd := List.mem_filter.mpr ⟨List.mem_of_getElem? (i := 180) (by decide +kernel), by decide +kernel⟩
theorem tw_181 : Cond.methodLink RX2 84 yJ6_bitCount ∈ lw_gd := List.mem_filter.mpr ⟨List.mem_of_getElem? (i := 181) (by decide +kernel), by decide +kernel⟩
theorem tw_182 : Cond.static yJ6_bitCount ∈ lw_gd := List.mem_filter.mpr ⟨List.mem_of_getElem? (i := 182) (by decide +kernel), by decide +kernel⟩
theorem tw_183 : Cond.code yJ6_bitCount cJ6_bitCount 1 (some .int) ∈ lw_gd := List.mem_filter.mpr ⟨List.mem_of_getElem? (i := 183) (by decide +kernel), by decide +kernel⟩
theorem tw_184 : Cond.constant RJ6 265 (1431655765 : Int32) ∈ lw_gd := List.mem_filter.mpr ⟨List.mem_of_getElem? (i := 184) (by decide +kernel), by decide +kernel⟩
theorem tw_185 : Cond.constant RJ6 266 (858993459 : Int32) ∈ lw_gd := List.mem_filter.mpr ⟨List.mem_of_getElem? (i := 185) (by decide +kernel), by decide +kernel⟩
theorem tw_186 : Cond.constant RJ6 267 (252645135 : Int32) ∈ lw_gd := List.mem_filter.mpr ⟨List.mem_of_getElem? (i := 186) (by decide +kernel), by decide +kernel⟩
theorem tw_187 : Cond.methodLink RL 37 yX2_edges ∈ lw_gd := List.mem_filter.mpr ⟨List.mem_of_getElem? (i := 187) (by decide +kernel), by decide +kernel⟩
theorem tw_188 : Cond.instanceMethod yX2_edges ∈ lw_gd := List.mem_filter.mpr ⟨List.mem_of_getElem? (i := 188) (by decide +kernel), by decide +kernel⟩
theorem tw_189 : Cond.selects RX2 yX2_edges yX2_edges ∈ lw_gd := List.mem_filter.mpr ⟨List.mem_of_getElem? (i := 189) (by decide +kernel), by decide +kernel⟩
theorem tw_190 : Cond.code yX2_edges cX2_edges 2 (some .int) ∈ lw_gd := List.mem_filter.mpr ⟨List.mem_of_getElem? (i := 190) (by decide +kernel), by decide +kernel⟩
theorem tw_191 : Cond.methodLink RL 42 yX2_weight ∈ lw_gd := List.mem_filter.mpr ⟨List.mem_of_getElem? (i := 191) (by decide +kernel), by decide +kernel⟩
theorem tw_192 : Cond.instanceMethod yX2_weight ∈ lw_gd := List.mem_filter.mpr ⟨List.mem_of_getElem? (i := 192) (by decide +kernel), by decide +kernel⟩
theorem tw_193 : Cond.selects RX2 yX2_weight yX2_weight ∈ lw_gd := List.mem_filter.mpr ⟨List.mem_of_getElem? (i := 193) (by decide +kernel), by decide +kernel⟩
theorem tw_194 : Cond.code yX2_weight cX2_weight 3 (some .int) ∈ lw_gd := List.mem_filter.mpr ⟨List.mem_of_getElem? (i := 194) (by decide +kernel), by decide +kernel⟩
theorem tw_195 : Cond.methodLink RL 47 yX2_rank ∈ lw_gd := List.mem_filter.mpr ⟨List.mem_of_getElem? (i := 195) (by decide +kernel), by decide +kernel⟩
theorem tw_196 : Cond.instanceMethod yX2_rank ∈ lw_gd := List.mem_filter.mpr ⟨List.mem_of_getElem? (i := 196) (by decide +kernel), by decide +kernel⟩
theorem tw_197 : Cond.selects RX2 yX2_rank yX2_rank ∈ lw_gd := List.mem_filter.mpr ⟨List.mem_of_getElem? (i := 197) (by decide +kernel), by decide +kernel⟩
theorem tw_198 : Cond.code yX2_rank cX2_rank 3 (some .int) ∈ lw_gd := List.mem_filter.mpr ⟨List.mem_of_getElem? (i := 198) (by decide +kernel), by decide +kernel⟩
theorem tw_199 : Cond.methodLink RL 51 yX2_best ∈ lw_gd := List.mem_filter.mpr ⟨List.mem_of_getElem? (i := 199) (by decide +kernel), by decide +kernel⟩
theorem tw_200 : Cond.instanceMethod yX2_best ∈ lw_gd := List.mem_filter.mpr ⟨List.mem_of_getElem? (i := 200) (by decide +kernel), by decide +kernel⟩
theorem tw_201 : Cond.selects RX2 yX2_best yX2_best ∈ lw_gd := List.mem_filter.mpr ⟨List.mem_of_getElem? (i := 201) (by decide +kernel), by decide +kernel⟩
theorem tw_202 : Cond.code yX2_best cX2_best 7 (some .int) ∈ lw_gd := List.mem_filter.mpr ⟨List.mem_of_getElem? (i := 202) (by decide +kernel), by decide +kernel⟩
theorem tw_203 : Cond.methodLink RX2 92 yX0_clear ∈ lw_gd := List.mem_filter.mpr ⟨List.mem_of_getElem? (i := 203) (by decide +kernel), by decide +kernel⟩
theorem tw_204 : Cond.methodLink RX2 95 yX1_heaviest ∈ lw_gd := List.mem_filter.mpr ⟨List.mem_of_getElem? (i := 204) (by decide +kernel), by decide +kernel⟩
theorem tw_205 : Cond.instanceMethod yX1_heaviest ∈ lw_gd := List.mem_filter.mpr ⟨List.mem_of_getElem? (i := 205) (by decide +kernel), by decide +kernel⟩
theorem tw_206 : Cond.selects RX1 yX1_heaviest yX1_heaviest ∈ lw_gd := List.mem_filter.mpr ⟨List.mem_of_getElem? (i := 206) (by decide +kernel), by decide +kernel⟩
theorem tw_207 : Cond.code yX1_heaviest cX1_heaviest 5 (some .int) ∈ lw_gd := List.mem_filter.mpr ⟨List.mem_of_getElem? (i := 207) (by decide +kernel), by decide +kernel⟩
theorem tw_208 : Cond.methodLinkNest RX1 33 yX2_has RX2 ∈ lw_tbl := List.mem_of_getElem? (i := 208) (by decide +kernel)
theorem tw_209 : Cond.methodLink RX2 98 yX0_takes ∈ lw_gd := List.mem_filter.mpr ⟨List.mem_of_getElem? (i := 209) (by decide +kernel), by decide +kernel⟩
theorem tw_210 : Cond.methodLink RL 55 yX2_common ∈ lw_gd := List.mem_filter.mpr ⟨List.mem_of_getElem? (i := 210) (by decide +kernel), by decide +kernel⟩
theorem tw_211 : Cond.instanceMethod yX2_common ∈ lw_gd := List.mem_filter.mpr ⟨List.mem_of_getElem? (i := 211) (by decide +kernel), by decide +kernel⟩
theorem tw_212 : Cond.selects RX2 yX2_common yX2_common ∈ lw_gd := List.mem_filter.mpr ⟨List.mem_of_getElem? (i := 212) (by decide +kernel), by decide +kernel⟩
theorem tw_213 : Cond.code yX2_common cX2_common 3 (some .int) ∈ lw_gd := List.mem_filter.mpr ⟨List.mem_of_getElem? (i := 213) (by decide +kernel), by decide +kernel⟩
theorem tw_214 : Cond.methodLink RX2 101 yX2_areAlike ∈ lw_gd := List.mem_filter.mpr ⟨List.mem_of_getElem? (i := 214) (by decide +kernel), by decide +kernel⟩
theorem tw_215 : Cond.privateMethod yX2_areAlike ∈ lw_tbl := List.mem_of_getElem? (i := 215) (by decide +kernel)
theorem tw_216 : Cond.instanceMethod yX2_areAlike ∈ lw_gd := List.mem_filter.mpr ⟨List.mem_of_getElem? (i := 216) (by decide +kernel), by decide +kernel⟩
theorem tw_217 : Cond.code yX2_areAlike cX2_areAlike 3 (some .boolean) ∈ lw_gd := List.mem_filter.mpr ⟨List.mem_of_getElem? (i := 217) (by decide +kernel), by decide +kernel⟩
theorem tw_218 : Cond.methodLink RX2 104 yX2_largestInBoth ∈ lw_gd := List.mem_filter.mpr ⟨List.mem_of_getElem? (i := 218) (by decide +kernel), by decide +kernel⟩
theorem tw_219 : Cond.privateMethod yX2_largestInBoth ∈ lw_tbl := List.mem_of_getElem? (i := 219) (by decide +kernel)
theorem tw_220 : Cond.instanceMethod yX2_largestInBoth ∈ lw_gd := List.mem_filter.mpr ⟨List.mem_of_getElem? (i := 220) (by decide +kernel), by decide +kernel⟩
theorem tw_221 : Cond.code yX2_largestInBoth cX2_largestInBoth 4 (some .int) ∈ lw_gd := List.mem_filter.mpr ⟨List.mem_of_getElem? (i := 221) (by decide +kernel), by decide +kernel⟩
theorem tw_222 : Cond.methodLink RX2 115 Lib.Math.min.name ∈ lw_gd := List.mem_filter.mpr ⟨List.mem_of_getElem? (i := 222) (by decide +kernel), by decide +kernel⟩
theorem tw_223 : Cond.methodLink RX2 120 yX2_searched ∈ lw_gd := List.mem_filter.mpr ⟨List.mem_of_getElem? (i := 223) (by decide +kernel), by decide +kernel⟩
theorem tw_224 : Cond.privateMethod yX2_searched ∈ lw_tbl := List.mem_of_getElem? (i := 224) (by decide +kernel)
theorem tw_225 : Cond.instanceMethod yX2_searched ∈ lw_gd := List.mem_filter.mpr ⟨List.mem_of_getElem? (i := 225) (by decide +kernel), by decide +kernel⟩
theorem tw_226 : Cond.code yX2_searched cX2_searched 9 (some .int) ∈ lw_gd := List.mem_filter.mpr ⟨List.mem_of_getElem? (i := 226) (by decide +kernel), by decide +kernel⟩
theorem tw_227 : Cond.methodLink RX2 124 yX0_drop ∈ lw_gd := List.mem_filter.mpr ⟨List.mem_of_getElem? (i := 227) (by decide +kernel), by decide +kernel⟩
theorem tw_228 : Cond.instanceMethod yX0_drop ∈ lw_gd := List.mem_filter.mpr ⟨List.mem_of_getElem? (i := 228) (by decide +kernel), by decide +kernel⟩
theorem tw_229 : Cond.selects RX0 yX0_drop yX0_drop ∈ lw_gd := List.mem_filter.mpr ⟨List.mem_of_getElem? (i := 229) (by decide +kernel), by decide +kernel⟩
theorem tw_230 : Cond.code yX0_drop cX0_drop 1 none ∈ lw_gd := List.mem_filter.mpr ⟨List.mem_of_getElem? (i := 230) (by decide +kernel), by decide +kernel⟩
theorem tw_231 : Cond.methodLink RL 59 yX2_cover ∈ lw_gd := List.mem_filter.mpr ⟨List.mem_of_getElem? (i := 231) (by decide +kernel), by decide +kernel⟩
theorem tw_232 : Cond.instanceMethod yX2_cover ∈ lw_gd := List.mem_filter.mpr ⟨List.mem_of_getElem? (i := 232) (by decide +kernel), by decide +kernel⟩
theorem tw_233 : Cond.selects RX2 yX2_cover yX2_cover ∈ lw_gd := List.mem_filter.mpr ⟨List.mem_of_getElem? (i := 233) (by decide +kernel), by decide +kernel⟩
theorem tw_234 : Cond.code yX2_cover cX2_cover 3 (some .int) ∈ lw_gd := List.mem_filter.mpr ⟨List.mem_of_getElem? (i := 234) (by decide +kernel), by decide +kernel⟩
theorem tw_235 : Cond.methodLink RX2 108 yX2_leastCover ∈ lw_gd := List.mem_filter.mpr ⟨List.mem_of_getElem? (i := 235) (by decide +kernel), by decide +kernel⟩
theorem tw_236 : Cond.privateMethod yX2_leastCover ∈ lw_tbl := List.mem_of_getElem? (i := 236) (by decide +kernel)
theorem tw_237 : Cond.instanceMethod yX2_leastCover ∈ lw_gd := List.mem_filter.mpr ⟨List.mem_of_getElem? (i := 237) (by decide +kernel), by decide +kernel⟩
theorem tw_238 : Cond.code yX2_leastCover cX2_leastCover 6 (some .int) ∈ lw_gd := List.mem_filter.mpr ⟨List.mem_of_getElem? (i := 238) (by decide +kernel), by decide +kernel⟩
theorem tw_239 : Cond.methodLink RX2 127 yX2_grown ∈ lw_gd := List.mem_filter.mpr ⟨List.mem_of_getElem? (i := 239) (by decide +kernel), by decide +kernel⟩
theorem tw_240 : Cond.privateMethod yX2_grown ∈ lw_tbl := List.mem_of_getElem? (i := 240) (by decide +kernel)
theorem tw_241 : Cond.instanceMethod yX2_grown ∈ lw_gd := List.mem_filter.mpr ⟨List.mem_of_getElem? (i := 241) (by decide +kernel), by decide +kernel⟩
theorem tw_242 : Cond.code yX2_grown cX2_grown 7 (some .int) ∈ lw_gd := List.mem_filter.mpr ⟨List.mem_of_getElem? (i := 242) (by decide +kernel), by decide +kernel⟩
theorem tw_243 : Cond.methodLink RX2 131 yX0_way ∈ lw_gd := List.mem_filter.mpr ⟨List.mem_of_getElem? (i := 243) (by decide +kernel), by decide +kernel⟩
theorem tw_244 : Cond.classLink RL 10 RX3 ∈ lw_gd := List.mem_filter.mpr ⟨List.mem_of_getElem? (i := 244) (by decide +kernel), by decide +kernel⟩
theorem tw_245 : Cond.instantiable RX3 10 ∈ lw_gd := List.mem_filter.mpr ⟨List.mem_of_getElem? (i := 245) (by decide +kernel), by decide +kernel⟩
theorem tw_246 : Cond.methodLink RL 12 yX3_init ∈ lw_gd := List.mem_filter.mpr ⟨List.mem_of_getElem? (i := 246) (by decide +kernel), by decide +kernel⟩
theorem tw_247 : Cond.instanceMethod yX3_init ∈ lw_gd := List.mem_filter.mpr ⟨List.mem_of_getElem? (i := 247) (by decide +kernel), by decide +kernel⟩
theorem tw_248 : Cond.code yX3_init cX3_init 2 none ∈ lw_gd := List.mem_filter.mpr ⟨List.mem_of_getElem? (i := 248) (by decide +kernel), by decide +kernel⟩
theorem tw_249 : Cond.methodLink RX3 1 Lib.objectInit ∈ lw_gd := List.mem_filter.mpr ⟨List.mem_of_getElem? (i := 249) (by decide +kernel), by decide +kernel⟩
theorem tw_250 : Cond.fieldLink RX3 7 RX3 "vertices" "[I" ∈ lw_gd := List.mem_filter.mpr ⟨List.mem_of_getElem? (i := 250) (by decide +kernel), by decide +kernel⟩
theorem tw_251 : Cond.fieldLink RX3 13 RX3 "counts" "[I" ∈ lw_gd := List.mem_filter.mpr ⟨List.mem_of_getElem? (i := 251) (by decide +kernel), by decide +kernel⟩
theorem tw_252 : Cond.fieldLink RX3 16 RX3 "open" "[Z" ∈ lw_gd := List.mem_filter.mpr ⟨List.mem_of_getElem? (i := 252) (by decide +kernel), by decide +kernel⟩
theorem tw_253 : Cond.fieldLink RX3 20 RX3 "ends" "[I" ∈ lw_gd := List.mem_filter.mpr ⟨List.mem_of_getElem? (i := 253) (by decide +kernel), by decide +kernel⟩
theorem tw_254 : Cond.fieldLink RX3 23 RX3 "weights" "[I" ∈ lw_gd := List.mem_filter.mpr ⟨List.mem_of_getElem? (i := 254) (by decide +kernel), by decide +kernel⟩
theorem tw_255 : Cond.fieldLink RX3 26 RX3 "made" "[I" ∈ lw_gd := List.mem_filter.mpr ⟨List.mem_of_getElem? (i := 255) (by decide +kernel), by decide +kernel⟩
theorem tw_256 : Cond.fieldLink RX3 54 RX3 "madeCount" "I" ∈ lw_gd := List.mem_filter.mpr ⟨List.mem_of_getElem? (i := 256) (by decide +kernel), by decide +kernel⟩
theorem tw_257 : Cond.fieldLink RX3 29 RX3 "names" "[I" ∈ lw_gd := List.mem_filter.mpr ⟨List.mem_of_getElem? (i := 257) (by decide +kernel), by decide +kernel⟩
theorem tw_258 : Cond.fieldLink RX3 32 RX3 "first" "[B" ∈ lw_gd := List.mem_filter.mpr ⟨List.mem_of_getElem? (i := 258) (by decide +kernel), by decide +kernel⟩
theorem tw_259 : Cond.fieldLink RX3 36 RX3 "second" "[B" ∈ lw_gd := List.mem_filter.mpr ⟨List.mem_of_getElem? (i := 259) (by decide +kernel), by decide +kernel⟩
theorem tw_260 : Cond.laysFinal RX3 RX3 "vertices" "[I" ∈ lw_gd := List.mem_filter.mpr ⟨List.mem_of_getElem? (i := 260) (by decide +kernel), by decide +kernel⟩
theorem tw_262 : Cond.laysFinal RX3 RX3 "counts" "[I" ∈ lw_gd := List.mem_filter.mpr ⟨List.mem_of_getElem? (i := 262) (by decide +kernel), by decide +kernel⟩
theorem tw_264 : Cond.laysFinal RX3 RX3 "open" "[Z" ∈ lw_gd := List.mem_filter.mpr ⟨List.mem_of_getElem? (i := 264) (by decide +kernel), by decide +kernel⟩
theorem tw_266 : Cond.laysFinal RX3 RX3 "ends" "[I" ∈ lw_gd := List.mem_filter.mpr ⟨List.mem_of_getElem? (i := 266) (by decide +kernel), by decide +kernel⟩
theorem tw_268 : Cond.laysFinal RX3 RX3 "weights" "[I" ∈ lw_gd := List.mem_filter.mpr ⟨List.mem_of_getElem? (i := 268) (by decide +kernel), by decide +kernel⟩
theorem tw_270 : Cond.laysFinal RX3 RX3 "made" "[I" ∈ lw_gd := List.mem_filter.mpr ⟨List.mem_of_getElem? (i := 270) (by decide +kernel), by decide +kernel⟩
theorem tw_272 : Cond.lays RX3 RX3 "madeCount" "I" ∈ lw_gd := List.mem_filter.mpr ⟨List.mem_of_getElem? (i := 272) (by decide +kernel), by decide +kernel⟩
theorem tw_274 : Cond.laysFinal RX3 RX3 "names" "[I" ∈ lw_gd := List.mem_filter.mpr ⟨List.mem_of_getElem? (i := 274) (by decide +kernel), by decide +kernel⟩
theorem tw_276 : Cond.laysFinal RX3 RX3 "first" "[B" ∈ lw_gd := List.mem_filter.mpr ⟨List.mem_of_getElem? (i := 276) (by decide +kernel), by decide +kernel⟩
theorem tw_278 : Cond.laysFinal RX3 RX3 "second" "[B" ∈ lw_gd := List.mem_filter.mpr ⟨List.mem_of_getElem? (i := 278) (by decide +kernel), by decide +kernel⟩
theorem tw_281 : Cond.arrayClass .boolean ∈ lw_gd := List.mem_filter.mpr ⟨List.mem_of_getElem? (i := 281) (by decide +kernel), by decide +kernel⟩
theorem tw_282 : Cond.arrayClass .byte ∈ lw_gd := List.mem_filter.mpr ⟨List.mem_of_getElem? (i := 282) (by decide +kernel), by decide +kernel⟩
theorem tw_283 : Cond.methodLink RL 17 yX3_begin ∈ lw_gd := List.mem_filter.mpr ⟨List.mem_of_getElem? (i := 283) (by decide +kernel), by decide +kernel⟩
theorem tw_284 : Cond.instanceMethod yX3_begin ∈ lw_gd := List.mem_filter.mpr ⟨List.mem_of_getElem? (i := 284) (by decide +kernel), by decide +kernel⟩
theorem tw_285 : Cond.selects RX3 yX3_begin yX3_begin ∈ lw_gd := List.mem_filter.mpr ⟨List.mem_of_getElem? (i := 285) (by decide +kernel), by decide +kernel⟩
theorem tw_286 : Cond.code yX3_begin cX3_begin 3 (some .boolean) ∈ lw_gd := List.mem_filter.mpr ⟨List.mem_of_getElem? (i := 286) (by decide +kernel), by decide +kernel⟩
theorem tw_287 : Cond.methodLink RX3 39 yX3_isGraph ∈ lw_gd := List.mem_filter.mpr ⟨List.mem_of_getElem? (i := 287) (by decide +kernel), by decide +kernel⟩
theorem tw_288 : Cond.static yX3_isGraph ∈ lw_gd := List.mem_filter.mpr ⟨List.mem_of_getElem? (i := 288) (by decide +kernel), by decide +kernel⟩
theorem tw_289 : Cond.code yX3_isGraph cX3_isGraph 1 (some .boolean) ∈ lw_gd := List.mem_filter.mpr ⟨List.mem_of_getElem? (i := 289) (by decide +kernel), by decide +kernel⟩
theorem tw_290 : Cond.methodLink RL 22 yX3_add ∈ lw_gd := List.mem_filter.mpr ⟨List.mem_of_getElem? (i := 290) (by decide +kernel), by decide +kernel⟩
theorem tw_291 : Cond.instanceMethod yX3_add ∈ lw_gd := List.mem_filter.mpr ⟨List.mem_of_getElem? (i := 291) (by decide +kernel), by decide +kernel⟩
theorem tw_292 : Cond.selects RX3 yX3_add yX3_add ∈ lw_gd := List.mem_filter.mpr ⟨List.mem_of_getElem? (i := 292) (by decide +kernel), by decide +kernel⟩
theorem tw_293 : Cond.code yX3_add cX3_add 5 (some .int) ∈ lw_gd := List.mem_filter.mpr ⟨List.mem_of_getElem? (i := 293) (by decide +kernel), by decide +kernel⟩
theorem tw_294 : Cond.methodLink RL 27 yX3_weigh ∈ lw_gd := List.mem_filter.mpr ⟨List.mem_of_getElem? (i := 294) (by decide +kernel), by decide +kernel⟩
theorem tw_295 : Cond.instanceMethod yX3_weigh ∈ lw_gd := List.mem_filter.mpr ⟨List.mem_of_getElem? (i := 295) (by decide +kernel), by decide +kernel⟩
theorem tw_296 : Cond.selects RX3 yX3_weigh yX3_weigh ∈ lw_gd := List.mem_filter.mpr ⟨List.mem_of_getElem? (i := 296) (by decide +kernel), by decide +kernel⟩
theorem tw_297 : Cond.code yX3_weigh cX3_weigh 4 (some .boolean) ∈ lw_gd := List.mem_filter.mpr ⟨List.mem_of_getElem? (i := 297) (by decide +kernel), by decide +kernel⟩
theorem tw_298 : Cond.methodLink RX3 50 yX3_isEdge ∈ lw_gd := List.mem_filter.mpr ⟨List.mem_of_getElem? (i := 298) (by decide +kernel), by decide +kernel⟩
theorem tw_299 : Cond.privateMethod yX3_isEdge ∈ lw_tbl := List.mem_of_getElem? (i := 299) (by decide +kernel)
theorem tw_300 : Cond.instanceMethod yX3_isEdge ∈ lw_gd := List.mem_filter.mpr ⟨List.mem_of_getElem? (i := 300) (by decide +kernel), by decide +kernel⟩
theorem tw_301 : Cond.code yX3_isEdge cX3_isEdge 3 (some .boolean) ∈ lw_gd := List.mem_filter.mpr ⟨List.mem_of_getElem? (i := 301) (by decide +kernel), by decide +kernel⟩
theorem tw_302 : Cond.methodLink RL 32 yX3_leave ∈ lw_gd := List.mem_filter.mpr ⟨List.mem_of_getElem? (i := 302) (by decide +kernel), by decide +kernel⟩
theorem tw_303 : Cond.instanceMethod yX3_leave ∈ lw_gd := List.mem_filter.mpr ⟨List.mem_of_getElem? (i := 303) (by decide +kernel), by decide +kernel⟩
theorem tw_304 : Cond.selects RX3 yX3_leave yX3_leave ∈ lw_gd := List.mem_filter.mpr ⟨List.mem_of_getElem? (i := 304) (by decide +kernel), by decide +kernel⟩
theorem tw_305 : Cond.code yX3_leave cX3_leave 6 (some .int) ∈ lw_gd := List.mem_filter.mpr ⟨List.mem_of_getElem? (i := 305) (by decide +kernel), by decide +kernel⟩
theorem tw_306 : Cond.methodLink RX3 58 yX3_isSet ∈ lw_gd := List.mem_filter.mpr ⟨List.mem_of_getElem? (i := 306) (by decide +kernel), by decide +kernel⟩
theorem tw_307 : Cond.privateMethod yX3_isSet ∈ lw_tbl := List.mem_of_getElem? (i := 307) (by decide +kernel)
theorem tw_308 : Cond.instanceMethod yX3_isSet ∈ lw_gd := List.mem_filter.mpr ⟨List.mem_of_getElem? (i := 308) (by decide +kernel), by decide +kernel⟩
theorem tw_309 : Cond.code yX3_isSet cX3_isSet 3 (some .boolean) ∈ lw_gd := List.mem_filter.mpr ⟨List.mem_of_getElem? (i := 309) (by decide +kernel), by decide +kernel⟩
theorem tw_310 : Cond.methodLink RX3 43 yX3_whole ∈ lw_gd := List.mem_filter.mpr ⟨List.mem_of_getElem? (i := 310) (by decide +kernel), by decide +kernel⟩
theorem tw_311 : Cond.privateMethod yX3_whole ∈ lw_tbl := List.mem_of_getElem? (i := 311) (by decide +kernel)
theorem tw_312 : Cond.instanceMethod yX3_whole ∈ lw_gd := List.mem_filter.mpr ⟨List.mem_of_getElem? (i := 312) (by decide +kernel), by decide +kernel⟩
theorem tw_313 : Cond.code yX3_whole cX3_whole 2 (some .int) ∈ lw_gd := List.mem_filter.mpr ⟨List.mem_of_getElem? (i := 313) (by decide +kernel), by decide +kernel⟩
theorem tw_314 : Cond.methodLink RX3 61 yX3_join ∈ lw_gd := List.mem_filter.mpr ⟨List.mem_of_getElem? (i := 314) (by decide +kernel), by decide +kernel⟩
theorem tw_315 : Cond.privateMethod yX3_join ∈ lw_tbl := List.mem_of_getElem? (i := 315) (by decide +kernel)
theorem tw_316 : Cond.instanceMethod yX3_join ∈ lw_gd := List.mem_filter.mpr ⟨List.mem_of_getElem? (i := 316) (by decide +kernel), by decide +kernel⟩
theorem tw_317 : Cond.code yX3_join cX3_join 8 (some .int) ∈ lw_gd := List.mem_filter.mpr ⟨List.mem_of_getElem? (i := 317) (by decide +kernel), by decide +kernel⟩
theorem tw_318 : Cond.methodLink RX3 65 yX3_lay ∈ lw_gd := List.mem_filter.mpr ⟨List.mem_of_getElem? (i := 318) (by decide +kernel), by decide +kernel⟩
theorem tw_319 : Cond.privateMethod yX3_lay ∈ lw_tbl := List.mem_of_getElem? (i := 319) (by decide +kernel)
theorem tw_320 : Cond.instanceMethod yX3_lay ∈ lw_gd := List.mem_filter.mpr ⟨List.mem_of_getElem? (i := 320) (by decide +kernel), by decide +kernel⟩
theorem tw_321 : Cond.code yX3_lay cX3_lay 3 none ∈ lw_gd := List.mem_filter.mpr ⟨List.mem_of_getElem? (i := 321) (by decide +kernel), by decide +kernel⟩
theorem tw_322 : Cond.methodLink RX3 69 yX3_keep ∈ lw_gd := List.mem_filter.mpr ⟨List.mem_of_getElem? (i := 322) (by decide +kernel), by decide +kernel⟩
theorem tw_323 : Cond.privateMethod yX3_keep ∈ lw_tbl := List.mem_of_getElem? (i := 323) (by decide +kernel)
theorem tw_324 : Cond.instanceMethod yX3_keep ∈ lw_gd := List.mem_filter.mpr ⟨List.mem_of_getElem? (i := 324) (by decide +kernel), by decide +kernel⟩
theorem tw_325 : Cond.code yX3_keep cX3_keep 4 (some .int) ∈ lw_gd := List.mem_filter.mpr ⟨List.mem_of_getElem? (i := 325) (by decide +kernel), by decide +kernel⟩
theorem tw_326 : Cond.methodLink RL 36 yX3_beside ∈ lw_gd := List.mem_filter.mpr ⟨List.mem_of_getElem? (i := 326) (by decide +kernel), by decide +kernel⟩
theorem tw_327 : Cond.instanceMethod yX3_beside ∈ lw_gd := List.mem_filter.mpr ⟨List.mem_of_getElem? (i := 327) (by decide +kernel), by decide +kernel⟩
theorem tw_328 : Cond.selects RX3 yX3_beside yX3_beside ∈ lw_gd := List.mem_filter.mpr ⟨List.mem_of_getElem? (i := 328) (by decide +kernel), by decide +kernel⟩
theorem tw_329 : Cond.code yX3_beside cX3_beside 5 (some .int) ∈ lw_gd := List.mem_filter.mpr ⟨List.mem_of_getElem? (i := 329) (by decide +kernel), by decide +kernel⟩
theorem tw_330 : Cond.methodLink RX3 72 yX3_number ∈ lw_gd := List.mem_filter.mpr ⟨List.mem_of_getElem? (i := 330) (by decide +kernel), by decide +kernel⟩
theorem tw_331 : Cond.privateMethod yX3_number ∈ lw_tbl := List.mem_of_getElem? (i := 331) (by decide +kernel)
theorem tw_332 : Cond.instanceMethod yX3_number ∈ lw_gd := List.mem_filter.mpr ⟨List.mem_of_getElem? (i := 332) (by decide +kernel), by decide +kernel⟩
theorem tw_333 : Cond.code yX3_number cX3_number 6 (some .int) ∈ lw_gd := List.mem_filter.mpr ⟨List.mem_of_getElem? (i := 333) (by decide +kernel), by decide +kernel⟩
theorem tw_334 : Cond.methodLink RL 41 yX3_edges ∈ lw_gd := List.mem_filter.mpr ⟨List.mem_of_getElem? (i := 334) (by decide +kernel), by decide +kernel⟩
theorem tw_335 : Cond.instanceMethod yX3_edges ∈ lw_gd := List.mem_filter.mpr ⟨List.mem_of_getElem? (i := 335) (by decide +kernel), by decide +kernel⟩
theorem tw_336 : Cond.selects RX3 yX3_edges yX3_edges ∈ lw_gd := List.mem_filter.mpr ⟨List.mem_of_getElem? (i := 336) (by decide +kernel), by decide +kernel⟩
theorem tw_337 : Cond.code yX3_edges cX3_edges 2 (some .int) ∈ lw_gd := List.mem_filter.mpr ⟨List.mem_of_getElem? (i := 337) (by decide +kernel), by decide +kernel⟩
theorem tw_338 : Cond.methodLink RL 46 yX3_weight ∈ lw_gd := List.mem_filter.mpr ⟨List.mem_of_getElem? (i := 338) (by decide +kernel), by decide +kernel⟩
theorem tw_339 : Cond.instanceMethod yX3_weight ∈ lw_gd := List.mem_filter.mpr ⟨List.mem_of_getElem? (i := 339) (by decide +kernel), by decide +kernel⟩
theorem tw_340 : Cond.selects RX3 yX3_weight yX3_weight ∈ lw_gd := List.mem_filter.mpr ⟨List.mem_of_getElem? (i := 340) (by decide +kernel), by decide +kernel⟩
theorem tw_341 : Cond.code yX3_weight cX3_weight 3 (some .int) ∈ lw_gd := List.mem_filter.mpr ⟨List.mem_of_getElem? (i := 341) (by decide +kernel), by decide +kernel⟩
theorem tw_342 : Cond.methodLink RL 50 yX3_rank ∈ lw_gd := List.mem_filter.mpr ⟨List.mem_of_getElem? (i := 342) (by decide +kernel), by decide +kernel⟩
theorem tw_343 : Cond.instanceMethod yX3_rank ∈ lw_gd := List.mem_filter.mpr ⟨List.mem_of_getElem? (i := 343) (by decide +kernel), by decide +kernel⟩
theorem tw_344 : Cond.selects RX3 yX3_rank yX3_rank ∈ lw_gd := List.mem_filter.mpr ⟨List.mem_of_getElem? (i := 344) (by decide +kernel), by decide +kernel⟩
theorem tw_345 : Cond.code yX3_rank cX3_rank 3 (some .int) ∈ lw_gd := List.mem_filter.mpr ⟨List.mem_of_getElem? (i := 345) (by decide +kernel), by decide +kernel⟩
theorem tw_346 : Cond.methodLink RL 54 yX3_best ∈ lw_gd := List.mem_filter.mpr ⟨List.mem_of_getElem? (i := 346) (by decide +kernel), by decide +kernel⟩
theorem tw_347 : Cond.instanceMethod yX3_best ∈ lw_gd := List.mem_filter.mpr ⟨List.mem_of_getElem? (i := 347) (by decide +kernel), by decide +kernel⟩
theorem tw_348 : Cond.selects RX3 yX3_best yX3_best ∈ lw_gd := List.mem_filter.mpr ⟨List.mem_of_getElem? (i := 348) (by decide +kernel), by decide +kernel⟩
theorem tw_349 : Cond.code yX3_best cX3_best 8 (some .int) ∈ lw_gd := List.mem_filter.mpr ⟨List.mem_of_getElem? (i := 349) (by decide +kernel), by decide +kernel⟩
theorem tw_350 : Cond.methodLink RX3 75 yX3_measure ∈ lw_gd := List.mem_filter.mpr ⟨List.mem_of_getElem? (i := 350) (by decide +kernel), by decide +kernel⟩
theorem tw_351 : Cond.privateMethod yX3_measure ∈ lw_tbl := List.mem_of_getElem? (i := 351) (by decide +kernel)
theorem tw_352 : Cond.instanceMethod yX3_measure ∈ lw_gd := List.mem_filter.mpr ⟨List.mem_of_getElem? (i := 352) (by decide +kernel), by decide +kernel⟩
theorem tw_353 : Cond.code yX3_measure cX3_measure 4 none ∈ lw_gd := List.mem_filter.mpr ⟨List.mem_of_getElem? (i := 353) (by decide +kernel), by decide +kernel⟩
theorem tw_354 : Cond.methodLink RX3 47 yX3_size ∈ lw_gd := List.mem_filter.mpr ⟨List.mem_of_getElem? (i := 354) (by decide +kernel), by decide +kernel⟩
theorem tw_355 : Cond.static yX3_size ∈ lw_gd := List.mem_filter.mpr ⟨List.mem_of_getElem? (i := 355) (by decide +kernel), by decide +kernel⟩
theorem tw_356 : Cond.code yX3_size cX3_size 3 (some .int) ∈ lw_gd := List.mem_filter.mpr ⟨List.mem_of_getElem? (i := 356) (by decide +kernel), by decide +kernel⟩
theorem tw_357 : Cond.methodLink RX3 79 yX3_comesFirst ∈ lw_gd := List.mem_filter.mpr ⟨List.mem_of_getElem? (i := 357) (by decide +kernel), by decide +kernel⟩
theorem tw_358 : Cond.static yX3_comesFirst ∈ lw_gd := List.mem_filter.mpr ⟨List.mem_of_getElem? (i := 358) (by decide +kernel), by decide +kernel⟩
theorem tw_359 : Cond.code yX3_comesFirst cX3_comesFirst 3 (some .boolean) ∈ lw_gd := List.mem_filter.mpr ⟨List.mem_of_getElem? (i := 359) (by decide +kernel), by decide +kernel⟩
theorem tw_360 : Cond.methodLink RL 58 yX3_common ∈ lw_gd := List.mem_filter.mpr ⟨List.mem_of_getElem? (i := 360) (by decide +kernel), by decide +kernel⟩
theorem tw_361 : Cond.instanceMethod yX3_common ∈ lw_gd := List.mem_filter.mpr ⟨List.mem_of_getElem? (i := 361) (by decide +kernel), by decide +kernel⟩
theorem tw_362 : Cond.selects RX3 yX3_common yX3_common ∈ lw_gd := List.mem_filter.mpr ⟨List.mem_of_getElem? (i := 362) (by decide +kernel), by decide +kernel⟩
theorem tw_363 : Cond.code yX3_common cX3_common 3 (some .int) ∈ lw_gd := List.mem_filter.mpr ⟨List.mem_of_getElem? (i := 363) (by decide +kernel), by decide +kernel⟩
theorem tw_364 : Cond.methodLink RX3 82 yX3_areAlike ∈ lw_gd := List.mem_filter.mpr ⟨List.mem_of_getElem? (i := 364) (by decide +kernel), by decide +kernel⟩
theorem tw_365 : Cond.privateMethod yX3_areAlike ∈ lw_tbl := List.mem_of_getElem? (i := 365) (by decide +kernel)
theorem tw_366 : Cond.instanceMethod yX3_areAlike ∈ lw_gd := List.mem_filter.mpr ⟨List.mem_of_getElem? (i := 366) (by decide +kernel), by decide +kernel⟩
theorem tw_367 : Cond.code yX3_areAlike cX3_areAlike 3 (some .boolean) ∈ lw_gd := List.mem_filter.mpr ⟨List.mem_of_getElem? (i := 367) (by decide +kernel), by decide +kernel⟩
theorem tw_368 : Cond.methodLink RX3 85 yX3_commonOf ∈ lw_gd := List.mem_filter.mpr ⟨List.mem_of_getElem? (i := 368) (by decide +kernel), by decide +kernel⟩
theorem tw_369 : Cond.privateMethod yX3_commonOf ∈ lw_tbl := List.mem_of_getElem? (i := 369) (by decide +kernel)
theorem tw_370 : Cond.instanceMethod yX3_commonOf ∈ lw_gd := List.mem_filter.mpr ⟨List.mem_of_getElem? (i := 370) (by decide +kernel), by decide +kernel⟩
theorem tw_371 : Cond.code yX3_commonOf cX3_commonOf 7 (some .int) ∈ lw_gd := List.mem_filter.mpr ⟨List.mem_of_getElem? (i := 371) (by decide +kernel), by decide +kernel⟩
theorem tw_372 : Cond.methodLink RL 62 yX3_cover ∈ lw_gd := List.mem_filter.mpr ⟨List.mem_of_getElem? (i := 372) (by decide +kernel), by decide +kernel⟩
theorem tw_373 : Cond.instanceMethod yX3_cover ∈ lw_gd := List.mem_filter.mpr ⟨List.mem_of_getElem? (i := 373) (by decide +kernel), by decide +kernel⟩
theorem tw_374 : Cond.selects RX3 yX3_cover yX3_cover ∈ lw_gd := List.mem_filter.mpr ⟨List.mem_of_getElem? (i := 374) (by decide +kernel), by decide +kernel⟩
theorem tw_375 : Cond.code yX3_cover cX3_cover 7 (some .int) ∈ lw_gd := List.mem_filter.mpr ⟨List.mem_of_getElem? (i := 375) (by decide +kernel), by decide +kernel⟩
end
section
theorem dX2_init_0 : decode cX2_init 0 = .ok (.aload_n 0, 1) := by decide +kernel
theorem dX2_init_1 : decode cX2_init 1 = .ok (.invokespecial 1, 3) := by decide +kernel
theorem dX2_init_4 : decode cX2_init 4 = .ok (.aload_n 0, 1) := by decide +kernel
theorem dX2_init_5 : decode cX2_init 5 = .ok (.bipush 8, 2) := by decide +kernel
theorem dX2_init_7 : decode cX2_init 7 = .ok (.anewarray 9, 3) := by decide +kernel
theorem dX2_init_10 : decode cX2_init 10 = .ok (.putfield 11, 3) := by decide +kernel
theorem dX2_init_13 : decode cX2_init 13 = .ok (.aload_n 0, 1) := by decide +kernel
theorem dX2_init_14 : decode cX2_init 14 = .ok (.new 15, 3) := by decide +kernel
theorem dX2_init_17 : decode cX2_init 17 = .ok (.dup, 1) := by decide +kernel
theorem dX2_init_18 : decode cX2_init 18 = .ok (.invokespecial 17, 3) := by decide +kernel
theorem dX2_init_21 : decode cX2_init 21 = .ok (.putfield 18, 3) := by decide +kernel
theorem dX2_init_24 : decode cX2_init 24 = .ok (.aload_n 0, 1) := by decide +kernel
theorem dX2_init_25 : decode cX2_init 25 = .ok (.new 15, 3) := by decide +kernel
theorem dX2_init_28 : decode cX2_init 28 = .ok (.dup, 1) := by decide +kernel
theorem dX2_init_29 : decode cX2_init 29 = .ok (.invokespecial 17, 3) := by decide +kernel
theorem dX2_init_32 : decode cX2_init 32 = .ok (.putfield 22, 3) := by decide +kernel
theorem dX2_init_35 : decode cX2_init 35 = .ok (.aload_n 0, 1) := by decide +kernel
theorem dX2_init_36 : decode cX2_init 36 = .ok (.bipush 12, 2) := by decide +kernel
theorem dX2_init_38 : decode cX2_init 38 = .ok (.newarray .int, 2) := by decide +kernel
theorem dX2_init_40 : decode cX2_init 40 = .ok (.putfield 25, 3) := by decide +kernel
theorem dX2_init_43 : decode cX2_init 43 = .ok (.iconst 0, 1) := by decide +kernel
theorem dX2_init_44 : decode cX2_init 44 = .ok (.istore_n 1, 1) := by decide +kernel
theorem dX2_init_45 : decode cX2_init 45 = .ok (.iload_n 1, 1) := by decide +kernel
theorem dX2_init_46 : decode cX2_init 46 = .ok (.bipush 8, 2) := by decide +kernel
theorem dX2_init_48 : decode cX2_init 48 = .ok (.if_icmp .ge 22, 3) := by decide +kernel
theorem dX2_init_51 : decode cX2_init 51 = .ok (.aload_n 0, 1) := by decide +kernel
theorem dX2_init_52 : decode cX2_init 52 = .ok (.getfield 11, 3) := by decide +kernel
theorem dX2_init_55 : decode cX2_init 55 = .ok (.iload_n 1, 1) := by decide +kernel
theorem dX2_init_56 : decode cX2_init 56 = .ok (.new 9, 3) := by decide +kernel
theorem dX2_init_59 : decode cX2_init 59 = .ok (.dup, 1) := by decide +kernel
theorem dX2_init_60 : decode cX2_init 60 = .ok (.invokespecial 29, 3) := by decide +kernel
theorem dX2_init_63 : decode cX2_init 63 = .ok (.aastore, 1) := by decide +kernel
theorem dX2_init_64 : decode cX2_init 64 = .ok (.iinc 1 1, 3) := by decide +kernel
theorem dX2_init_67 : decode cX2_init 67 = .ok (.goto (-22), 3) := by decide +kernel
theorem dX2_init_70 : decode cX2_init 70 = .ok (.return_, 1) := by decide +kernel
abbrev wsX2_init : List Cond := Cond.code yX2_init cX2_init 2 none :: lw_gd
theorem dX2_begin_0 : decode cX2_begin 0 = .ok (.iload_n 1, 1) := by decide +kernel
theorem dX2_begin_1 : decode cX2_begin 1 = .ok (.invokestatic 30, 3) := by decide +kernel
theorem dX2_begin_4 : decode cX2_begin 4 = .ok (.ifCond .eq 14, 3) := by decide +kernel
theorem dX2_begin_7 : decode cX2_begin 7 = .ok (.iload_n 2, 1) := by decide +kernel
theorem dX2_begin_8 : decode cX2_begin 8 = .ok (.iconst 1, 1) := by decide +kernel
theorem dX2_begin_9 : decode cX2_begin 9 = .ok (.if_icmp .lt 9, 3) := by decide +kernel
theorem dX2_begin_12 : decode cX2_begin 12 = .ok (.iload_n 2, 1) := by decide +kernel
theorem dX2_begin_13 : decode cX2_begin 13 = .ok (.bipush 13, 2) := by decide +kernel
theorem dX2_begin_15 : decode cX2_begin 15 = .ok (.if_icmp .le 5, 3) := by decide +kernel
theorem dX2_begin_18 : decode cX2_begin 18 = .ok (.iconst 0, 1) := by decide +kernel
theorem dX2_begin_19 : decode cX2_begin 19 = .ok (.ireturn, 1) := by decide +kernel
theorem dX2_begin_20 : decode cX2_begin 20 = .ok (.aload_n 0, 1) := by decide +kernel
theorem dX2_begin_21 : decode cX2_begin 21 = .ok (.getfield 11, 3) := by decide +kernel
theorem dX2_begin_24 : decode cX2_begin 24 = .ok (.iload_n 1, 1) := by decide +kernel
theorem dX2_begin_25 : decode cX2_begin 25 = .ok (.aaload, 1) := by decide +kernel
theorem dX2_begin_26 : decode cX2_begin 26 = .ok (.iload_n 2, 1) := by decide +kernel
theorem dX2_begin_27 : decode cX2_begin 27 = .ok (.invokevirtual 34, 3) := by decide +kernel
theorem dX2_begin_30 : decode cX2_begin 30 = .ok (.iconst 1, 1) := by decide +kernel
theorem dX2_begin_31 : decode cX2_begin 31 = .ok (.ireturn, 1) := by decide +kernel
abbrev wsX2_begin : List Cond := Cond.code yX2_begin cX2_begin 3 (some .boolean) :: lw_gd
theorem dX2_isGraph_0 : decode cX2_isGraph 0 = .ok (.iload_n 0, 1) := by decide +kernel
theorem dX2_isGraph_1 : decode cX2_isGraph 1 = .ok (.ifCond .lt 13, 3) := by decide +kernel
theorem dX2_isGraph_4 : decode cX2_isGraph 4 = .ok (.iload_n 0, 1) := by decide +kernel
theorem dX2_isGraph_5 : decode cX2_isGraph 5 = .ok (.bipush 8, 2) := by decide +kernel
theorem dX2_isGraph_7 : decode cX2_isGraph 7 = .ok (.if_icmp .ge 7, 3) := by decide +kernel
theorem dX2_isGraph_10 : decode cX2_isGraph 10 = .ok (.iconst 1, 1) := by decide +kernel
theorem dX2_isGraph_11 : decode cX2_isGraph 11 = .ok (.goto 4, 3) := by decide +kernel
theorem dX2_isGraph_14 : decode cX2_isGraph 14 = .ok (.iconst 0, 1) := by decide +kernel
theorem dX2_isGraph_15 : decode cX2_isGraph 15 = .ok (.ireturn, 1) := by decide +kernel
abbrev wsX2_isGraph : List Cond := Cond.code yX2_isGraph cX2_isGraph 1 (some .boolean) :: lw_gd
theorem dX2_add_0 : decode cX2_add 0 = .ok (.iload_n 1, 1) := by decide +kernel
theorem dX2_add_1 : decode cX2_add 1 = .ok (.invokestatic 30, 3) := by decide +kernel
theorem dX2_add_4 : decode cX2_add 4 = .ok (.ifCond .ne 5, 3) := by decide +kernel
theorem dX2_add_7 : decode cX2_add 7 = .ok (.iconst (-1), 1) := by decide +kernel
theorem dX2_add_8 : decode cX2_add 8 = .ok (.ireturn, 1) := by decide +kernel
theorem dX2_add_9 : decode cX2_add 9 = .ok (.aload_n 0, 1) := by decide +kernel
theorem dX2_add_10 : decode cX2_add 10 = .ok (.getfield 11, 3) := by decide +kernel
theorem dX2_add_13 : decode cX2_add 13 = .ok (.iload_n 1, 1) := by decide +kernel
theorem dX2_add_14 : decode cX2_add 14 = .ok (.aaload, 1) := by decide +kernel
theorem dX2_add_15 : decode cX2_add 15 = .ok (.astore 4, 2) := by decide +kernel
theorem dX2_add_17 : decode cX2_add 17 = .ok (.aload 4, 2) := by decide +kernel
theorem dX2_add_19 : decode cX2_add 19 = .ok (.iload_n 2, 1) := by decide +kernel
theorem dX2_add_20 : decode cX2_add 20 = .ok (.invokevirtual 38, 3) := by decide +kernel
theorem dX2_add_23 : decode cX2_add 23 = .ok (.ifCond .eq 16, 3) := by decide +kernel
theorem dX2_add_26 : decode cX2_add 26 = .ok (.aload 4, 2) := by decide +kernel
theorem dX2_add_28 : decode cX2_add 28 = .ok (.iload_n 3, 1) := by decide +kernel
theorem dX2_add_29 : decode cX2_add 29 = .ok (.invokevirtual 38, 3) := by decide +kernel
theorem dX2_add_32 : decode cX2_add 32 = .ok (.ifCond .eq 7, 3) := by decide +kernel
theorem dX2_add_35 : decode cX2_add 35 = .ok (.iconst 1, 1) := by decide +kernel
theorem dX2_add_36 : decode cX2_add 36 = .ok (.goto 4, 3) := by decide +kernel
theorem dX2_add_39 : decode cX2_add 39 = .ok (.iconst 0, 1) := by decide +kernel
theorem dX2_add_40 : decode cX2_add 40 = .ok (.istore 5, 2) := by decide +kernel
theorem dX2_add_42 : decode cX2_add 42 = .ok (.iload 5, 2) := by decide +kernel
theorem dX2_add_44 : decode cX2_add 44 = .ok (.ifCond .eq 18, 3) := by decide +kernel
theorem dX2_add_47 : decode cX2_add 47 = .ok (.aload 4, 2) := by decide +kernel
theorem dX2_add_49 : decode cX2_add 49 = .ok (.iconst 1, 1) := by decide +kernel
theorem dX2_add_50 : decode cX2_add 50 = .ok (.iload_n 2, 1) := by decide +kernel
theorem dX2_add_51 : decode cX2_add 51 = .ok (.ishl, 1) := by decide +kernel
theorem dX2_add_52 : decode cX2_add 52 = .ok (.iconst 1, 1) := by decide +kernel
theorem dX2_add_53 : decode cX2_add 53 = .ok (.iload_n 3, 1) := by decide +kernel
theorem dX2_add_54 : decode cX2_add 54 = .ok (.ishl, 1) := by decide +kernel
theorem dX2_add_55 : decode cX2_add 55 = .ok (.ixor, 1) := by decide +kernel
theorem dX2_add_56 : decode cX2_add 56 = .ok (.invokevirtual 41, 3) := by decide +kernel
theorem dX2_add_59 : decode cX2_add 59 = .ok (.goto 4, 3) := by decide +kernel
theorem dX2_add_62 : decode cX2_add 62 = .ok (.iconst (-1), 1) := by decide +kernel
theorem dX2_add_63 : decode cX2_add 63 = .ok (.ireturn, 1) := by decide +kernel
abbrev wsX2_add : List Cond := Cond.code yX2_add cX2_add 6 (some .int) :: lw_gd
theorem dX2_weigh_0 : decode cX2_weigh 0 = .ok (.aload_n 0, 1) := by decide +kernel
theorem dX2_weigh_1 : decode cX2_weigh 1 = .ok (.iload_n 1, 1) := by decide +kernel
theorem dX2_weigh_2 : decode cX2_weigh 2 = .ok (.iload_n 2, 1) := by decide +kernel
theorem dX2_weigh_3 : decode cX2_weigh 3 = .ok (.invokevirtual 45, 3) := by decide +kernel
theorem dX2_weigh_6 : decode cX2_weigh 6 = .ok (.ifCond .eq 17, 3) := by decide +kernel
theorem dX2_weigh_9 : decode cX2_weigh 9 = .ok (.iload_n 3, 1) := by decide +kernel
theorem dX2_weigh_10 : decode cX2_weigh 10 = .ok (.sipush (-999), 3) := by decide +kernel
theorem dX2_weigh_13 : decode cX2_weigh 13 = .ok (.if_icmp .lt 10, 3) := by decide +kernel
theorem dX2_weigh_16 : decode cX2_weigh 16 = .ok (.iload_n 3, 1) := by decide +kernel
theorem dX2_weigh_17 : decode cX2_weigh 17 = .ok (.sipush 999, 3) := by decide +kernel
theorem dX2_weigh_20 : decode cX2_weigh 20 = .ok (.if_icmp .le 5, 3) := by decide +kernel
theorem dX2_weigh_23 : decode cX2_weigh 23 = .ok (.iconst 0, 1) := by decide +kernel
theorem dX2_weigh_24 : decode cX2_weigh 24 = .ok (.ireturn, 1) := by decide +kernel
theorem dX2_weigh_25 : decode cX2_weigh 25 = .ok (.aload_n 0, 1) := by decide +kernel
theorem dX2_weigh_26 : decode cX2_weigh 26 = .ok (.getfield 11, 3) := by decide +kernel
theorem dX2_weigh_29 : decode cX2_weigh 29 = .ok (.iload_n 1, 1) := by decide +kernel
theorem dX2_weigh_30 : decode cX2_weigh 30 = .ok (.aaload, 1) := by decide +kernel
theorem dX2_weigh_31 : decode cX2_weigh 31 = .ok (.getfield 49, 3) := by decide +kernel
theorem dX2_weigh_34 : decode cX2_weigh 34 = .ok (.iload_n 2, 1) := by decide +kernel
theorem dX2_weigh_35 : decode cX2_weigh 35 = .ok (.iload_n 3, 1) := by decide +kernel
theorem dX2_weigh_36 : decode cX2_weigh 36 = .ok (.iastore, 1) := by decide +kernel
theorem dX2_weigh_37 : decode cX2_weigh 37 = .ok (.iconst 1, 1) := by decide +kernel
theorem dX2_weigh_38 : decode cX2_weigh 38 = .ok (.ireturn, 1) := by decide +kernel
abbrev wsX2_weigh : List Cond := Cond.code yX2_weigh cX2_weigh 4 (some .boolean) :: lw_gd
theorem dX2_isEdge_0 : decode cX2_isEdge 0 = .ok (.iload_n 1, 1) := by decide +kernel
theorem dX2_isEdge_1 : decode cX2_isEdge 1 = .ok (.invokestatic 30, 3) := by decide +kernel
theorem dX2_isEdge_4 : decode cX2_isEdge 4 = .ok (.ifCond .eq 24, 3) := by decide +kernel
theorem dX2_isEdge_7 : decode cX2_isEdge 7 = .ok (.iload_n 2, 1) := by decide +kernel
theorem dX2_isEdge_8 : decode cX2_isEdge 8 = .ok (.ifCond .lt 20, 3) := by decide +kernel
theorem dX2_isEdge_11 : decode cX2_isEdge 11 = .ok (.iload_n 2, 1) := by decide +kernel
theorem dX2_isEdge_12 : decode cX2_isEdge 12 = .ok (.aload_n 0, 1) := by decide +kernel
theorem dX2_isEdge_13 : decode cX2_isEdge 13 = .ok (.getfield 11, 3) := by decide +kernel
theorem dX2_isEdge_16 : decode cX2_isEdge 16 = .ok (.iload_n 1, 1) := by decide +kernel
theorem dX2_isEdge_17 : decode cX2_isEdge 17 = .ok (.aaload, 1) := by decide +kernel
theorem dX2_isEdge_18 : decode cX2_isEdge 18 = .ok (.getfield 59, 3) := by decide +kernel
theorem dX2_isEdge_21 : decode cX2_isEdge 21 = .ok (.if_icmp .ge 7, 3) := by decide +kernel
theorem dX2_isEdge_24 : decode cX2_isEdge 24 = .ok (.iconst 1, 1) := by decide +kernel
theorem dX2_isEdge_25 : decode cX2_isEdge 25 = .ok (.goto 4, 3) := by decide +kernel
theorem dX2_isEdge_28 : decode cX2_isEdge 28 = .ok (.iconst 0, 1) := by decide +kernel
theorem dX2_isEdge_29 : decode cX2_isEdge 29 = .ok (.ireturn, 1) := by decide +kernel
abbrev wsX2_isEdge : List Cond := Cond.code yX2_isEdge cX2_isEdge 3 (some .boolean) :: lw_gd
theorem dX2_leave_0 : decode cX2_leave 0 = .ok (.iload_n 1, 1) := by decide +kernel
theorem dX2_leave_1 : decode cX2_leave 1 = .ok (.invokestatic 30, 3) := by decide +kernel
theorem dX2_leave_4 : decode cX2_leave 4 = .ok (.ifCond .eq 12, 3) := by decide +kernel
theorem dX2_leave_7 : decode cX2_leave 7 = .ok (.aload_n 0, 1) := by decide +kernel
theorem dX2_leave_8 : decode cX2_leave 8 = .ok (.iload_n 2, 1) := by decide +kernel
theorem dX2_leave_9 : decode cX2_leave 9 = .ok (.iload_n 3, 1) := by decide +kernel
theorem dX2_leave_10 : decode cX2_leave 10 = .ok (.invokevirtual 52, 3) := by decide +kernel
theorem dX2_leave_13 : decode cX2_leave 13 = .ok (.ifCond .ne 5, 3) := by decide +kernel
theorem dX2_leave_16 : decode cX2_leave 16 = .ok (.iconst (-1), 1) := by decide +kernel
theorem dX2_leave_17 : decode cX2_leave 17 = .ok (.ireturn, 1) := by decide +kernel
theorem dX2_leave_18 : decode cX2_leave 18 = .ok (.aload_n 0, 1) := by decide +kernel
theorem dX2_leave_19 : decode cX2_leave 19 = .ok (.getfield 11, 3) := by decide +kernel
theorem dX2_leave_22 : decode cX2_leave 22 = .ok (.iload_n 2, 1) := by decide +kernel
theorem dX2_leave_23 : decode cX2_leave 23 = .ok (.aaload, 1) := by decide +kernel
theorem dX2_leave_24 : decode cX2_leave 24 = .ok (.astore 5, 2) := by decide +kernel
theorem dX2_leave_26 : decode cX2_leave 26 = .ok (.aload_n 0, 1) := by decide +kernel
theorem dX2_leave_27 : decode cX2_leave 27 = .ok (.getfield 18, 3) := by decide +kernel
theorem dX2_leave_30 : decode cX2_leave 30 = .ok (.aload 5, 2) := by decide +kernel
theorem dX2_leave_32 : decode cX2_leave 32 = .ok (.iload 4, 2) := by decide +kernel
theorem dX2_leave_34 : decode cX2_leave 34 = .ok (.ifCond .eq 7, 3) := by decide +kernel
theorem dX2_leave_37 : decode cX2_leave 37 = .ok (.iload_n 3, 1) := by decide +kernel
theorem dX2_leave_38 : decode cX2_leave 38 = .ok (.goto 4, 3) := by decide +kernel
theorem dX2_leave_41 : decode cX2_leave 41 = .ok (.iconst 0, 1) := by decide +kernel
theorem dX2_leave_42 : decode cX2_leave 42 = .ok (.invokevirtual 55, 3) := by decide +kernel
theorem dX2_leave_45 : decode cX2_leave 45 = .ok (.pop, 1) := by decide +kernel
theorem dX2_leave_46 : decode cX2_leave 46 = .ok (.iconst 0, 1) := by decide +kernel
theorem dX2_leave_47 : decode cX2_leave 47 = .ok (.istore 6, 2) := by decide +kernel
theorem dX2_leave_49 : decode cX2_leave 49 = .ok (.iconst 0, 1) := by decide +kernel
theorem dX2_leave_50 : decode cX2_leave 50 = .ok (.istore 7, 2) := by decide +kernel
theorem dX2_leave_52 : decode cX2_leave 52 = .ok (.iload 7, 2) := by decide +kernel
theorem dX2_leave_54 : decode cX2_leave 54 = .ok (.aload 5, 2) := by decide +kernel
theorem dX2_leave_56 : decode cX2_leave 56 = .ok (.getfield 59, 3) := by decide +kernel
theorem dX2_leave_59 : decode cX2_leave 59 = .ok (.if_icmp .ge 43, 3) := by decide +kernel
theorem dX2_leave_62 : decode cX2_leave 62 = .ok (.iload_n 3, 1) := by decide +kernel
theorem dX2_leave_63 : decode cX2_leave 63 = .ok (.iload 7, 2) := by decide +kernel
theorem dX2_leave_65 : decode cX2_leave 65 = .ok (.invokestatic 63, 3) := by decide +kernel
theorem dX2_leave_68 : decode cX2_leave 68 = .ok (.ifCond .ne 28, 3) := by decide +kernel
theorem dX2_leave_71 : decode cX2_leave 71 = .ok (.aload_n 0, 1) := by decide +kernel
theorem dX2_leave_72 : decode cX2_leave 72 = .ok (.getfield 25, 3) := by decide +kernel
theorem dX2_leave_75 : decode cX2_leave 75 = .ok (.iload 6, 2) := by decide +kernel
theorem dX2_leave_77 : decode cX2_leave 77 = .ok (.aload_n 0, 1) := by decide +kernel
theorem dX2_leave_78 : decode cX2_leave 78 = .ok (.getfield 18, 3) := by decide +kernel
theorem dX2_leave_81 : decode cX2_leave 81 = .ok (.aload 5, 2) := by decide +kernel
theorem dX2_leave_83 : decode cX2_leave 83 = .ok (.getfield 66, 3) := by decide +kernel
theorem dX2_leave_86 : decode cX2_leave 86 = .ok (.iload 7, 2) := by decide +kernel
theorem dX2_leave_88 : decode cX2_leave 88 = .ok (.iaload, 1) := by decide +kernel
theorem dX2_leave_89 : decode cX2_leave 89 = .ok (.invokevirtual 69, 3) := by decide +kernel
theorem dX2_leave_92 : decode cX2_leave 92 = .ok (.iastore, 1) := by decide +kernel
theorem dX2_leave_93 : decode cX2_leave 93 = .ok (.iinc 6 1, 3) := by decide +kernel
theorem dX2_leave_96 : decode cX2_leave 96 = .ok (.iinc 7 1, 3) := by decide +kernel
theorem dX2_leave_99 : decode cX2_leave 99 = .ok (.goto (-47), 3) := by decide +kernel
theorem dX2_leave_102 : decode cX2_leave 102 = .ok (.aload_n 0, 1) := by decide +kernel
theorem dX2_leave_103 : decode cX2_leave 103 = .ok (.getfield 11, 3) := by decide +kernel
theorem dX2_leave_106 : decode cX2_leave 106 = .ok (.iload_n 1, 1) := by decide +kernel
theorem dX2_leave_107 : decode cX2_leave 107 = .ok (.aaload, 1) := by decide +kernel
theorem dX2_leave_108 : decode cX2_leave 108 = .ok (.aload_n 0, 1) := by decide +kernel
theorem dX2_leave_109 : decode cX2_leave 109 = .ok (.getfield 25, 3) := by decide +kernel
theorem dX2_leave_112 : decode cX2_leave 112 = .ok (.iload 6, 2) := by decide +kernel
theorem dX2_leave_114 : decode cX2_leave 114 = .ok (.invokevirtual 72, 3) := by decide +kernel
theorem dX2_leave_117 : decode cX2_leave 117 = .ok (.iload 6, 2) := by decide +kernel
theorem dX2_leave_119 : decode cX2_leave 119 = .ok (.ireturn, 1) := by decide +kernel
abbrev wsX2_leave : List Cond := Cond.code yX2_leave cX2_leave 8 (some .int) :: lw_gd
theorem dX2_isSet_0 : decode cX2_isSet 0 = .ok (.iload_n 1, 1) := by decide +kernel
theorem dX2_isSet_1 : decode cX2_isSet 1 = .ok (.invokestatic 30, 3) := by decide +kernel
theorem dX2_isSet_4 : decode cX2_isSet 4 = .ok (.ifCond .eq 27, 3) := by decide +kernel
theorem dX2_isSet_7 : decode cX2_isSet 7 = .ok (.iload_n 2, 1) := by decide +kernel
theorem dX2_isSet_8 : decode cX2_isSet 8 = .ok (.ifCond .lt 23, 3) := by decide +kernel
theorem dX2_isSet_11 : decode cX2_isSet 11 = .ok (.iload_n 2, 1) := by decide +kernel
theorem dX2_isSet_12 : decode cX2_isSet 12 = .ok (.aload_n 0, 1) := by decide +kernel
theorem dX2_isSet_13 : decode cX2_isSet 13 = .ok (.getfield 11, 3) := by decide +kernel
theorem dX2_isSet_16 : decode cX2_isSet 16 = .ok (.iload_n 1, 1) := by decide +kernel
theorem dX2_isSet_17 : decode cX2_isSet 17 = .ok (.aaload, 1) := by decide +kernel
theorem dX2_isSet_18 : decode cX2_isSet 18 = .ok (.getfield 59, 3) := by decide +kernel
theorem dX2_isSet_21 : decode cX2_isSet 21 = .ok (.invokestatic 89, 3) := by decide +kernel
theorem dX2_isSet_24 : decode cX2_isSet 24 = .ok (.if_icmp .gt 7, 3) := by decide +kernel
theorem dX2_isSet_27 : decode cX2_isSet 27 = .ok (.iconst 1, 1) := by decide +kernel
theorem dX2_isSet_28 : decode cX2_isSet 28 = .ok (.goto 4, 3) := by decide +kernel
theorem dX2_isSet_31 : decode cX2_isSet 31 = .ok (.iconst 0, 1) := by decide +kernel
theorem dX2_isSet_32 : decode cX2_isSet 32 = .ok (.ireturn, 1) := by decide +kernel
abbrev wsX2_isSet : List Cond := Cond.code yX2_isSet cX2_isSet 3 (some .boolean) :: lw_gd
theorem dX2_all_0 : decode cX2_all 0 = .ok (.iconst 1, 1) := by decide +kernel
theorem dX2_all_1 : decode cX2_all 1 = .ok (.iload_n 0, 1) := by decide +kernel
theorem dX2_all_2 : decode cX2_all 2 = .ok (.ishl, 1) := by decide +kernel
theorem dX2_all_3 : decode cX2_all 3 = .ok (.iconst 1, 1) := by decide +kernel
theorem dX2_all_4 : decode cX2_all 4 = .ok (.isub, 1) := by decide +kernel
theorem dX2_all_5 : decode cX2_all 5 = .ok (.ireturn, 1) := by decide +kernel
abbrev wsX2_all : List Cond := Cond.code yX2_all cX2_all 1 (some .int) :: lw_gd
theorem dX2_has_0 : decode cX2_has 0 = .ok (.iload_n 0, 1) := by decide +kernel
theorem dX2_has_1 : decode cX2_has 1 = .ok (.iload_n 1, 1) := by decide +kernel
theorem dX2_has_2 : decode cX2_has 2 = .ok (.ishr, 1) := by decide +kernel
theorem dX2_has_3 : decode cX2_has 3 = .ok (.iconst 1, 1) := by decide +kernel
theorem dX2_has_4 : decode cX2_has 4 = .ok (.iand, 1) := by decide +kernel
theorem dX2_has_5 : decode cX2_has 5 = .ok (.ifCond .eq 7, 3) := by decide +kernel
theorem dX2_has_8 : decode cX2_has 8 = .ok (.iconst 1, 1) := by decide +kernel
theorem dX2_has_9 : decode cX2_has 9 = .ok (.goto 4, 3) := by decide +kernel
theorem dX2_has_12 : decode cX2_has 12 = .ok (.iconst 0, 1) := by decide +kernel
theorem dX2_has_13 : decode cX2_has 13 = .ok (.ireturn, 1) := by decide +kernel
abbrev wsX2_has : List Cond := Cond.code yX2_has cX2_has 2 (some .boolean) :: lw_gd
theorem dX2_beside_0 : decode cX2_beside 0 = .ok (.iload_n 1, 1) := by decide +kernel
theorem dX2_beside_1 : decode cX2_beside 1 = .ok (.invokestatic 30, 3) := by decide +kernel
theorem dX2_beside_4 : decode cX2_beside 4 = .ok (.ifCond .eq 17, 3) := by decide +kernel
theorem dX2_beside_7 : decode cX2_beside 7 = .ok (.iload_n 2, 1) := by decide +kernel
theorem dX2_beside_8 : decode cX2_beside 8 = .ok (.invokestatic 30, 3) := by decide +kernel
theorem dX2_beside_11 : decode cX2_beside 11 = .ok (.ifCond .eq 10, 3) := by decide +kernel
theorem dX2_beside_14 : decode cX2_beside 14 = .ok (.iload_n 3, 1) := by decide +kernel
theorem dX2_beside_15 : decode cX2_beside 15 = .ok (.invokestatic 30, 3) := by decide +kernel
theorem dX2_beside_18 : decode cX2_beside 18 = .ok (.ifCond .ne 5, 3) := by decide +kernel
theorem dX2_beside_21 : decode cX2_beside 21 = .ok (.iconst (-1), 1) := by decide +kernel
theorem dX2_beside_22 : decode cX2_beside 22 = .ok (.ireturn, 1) := by decide +kernel
theorem dX2_beside_23 : decode cX2_beside 23 = .ok (.aload_n 0, 1) := by decide +kernel
theorem dX2_beside_24 : decode cX2_beside 24 = .ok (.getfield 11, 3) := by decide +kernel
theorem dX2_beside_27 : decode cX2_beside 27 = .ok (.iload_n 2, 1) := by decide +kernel
theorem dX2_beside_28 : decode cX2_beside 28 = .ok (.aaload, 1) := by decide +kernel
theorem dX2_beside_29 : decode cX2_beside 29 = .ok (.getfield 59, 3) := by decide +kernel
theorem dX2_beside_32 : decode cX2_beside 32 = .ok (.istore 4, 2) := by decide +kernel
theorem dX2_beside_34 : decode cX2_beside 34 = .ok (.iload 4, 2) := by decide +kernel
theorem dX2_beside_36 : decode cX2_beside 36 = .ok (.aload_n 0, 1) := by decide +kernel
theorem dX2_beside_37 : decode cX2_beside 37 = .ok (.getfield 11, 3) := by decide +kernel
theorem dX2_beside_40 : decode cX2_beside 40 = .ok (.iload_n 3, 1) := by decide +kernel
theorem dX2_beside_41 : decode cX2_beside 41 = .ok (.aaload, 1) := by decide +kernel
theorem dX2_beside_42 : decode cX2_beside 42 = .ok (.getfield 59, 3) := by decide +kernel
theorem dX2_beside_45 : decode cX2_beside 45 = .ok (.iadd, 1) := by decide +kernel
theorem dX2_beside_46 : decode cX2_beside 46 = .ok (.istore 5, 2) := by decide +kernel
theorem dX2_beside_48 : decode cX2_beside 48 = .ok (.iload 5, 2) := by decide +kernel
theorem dX2_beside_50 : decode cX2_beside 50 = .ok (.bipush 12, 2) := by decide +kernel
theorem dX2_beside_52 : decode cX2_beside 52 = .ok (.if_icmp .le 5, 3) := by decide +kernel
theorem dX2_beside_55 : decode cX2_beside 55 = .ok (.iconst (-1), 1) := by decide +kernel
theorem dX2_beside_56 : decode cX2_beside 56 = .ok (.ireturn, 1) := by decide +kernel
theorem dX2_beside_57 : decode cX2_beside 57 = .ok (.aload_n 0, 1) := by decide +kernel
theorem dX2_beside_58 : decode cX2_beside 58 = .ok (.aload_n 0, 1) := by decide +kernel
theorem dX2_beside_59 : decode cX2_beside 59 = .ok (.getfield 11, 3) := by decide +kernel
theorem dX2_beside_62 : decode cX2_beside 62 = .ok (.iload_n 2, 1) := by decide +kernel
theorem dX2_beside_63 : decode cX2_beside 63 = .ok (.aaload, 1) := by decide +kernel
theorem dX2_beside_64 : decode cX2_beside 64 = .ok (.iconst 0, 1) := by decide +kernel
theorem dX2_beside_65 : decode cX2_beside 65 = .ok (.iconst 0, 1) := by decide +kernel
theorem dX2_beside_66 : decode cX2_beside 66 = .ok (.invokevirtual 76, 3) := by decide +kernel
theorem dX2_beside_69 : decode cX2_beside 69 = .ok (.aload_n 0, 1) := by decide +kernel
theorem dX2_beside_70 : decode cX2_beside 70 = .ok (.aload_n 0, 1) := by decide +kernel
theorem dX2_beside_71 : decode cX2_beside 71 = .ok (.getfield 11, 3) := by decide +kernel
theorem dX2_beside_74 : decode cX2_beside 74 = .ok (.iload_n 3, 1) := by decide +kernel
theorem dX2_beside_75 : decode cX2_beside 75 = .ok (.aaload, 1) := by decide +kernel
theorem dX2_beside_76 : decode cX2_beside 76 = .ok (.iload 4, 2) := by decide +kernel
theorem dX2_beside_78 : decode cX2_beside 78 = .ok (.aload_n 0, 1) := by decide +kernel
theorem dX2_beside_79 : decode cX2_beside 79 = .ok (.getfield 11, 3) := by decide +kernel
theorem dX2_beside_82 : decode cX2_beside 82 = .ok (.iload_n 2, 1) := by decide +kernel
theorem dX2_beside_83 : decode cX2_beside 83 = .ok (.aaload, 1) := by decide +kernel
theorem dX2_beside_84 : decode cX2_beside 84 = .ok (.invokevirtual 80, 3) := by decide +kernel
theorem dX2_beside_87 : decode cX2_beside 87 = .ok (.invokestatic 84, 3) := by decide +kernel
theorem dX2_beside_90 : decode cX2_beside 90 = .ok (.invokevirtual 76, 3) := by decide +kernel
theorem dX2_beside_93 : decode cX2_beside 93 = .ok (.aload_n 0, 1) := by decide +kernel
theorem dX2_beside_94 : decode cX2_beside 94 = .ok (.getfield 11, 3) := by decide +kernel
theorem dX2_beside_97 : decode cX2_beside 97 = .ok (.iload_n 1, 1) := by decide +kernel
theorem dX2_beside_98 : decode cX2_beside 98 = .ok (.aaload, 1) := by decide +kernel
theorem dX2_beside_99 : decode cX2_beside 99 = .ok (.aload_n 0, 1) := by decide +kernel
theorem dX2_beside_100 : decode cX2_beside 100 = .ok (.getfield 25, 3) := by decide +kernel
theorem dX2_beside_103 : decode cX2_beside 103 = .ok (.iload 5, 2) := by decide +kernel
theorem dX2_beside_105 : decode cX2_beside 105 = .ok (.invokevirtual 72, 3) := by decide +kernel
theorem dX2_beside_108 : decode cX2_beside 108 = .ok (.iload 5, 2) := by decide +kernel
theorem dX2_beside_110 : decode cX2_beside 110 = .ok (.ireturn, 1) := by decide +kernel
abbrev wsX2_beside : List Cond := Cond.code yX2_beside cX2_beside 6 (some .int) :: lw_gd
theorem dX2_draftPacked_0 : decode cX2_draftPacked 0 = .ok (.aload_n 1, 1) := by decide +kernel
theorem dX2_draftPacked_1 : decode cX2_draftPacked 1 = .ok (.invokevirtual 80, 3) := by decide +kernel
theorem dX2_draftPacked_4 : decode cX2_draftPacked 4 = .ok (.istore 4, 2) := by decide +kernel
theorem dX2_draftPacked_6 : decode cX2_draftPacked 6 = .ok (.iconst 0, 1) := by decide +kernel
theorem dX2_draftPacked_7 : decode cX2_draftPacked 7 = .ok (.istore 5, 2) := by decide +kernel
theorem dX2_draftPacked_9 : decode cX2_draftPacked 9 = .ok (.iload 5, 2) := by decide +kernel
theorem dX2_draftPacked_11 : decode cX2_draftPacked 11 = .ok (.aload_n 1, 1) := by decide +kernel
theorem dX2_draftPacked_12 : decode cX2_draftPacked 12 = .ok (.getfield 59, 3) := by decide +kernel
theorem dX2_draftPacked_15 : decode cX2_draftPacked 15 = .ok (.if_icmp .ge 41, 3) := by decide +kernel
theorem dX2_draftPacked_18 : decode cX2_draftPacked 18 = .ok (.iload_n 2, 1) := by decide +kernel
theorem dX2_draftPacked_19 : decode cX2_draftPacked 19 = .ok (.iload 5, 2) := by decide +kernel
theorem dX2_draftPacked_21 : decode cX2_draftPacked 21 = .ok (.iadd, 1) := by decide +kernel
theorem dX2_draftPacked_22 : decode cX2_draftPacked 22 = .ok (.bipush 12, 2) := by decide +kernel
theorem dX2_draftPacked_24 : decode cX2_draftPacked 24 = .ok (.if_icmp .ge 32, 3) := by decide +kernel
theorem dX2_draftPacked_27 : decode cX2_draftPacked 27 = .ok (.aload_n 0, 1) := by decide +kernel
theorem dX2_draftPacked_28 : decode cX2_draftPacked 28 = .ok (.getfield 25, 3) := by decide +kernel
theorem dX2_draftPacked_31 : decode cX2_draftPacked 31 = .ok (.iload_n 2, 1) := by decide +kernel
theorem dX2_draftPacked_32 : decode cX2_draftPacked 32 = .ok (.iload 5, 2) := by decide +kernel
theorem dX2_draftPacked_34 : decode cX2_draftPacked 34 = .ok (.iadd, 1) := by decide +kernel
theorem dX2_draftPacked_35 : decode cX2_draftPacked 35 = .ok (.aload_n 1, 1) := by decide +kernel
theorem dX2_draftPacked_36 : decode cX2_draftPacked 36 = .ok (.getfield 66, 3) := by decide +kernel
theorem dX2_draftPacked_39 : decode cX2_draftPacked 39 = .ok (.iload 5, 2) := by decide +kernel
theorem dX2_draftPacked_41 : decode cX2_draftPacked 41 = .ok (.iaload, 1) := by decide +kernel
theorem dX2_draftPacked_42 : decode cX2_draftPacked 42 = .ok (.iload 4, 2) := by decide +kernel
theorem dX2_draftPacked_44 : decode cX2_draftPacked 44 = .ok (.invokestatic 111, 3) := by decide +kernel
theorem dX2_draftPacked_47 : decode cX2_draftPacked 47 = .ok (.iload_n 3, 1) := by decide +kernel
theorem dX2_draftPacked_48 : decode cX2_draftPacked 48 = .ok (.ishl, 1) := by decide +kernel
theorem dX2_draftPacked_49 : decode cX2_draftPacked 49 = .ok (.iastore, 1) := by decide +kernel
theorem dX2_draftPacked_50 : decode cX2_draftPacked 50 = .ok (.iinc 5 1, 3) := by decide +kernel
theorem dX2_draftPacked_53 : decode cX2_draftPacked 53 = .ok (.goto (-44), 3) := by decide +kernel
theorem dX2_draftPacked_56 : decode cX2_draftPacked 56 = .ok (.return_, 1) := by decide +kernel
abbrev wsX2_draftPacked : List Cond := Cond.code yX2_draftPacked cX2_draftPacked 6 none :: lw_gd
theorem dX2_packed_0 : decode cX2_packed 0 = .ok (.iload_n 0, 1) := by decide +kernel
theorem dX2_packed_1 : decode cX2_packed 1 = .ok (.ifCond .ne 5, 3) := by decide +kernel
theorem dX2_packed_4 : decode cX2_packed 4 = .ok (.iconst 0, 1) := by decide +kernel
theorem dX2_packed_5 : decode cX2_packed 5 = .ok (.ireturn, 1) := by decide +kernel
theorem dX2_packed_6 : decode cX2_packed 6 = .ok (.iload_n 0, 1) := by decide +kernel
theorem dX2_packed_7 : decode cX2_packed 7 = .ok (.iload_n 0, 1) := by decide +kernel
theorem dX2_packed_8 : decode cX2_packed 8 = .ok (.ineg, 1) := by decide +kernel
theorem dX2_packed_9 : decode cX2_packed 9 = .ok (.iand, 1) := by decide +kernel
theorem dX2_packed_10 : decode cX2_packed 10 = .ok (.istore_n 2, 1) := by decide +kernel
theorem dX2_packed_11 : decode cX2_packed 11 = .ok (.iload_n 0, 1) := by decide +kernel
theorem dX2_packed_12 : decode cX2_packed 12 = .ok (.iload_n 2, 1) := by decide +kernel
theorem dX2_packed_13 : decode cX2_packed 13 = .ok (.ixor, 1) := by decide +kernel
theorem dX2_packed_14 : decode cX2_packed 14 = .ok (.istore_n 3, 1) := by decide +kernel
theorem dX2_packed_15 : decode cX2_packed 15 = .ok (.iconst 1, 1) := by decide +kernel
theorem dX2_packed_16 : decode cX2_packed 16 = .ok (.iload_n 1, 1) := by decide +kernel
theorem dX2_packed_17 : decode cX2_packed 17 = .ok (.iload_n 2, 1) := by decide +kernel
theorem dX2_packed_18 : decode cX2_packed 18 = .ok (.iconst 1, 1) := by decide +kernel
theorem dX2_packed_19 : decode cX2_packed 19 = .ok (.isub, 1) := by decide +kernel
theorem dX2_packed_20 : decode cX2_packed 20 = .ok (.iand, 1) := by decide +kernel
theorem dX2_packed_21 : decode cX2_packed 21 = .ok (.invokestatic 84, 3) := by decide +kernel
theorem dX2_packed_24 : decode cX2_packed 24 = .ok (.ishl, 1) := by decide +kernel
theorem dX2_packed_25 : decode cX2_packed 25 = .ok (.iconst 1, 1) := by decide +kernel
theorem dX2_packed_26 : decode cX2_packed 26 = .ok (.iload_n 1, 1) := by decide +kernel
theorem dX2_packed_27 : decode cX2_packed 27 = .ok (.iload_n 3, 1) := by decide +kernel
theorem dX2_packed_28 : decode cX2_packed 28 = .ok (.iconst 1, 1) := by decide +kernel
theorem dX2_packed_29 : decode cX2_packed 29 = .ok (.isub, 1) := by decide +kernel
theorem dX2_packed_30 : decode cX2_packed 30 = .ok (.iand, 1) := by decide +kernel
theorem dX2_packed_31 : decode cX2_packed 31 = .ok (.invokestatic 84, 3) := by decide +kernel
theorem dX2_packed_34 : decode cX2_packed 34 = .ok (.ishl, 1) := by decide +kernel
theorem dX2_packed_35 : decode cX2_packed 35 = .ok (.ior, 1) := by decide +kernel
theorem dX2_packed_36 : decode cX2_packed 36 = .ok (.ireturn, 1) := by decide +kernel
abbrev wsX2_packed : List Cond := Cond.code yX2_packed cX2_packed 4 (some .int) :: lw_gd
theorem dX2_edges_0 : decode cX2_edges 0 = .ok (.iload_n 1, 1) := by decide +kernel
theorem dX2_edges_1 : decode cX2_edges 1 = .ok (.invokestatic 30, 3) := by decide +kernel
theorem dX2_edges_4 : decode cX2_edges 4 = .ok (.ifCond .eq 15, 3) := by decide +kernel
theorem dX2_edges_7 : decode cX2_edges 7 = .ok (.aload_n 0, 1) := by decide +kernel
theorem dX2_edges_8 : decode cX2_edges 8 = .ok (.getfield 11, 3) := by decide +kernel
theorem dX2_edges_11 : decode cX2_edges 11 = .ok (.iload_n 1, 1) := by decide +kernel
theorem dX2_edges_12 : decode cX2_edges 12 = .ok (.aaload, 1) := by decide +kernel
theorem dX2_edges_13 : decode cX2_edges 13 = .ok (.getfield 59, 3) := by decide +kernel
theorem dX2_edges_16 : decode cX2_edges 16 = .ok (.goto 4, 3) := by decide +kernel
theorem dX2_edges_19 : decode cX2_edges 19 = .ok (.iconst (-1), 1) := by decide +kernel
theorem dX2_edges_20 : decode cX2_edges 20 = .ok (.ireturn, 1) := by decide +kernel
abbrev wsX2_edges : List Cond := Cond.code yX2_edges cX2_edges 2 (some .int) :: lw_gd
theorem dX2_weight_0 : decode cX2_weight 0 = .ok (.aload_n 0, 1) := by decide +kernel
theorem dX2_weight_1 : decode cX2_weight 1 = .ok (.iload_n 1, 1) := by decide +kernel
theorem dX2_weight_2 : decode cX2_weight 2 = .ok (.iload_n 2, 1) := by decide +kernel
theorem dX2_weight_3 : decode cX2_weight 3 = .ok (.invokevirtual 45, 3) := by decide +kernel
theorem dX2_weight_6 : decode cX2_weight 6 = .ok (.ifCond .eq 17, 3) := by decide +kernel
theorem dX2_weight_9 : decode cX2_weight 9 = .ok (.aload_n 0, 1) := by decide +kernel
theorem dX2_weight_10 : decode cX2_weight 10 = .ok (.getfield 11, 3) := by decide +kernel
theorem dX2_weight_13 : decode cX2_weight 13 = .ok (.iload_n 1, 1) := by decide +kernel
theorem dX2_weight_14 : decode cX2_weight 14 = .ok (.aaload, 1) := by decide +kernel
theorem dX2_weight_15 : decode cX2_weight 15 = .ok (.getfield 49, 3) := by decide +kernel
theorem dX2_weight_18 : decode cX2_weight 18 = .ok (.iload_n 2, 1) := by decide +kernel
theorem dX2_weight_19 : decode cX2_weight 19 = .ok (.iaload, 1) := by decide +kernel
theorem dX2_weight_20 : decode cX2_weight 20 = .ok (.goto 4, 3) := by decide +kernel
theorem dX2_weight_23 : decode cX2_weight 23 = .ok (.iconst 0, 1) := by decide +kernel
theorem dX2_weight_24 : decode cX2_weight 24 = .ok (.ireturn, 1) := by decide +kernel
abbrev wsX2_weight : List Cond := Cond.code yX2_weight cX2_weight 3 (some .int) :: lw_gd
theorem dX2_rank_0 : decode cX2_rank 0 = .ok (.aload_n 0, 1) := by decide +kernel
theorem dX2_rank_1 : decode cX2_rank 1 = .ok (.iload_n 1, 1) := by decide +kernel
theorem dX2_rank_2 : decode cX2_rank 2 = .ok (.iload_n 2, 1) := by decide +kernel
theorem dX2_rank_3 : decode cX2_rank 3 = .ok (.invokevirtual 52, 3) := by decide +kernel
theorem dX2_rank_6 : decode cX2_rank 6 = .ok (.ifCond .eq 20, 3) := by decide +kernel
theorem dX2_rank_9 : decode cX2_rank 9 = .ok (.aload_n 0, 1) := by decide +kernel
theorem dX2_rank_10 : decode cX2_rank 10 = .ok (.getfield 18, 3) := by decide +kernel
theorem dX2_rank_13 : decode cX2_rank 13 = .ok (.aload_n 0, 1) := by decide +kernel
theorem dX2_rank_14 : decode cX2_rank 14 = .ok (.getfield 11, 3) := by decide +kernel
theorem dX2_rank_17 : decode cX2_rank 17 = .ok (.iload_n 1, 1) := by decide +kernel
theorem dX2_rank_18 : decode cX2_rank 18 = .ok (.aaload, 1) := by decide +kernel
theorem dX2_rank_19 : decode cX2_rank 19 = .ok (.iload_n 2, 1) := by decide +kernel
theorem dX2_rank_20 : decode cX2_rank 20 = .ok (.invokevirtual 55, 3) := by decide +kernel
theorem dX2_rank_23 : decode cX2_rank 23 = .ok (.goto 4, 3) := by decide +kernel
theorem dX2_rank_26 : decode cX2_rank 26 = .ok (.iconst (-1), 1) := by decide +kernel
theorem dX2_rank_27 : decode cX2_rank 27 = .ok (.ireturn, 1) := by decide +kernel
abbrev wsX2_rank : List Cond := Cond.code yX2_rank cX2_rank 3 (some .int) :: lw_gd
theorem dX2_best_0 : decode cX2_best 0 = .ok (.iload_n 1, 1) := by decide +kernel
theorem dX2_best_1 : decode cX2_best 1 = .ok (.invokestatic 30, 3) := by decide +kernel
theorem dX2_best_4 : decode cX2_best 4 = .ok (.ifCond .ne 5, 3) := by decide +kernel
theorem dX2_best_7 : decode cX2_best 7 = .ok (.iconst (-1), 1) := by decide +kernel
theorem dX2_best_8 : decode cX2_best 8 = .ok (.ireturn, 1) := by decide +kernel
theorem dX2_best_9 : decode cX2_best 9 = .ok (.aload_n 0, 1) := by decide +kernel
theorem dX2_best_10 : decode cX2_best 10 = .ok (.getfield 11, 3) := by decide +kernel
theorem dX2_best_13 : decode cX2_best 13 = .ok (.iload_n 1, 1) := by decide +kernel
theorem dX2_best_14 : decode cX2_best 14 = .ok (.aaload, 1) := by decide +kernel
theorem dX2_best_15 : decode cX2_best 15 = .ok (.astore_n 2, 1) := by decide +kernel
theorem dX2_best_16 : decode cX2_best 16 = .ok (.aload_n 2, 1) := by decide +kernel
theorem dX2_best_17 : decode cX2_best 17 = .ok (.getfield 59, 3) := by decide +kernel
theorem dX2_best_20 : decode cX2_best 20 = .ok (.invokestatic 89, 3) := by decide +kernel
theorem dX2_best_23 : decode cX2_best 23 = .ok (.istore_n 3, 1) := by decide +kernel
theorem dX2_best_24 : decode cX2_best 24 = .ok (.iconst 0, 1) := by decide +kernel
theorem dX2_best_25 : decode cX2_best 25 = .ok (.istore 4, 2) := by decide +kernel
theorem dX2_best_27 : decode cX2_best 27 = .ok (.aload_n 0, 1) := by decide +kernel
theorem dX2_best_28 : decode cX2_best 28 = .ok (.getfield 18, 3) := by decide +kernel
theorem dX2_best_31 : decode cX2_best 31 = .ok (.invokevirtual 92, 3) := by decide +kernel
theorem dX2_best_34 : decode cX2_best 34 = .ok (.iconst 0, 1) := by decide +kernel
theorem dX2_best_35 : decode cX2_best 35 = .ok (.istore 5, 2) := by decide +kernel
theorem dX2_best_37 : decode cX2_best 37 = .ok (.iload 5, 2) := by decide +kernel
theorem dX2_best_39 : decode cX2_best 39 = .ok (.aload_n 2, 1) := by decide +kernel
theorem dX2_best_40 : decode cX2_best 40 = .ok (.getfield 59, 3) := by decide +kernel
theorem dX2_best_43 : decode cX2_best 43 = .ok (.if_icmp .ge 53, 3) := by decide +kernel
theorem dX2_best_46 : decode cX2_best 46 = .ok (.aload_n 2, 1) := by decide +kernel
theorem dX2_best_47 : decode cX2_best 47 = .ok (.iload_n 3, 1) := by decide +kernel
theorem dX2_best_48 : decode cX2_best 48 = .ok (.invokevirtual 95, 3) := by decide +kernel
theorem dX2_best_51 : decode cX2_best 51 = .ok (.istore 6, 2) := by decide +kernel
theorem dX2_best_53 : decode cX2_best 53 = .ok (.iload_n 3, 1) := by decide +kernel
theorem dX2_best_54 : decode cX2_best 54 = .ok (.iconst 1, 1) := by decide +kernel
theorem dX2_best_55 : decode cX2_best 55 = .ok (.iload 6, 2) := by decide +kernel
theorem dX2_best_57 : decode cX2_best 57 = .ok (.ishl, 1) := by decide +kernel
theorem dX2_best_58 : decode cX2_best 58 = .ok (.iconst (-1), 1) := by decide +kernel
theorem dX2_best_59 : decode cX2_best 59 = .ok (.ixor, 1) := by decide +kernel
theorem dX2_best_60 : decode cX2_best 60 = .ok (.iand, 1) := by decide +kernel
theorem dX2_best_61 : decode cX2_best 61 = .ok (.istore_n 3, 1) := by decide +kernel
theorem dX2_best_62 : decode cX2_best 62 = .ok (.aload_n 0, 1) := by decide +kernel
theorem dX2_best_63 : decode cX2_best 63 = .ok (.getfield 18, 3) := by decide +kernel
theorem dX2_best_66 : decode cX2_best 66 = .ok (.iload 6, 2) := by decide +kernel
theorem dX2_best_68 : decode cX2_best 68 = .ok (.aload_n 2, 1) := by decide +kernel
theorem dX2_best_69 : decode cX2_best 69 = .ok (.getfield 66, 3) := by decide +kernel
theorem dX2_best_72 : decode cX2_best 72 = .ok (.iload 6, 2) := by decide +kernel
theorem dX2_best_74 : decode cX2_best 74 = .ok (.iaload, 1) := by decide +kernel
theorem dX2_best_75 : decode cX2_best 75 = .ok (.invokevirtual 98, 3) := by decide +kernel
theorem dX2_best_78 : decode cX2_best 78 = .ok (.ifCond .eq 12, 3) := by decide +kernel
theorem dX2_best_81 : decode cX2_best 81 = .ok (.iload 4, 2) := by decide +kernel
theorem dX2_best_83 : decode cX2_best 83 = .ok (.iconst 1, 1) := by decide +kernel
theorem dX2_best_84 : decode cX2_best 84 = .ok (.iload 6, 2) := by decide +kernel
theorem dX2_best_86 : decode cX2_best 86 = .ok (.ishl, 1) := by decide +kernel
theorem dX2_best_87 : decode cX2_best 87 = .ok (.ior, 1) := by decide +kernel
theorem dX2_best_88 : decode cX2_best 88 = .ok (.istore 4, 2) := by decide +kernel
theorem dX2_best_90 : decode cX2_best 90 = .ok (.iinc 5 1, 3) := by decide +kernel
theorem dX2_best_93 : decode cX2_best 93 = .ok (.goto (-56), 3) := by decide +kernel
theorem dX2_best_96 : decode cX2_best 96 = .ok (.iload 4, 2) := by decide +kernel
theorem dX2_best_98 : decode cX2_best 98 = .ok (.ireturn, 1) := by decide +kernel
abbrev wsX2_best : List Cond := Cond.code yX2_best cX2_best 7 (some .int) :: lw_gd
theorem dX2_common_0 : decode cX2_common 0 = .ok (.aload_n 0, 1) := by decide +kernel
theorem dX2_common_1 : decode cX2_common 1 = .ok (.iload_n 1, 1) := by decide +kernel
theorem dX2_common_2 : decode cX2_common 2 = .ok (.iload_n 2, 1) := by decide +kernel
theorem dX2_common_3 : decode cX2_common 3 = .ok (.invokevirtual 101, 3) := by decide +kernel
theorem dX2_common_6 : decode cX2_common 6 = .ok (.ifCond .eq 22, 3) := by decide +kernel
theorem dX2_common_9 : decode cX2_common 9 = .ok (.aload_n 0, 1) := by decide +kernel
theorem dX2_common_10 : decode cX2_common 10 = .ok (.aload_n 0, 1) := by decide +kernel
theorem dX2_common_11 : decode cX2_common 11 = .ok (.getfield 11, 3) := by decide +kernel
theorem dX2_common_14 : decode cX2_common 14 = .ok (.iload_n 1, 1) := by decide +kernel
theorem dX2_common_15 : decode cX2_common 15 = .ok (.aaload, 1) := by decide +kernel
theorem dX2_common_16 : decode cX2_common 16 = .ok (.aload_n 0, 1) := by decide +kernel
theorem dX2_common_17 : decode cX2_common 17 = .ok (.getfield 11, 3) := by decide +kernel
theorem dX2_common_20 : decode cX2_common 20 = .ok (.iload_n 2, 1) := by decide +kernel
theorem dX2_common_21 : decode cX2_common 21 = .ok (.aaload, 1) := by decide +kernel
theorem dX2_common_22 : decode cX2_common 22 = .ok (.invokevirtual 104, 3) := by decide +kernel
theorem dX2_common_25 : decode cX2_common 25 = .ok (.goto 4, 3) := by decide +kernel
theorem dX2_common_28 : decode cX2_common 28 = .ok (.iconst (-1), 1) := by decide +kernel
theorem dX2_common_29 : decode cX2_common 29 = .ok (.ireturn, 1) := by decide +kernel
abbrev wsX2_common : List Cond := Cond.code yX2_common cX2_common 3 (some .int) :: lw_gd
theorem dX2_areAlike_0 : decode cX2_areAlike 0 = .ok (.iload_n 1, 1) := by decide +kernel
theorem dX2_areAlike_1 : decode cX2_areAlike 1 = .ok (.invokestatic 30, 3) := by decide +kernel
theorem dX2_areAlike_4 : decode cX2_areAlike 4 = .ok (.ifCond .eq 35, 3) := by decide +kernel
theorem dX2_areAlike_7 : decode cX2_areAlike 7 = .ok (.iload_n 2, 1) := by decide +kernel
theorem dX2_areAlike_8 : decode cX2_areAlike 8 = .ok (.invokestatic 30, 3) := by decide +kernel
theorem dX2_areAlike_11 : decode cX2_areAlike 11 = .ok (.ifCond .eq 28, 3) := by decide +kernel
theorem dX2_areAlike_14 : decode cX2_areAlike 14 = .ok (.aload_n 0, 1) := by decide +kernel
theorem dX2_areAlike_15 : decode cX2_areAlike 15 = .ok (.getfield 11, 3) := by decide +kernel
theorem dX2_areAlike_18 : decode cX2_areAlike 18 = .ok (.iload_n 1, 1) := by decide +kernel
theorem dX2_areAlike_19 : decode cX2_areAlike 19 = .ok (.aaload, 1) := by decide +kernel
theorem dX2_areAlike_20 : decode cX2_areAlike 20 = .ok (.getfield 59, 3) := by decide +kernel
theorem dX2_areAlike_23 : decode cX2_areAlike 23 = .ok (.aload_n 0, 1) := by decide +kernel
theorem dX2_areAlike_24 : decode cX2_areAlike 24 = .ok (.getfield 11, 3) := by decide +kernel
theorem dX2_areAlike_27 : decode cX2_areAlike 27 = .ok (.iload_n 2, 1) := by decide +kernel
theorem dX2_areAlike_28 : decode cX2_areAlike 28 = .ok (.aaload, 1) := by decide +kernel
theorem dX2_areAlike_29 : decode cX2_areAlike 29 = .ok (.getfield 59, 3) := by decide +kernel
theorem dX2_areAlike_32 : decode cX2_areAlike 32 = .ok (.if_icmp .ne 7, 3) := by decide +kernel
theorem dX2_areAlike_35 : decode cX2_areAlike 35 = .ok (.iconst 1, 1) := by decide +kernel
theorem dX2_areAlike_36 : decode cX2_areAlike 36 = .ok (.goto 4, 3) := by decide +kernel
theorem dX2_areAlike_39 : decode cX2_areAlike 39 = .ok (.iconst 0, 1) := by decide +kernel
theorem dX2_areAlike_40 : decode cX2_areAlike 40 = .ok (.ireturn, 1) := by decide +kernel
abbrev wsX2_areAlike : List Cond := Cond.code yX2_areAlike cX2_areAlike 3 (some .boolean) :: lw_gd
theorem dX2_largestInBoth_0 : decode cX2_largestInBoth 0 = .ok (.aload_n 0, 1) := by decide +kernel
theorem dX2_largestInBoth_1 : decode cX2_largestInBoth 1 = .ok (.getfield 18, 3) := by decide +kernel
theorem dX2_largestInBoth_4 : decode cX2_largestInBoth 4 = .ok (.aload_n 1, 1) := by decide +kernel
theorem dX2_largestInBoth_5 : decode cX2_largestInBoth 5 = .ok (.aload_n 1, 1) := by decide +kernel
theorem dX2_largestInBoth_6 : decode cX2_largestInBoth 6 = .ok (.getfield 59, 3) := by decide +kernel
theorem dX2_largestInBoth_9 : decode cX2_largestInBoth 9 = .ok (.invokestatic 89, 3) := by decide +kernel
theorem dX2_largestInBoth_12 : decode cX2_largestInBoth 12 = .ok (.invokevirtual 55, 3) := by decide +kernel
theorem dX2_largestInBoth_15 : decode cX2_largestInBoth 15 = .ok (.aload_n 0, 1) := by decide +kernel
theorem dX2_largestInBoth_16 : decode cX2_largestInBoth 16 = .ok (.getfield 22, 3) := by decide +kernel
theorem dX2_largestInBoth_19 : decode cX2_largestInBoth 19 = .ok (.aload_n 2, 1) := by decide +kernel
theorem dX2_largestInBoth_20 : decode cX2_largestInBoth 20 = .ok (.aload_n 2, 1) := by decide +kernel
theorem dX2_largestInBoth_21 : decode cX2_largestInBoth 21 = .ok (.getfield 59, 3) := by decide +kernel
theorem dX2_largestInBoth_24 : decode cX2_largestInBoth 24 = .ok (.invokestatic 89, 3) := by decide +kernel
theorem dX2_largestInBoth_27 : decode cX2_largestInBoth 27 = .ok (.invokevirtual 55, 3) := by decide +kernel
theorem dX2_largestInBoth_30 : decode cX2_largestInBoth 30 = .ok (.invokestatic 115, 3) := by decide +kernel
theorem dX2_largestInBoth_33 : decode cX2_largestInBoth 33 = .ok (.istore_n 3, 1) := by decide +kernel
theorem dX2_largestInBoth_34 : decode cX2_largestInBoth 34 = .ok (.aload_n 0, 1) := by decide +kernel
theorem dX2_largestInBoth_35 : decode cX2_largestInBoth 35 = .ok (.getfield 18, 3) := by decide +kernel
theorem dX2_largestInBoth_38 : decode cX2_largestInBoth 38 = .ok (.invokevirtual 92, 3) := by decide +kernel
theorem dX2_largestInBoth_41 : decode cX2_largestInBoth 41 = .ok (.aload_n 0, 1) := by decide +kernel
theorem dX2_largestInBoth_42 : decode cX2_largestInBoth 42 = .ok (.getfield 22, 3) := by decide +kernel
theorem dX2_largestInBoth_45 : decode cX2_largestInBoth 45 = .ok (.invokevirtual 92, 3) := by decide +kernel
theorem dX2_largestInBoth_48 : decode cX2_largestInBoth 48 = .ok (.aload_n 0, 1) := by decide +kernel
theorem dX2_largestInBoth_49 : decode cX2_largestInBoth 49 = .ok (.aload_n 1, 1) := by decide +kernel
theorem dX2_largestInBoth_50 : decode cX2_largestInBoth 50 = .ok (.aload_n 2, 1) := by decide +kernel
theorem dX2_largestInBoth_51 : decode cX2_largestInBoth 51 = .ok (.iconst 0, 1) := by decide +kernel
theorem dX2_largestInBoth_52 : decode cX2_largestInBoth 52 = .ok (.iconst 0, 1) := by decide +kernel
theorem dX2_largestInBoth_53 : decode cX2_largestInBoth 53 = .ok (.iconst 0, 1) := by decide +kernel
theorem dX2_largestInBoth_54 : decode cX2_largestInBoth 54 = .ok (.iload_n 3, 1) := by decide +kernel
theorem dX2_largestInBoth_55 : decode cX2_largestInBoth 55 = .ok (.invokevirtual 120, 3) := by decide +kernel
theorem dX2_largestInBoth_58 : decode cX2_largestInBoth 58 = .ok (.ireturn, 1) := by decide +kernel
abbrev wsX2_largestInBoth : List Cond := Cond.code yX2_largestInBoth cX2_largestInBoth 4 (some .int) :: lw_gd
theorem dX2_searched_0 : decode cX2_searched 0 = .ok (.iload 6, 2) := by decide +kernel
theorem dX2_searched_2 : decode cX2_searched 2 = .ok (.iload 4, 2) := by decide +kernel
theorem dX2_searched_4 : decode cX2_searched 4 = .ok (.invokestatic 84, 3) := by decide +kernel
theorem dX2_searched_7 : decode cX2_searched 7 = .ok (.aload_n 1, 1) := by decide +kernel
theorem dX2_searched_8 : decode cX2_searched 8 = .ok (.getfield 59, 3) := by decide +kernel
theorem dX2_searched_11 : decode cX2_searched 11 = .ok (.iadd, 1) := by decide +kernel
theorem dX2_searched_12 : decode cX2_searched 12 = .ok (.iload_n 3, 1) := by decide +kernel
theorem dX2_searched_13 : decode cX2_searched 13 = .ok (.isub, 1) := by decide +kernel
theorem dX2_searched_14 : decode cX2_searched 14 = .ok (.invokestatic 115, 3) := by decide +kernel
theorem dX2_searched_17 : decode cX2_searched 17 = .ok (.istore 7, 2) := by decide +kernel
theorem dX2_searched_19 : decode cX2_searched 19 = .ok (.iload 7, 2) := by decide +kernel
theorem dX2_searched_21 : decode cX2_searched 21 = .ok (.iload 5, 2) := by decide +kernel
theorem dX2_searched_23 : decode cX2_searched 23 = .ok (.invokestatic 84, 3) := by decide +kernel
theorem dX2_searched_26 : decode cX2_searched 26 = .ok (.if_icmp .gt 6, 3) := by decide +kernel
theorem dX2_searched_29 : decode cX2_searched 29 = .ok (.iload 5, 2) := by decide +kernel
theorem dX2_searched_31 : decode cX2_searched 31 = .ok (.ireturn, 1) := by decide +kernel
theorem dX2_searched_32 : decode cX2_searched 32 = .ok (.iload_n 3, 1) := by decide +kernel
theorem dX2_searched_33 : decode cX2_searched 33 = .ok (.aload_n 1, 1) := by decide +kernel
theorem dX2_searched_34 : decode cX2_searched 34 = .ok (.getfield 59, 3) := by decide +kernel
theorem dX2_searched_37 : decode cX2_searched 37 = .ok (.if_icmp .lt 6, 3) := by decide +kernel
theorem dX2_searched_40 : decode cX2_searched 40 = .ok (.iload 4, 2) := by decide +kernel
theorem dX2_searched_42 : decode cX2_searched 42 = .ok (.ireturn, 1) := by decide +kernel
theorem dX2_searched_43 : decode cX2_searched 43 = .ok (.iload 5, 2) := by decide +kernel
theorem dX2_searched_45 : decode cX2_searched 45 = .ok (.istore 8, 2) := by decide +kernel
theorem dX2_searched_47 : decode cX2_searched 47 = .ok (.aload_n 0, 1) := by decide +kernel
theorem dX2_searched_48 : decode cX2_searched 48 = .ok (.getfield 18, 3) := by decide +kernel
theorem dX2_searched_51 : decode cX2_searched 51 = .ok (.iload_n 3, 1) := by decide +kernel
theorem dX2_searched_52 : decode cX2_searched 52 = .ok (.aload_n 1, 1) := by decide +kernel
theorem dX2_searched_53 : decode cX2_searched 53 = .ok (.getfield 66, 3) := by decide +kernel
theorem dX2_searched_56 : decode cX2_searched 56 = .ok (.iload_n 3, 1) := by decide +kernel
theorem dX2_searched_57 : decode cX2_searched 57 = .ok (.iaload, 1) := by decide +kernel
theorem dX2_searched_58 : decode cX2_searched 58 = .ok (.invokevirtual 98, 3) := by decide +kernel
theorem dX2_searched_61 : decode cX2_searched 61 = .ok (.ifCond .eq 55, 3) := by decide +kernel
theorem dX2_searched_64 : decode cX2_searched 64 = .ok (.aload_n 0, 1) := by decide +kernel
theorem dX2_searched_65 : decode cX2_searched 65 = .ok (.getfield 22, 3) := by decide +kernel
theorem dX2_searched_68 : decode cX2_searched 68 = .ok (.iload_n 3, 1) := by decide +kernel
theorem dX2_searched_69 : decode cX2_searched 69 = .ok (.aload_n 2, 1) := by decide +kernel
theorem dX2_searched_70 : decode cX2_searched 70 = .ok (.getfield 66, 3) := by decide +kernel
theorem dX2_searched_73 : decode cX2_searched 73 = .ok (.iload_n 3, 1) := by decide +kernel
theorem dX2_searched_74 : decode cX2_searched 74 = .ok (.iaload, 1) := by decide +kernel
theorem dX2_searched_75 : decode cX2_searched 75 = .ok (.invokevirtual 98, 3) := by decide +kernel
theorem dX2_searched_78 : decode cX2_searched 78 = .ok (.ifCond .eq 31, 3) := by decide +kernel
theorem dX2_searched_81 : decode cX2_searched 81 = .ok (.aload_n 0, 1) := by decide +kernel
theorem dX2_searched_82 : decode cX2_searched 82 = .ok (.aload_n 1, 1) := by decide +kernel
theorem dX2_searched_83 : decode cX2_searched 83 = .ok (.aload_n 2, 1) := by decide +kernel
theorem dX2_searched_84 : decode cX2_searched 84 = .ok (.iload_n 3, 1) := by decide +kernel
theorem dX2_searched_85 : decode cX2_searched 85 = .ok (.iconst 1, 1) := by decide +kernel
theorem dX2_searched_86 : decode cX2_searched 86 = .ok (.iadd, 1) := by decide +kernel
theorem dX2_searched_87 : decode cX2_searched 87 = .ok (.iload 4, 2) := by decide +kernel
theorem dX2_searched_89 : decode cX2_searched 89 = .ok (.iconst 1, 1) := by decide +kernel
theorem dX2_searched_90 : decode cX2_searched 90 = .ok (.iload_n 3, 1) := by decide +kernel
theorem dX2_searched_91 : decode cX2_searched 91 = .ok (.ishl, 1) := by decide +kernel
theorem dX2_searched_92 : decode cX2_searched 92 = .ok (.ior, 1) := by decide +kernel
theorem dX2_searched_93 : decode cX2_searched 93 = .ok (.iload 5, 2) := by decide +kernel
theorem dX2_searched_95 : decode cX2_searched 95 = .ok (.iload 6, 2) := by decide +kernel
theorem dX2_searched_97 : decode cX2_searched 97 = .ok (.invokevirtual 120, 3) := by decide +kernel
theorem dX2_searched_100 : decode cX2_searched 100 = .ok (.istore 8, 2) := by decide +kernel
theorem dX2_searched_102 : decode cX2_searched 102 = .ok (.aload_n 0, 1) := by decide +kernel
theorem dX2_searched_103 : decode cX2_searched 103 = .ok (.getfield 22, 3) := by decide +kernel
theorem dX2_searched_106 : decode cX2_searched 106 = .ok (.invokevirtual 124, 3) := by decide +kernel
theorem dX2_searched_109 : decode cX2_searched 109 = .ok (.aload_n 0, 1) := by decide +kernel
theorem dX2_searched_110 : decode cX2_searched 110 = .ok (.getfield 18, 3) := by decide +kernel
theorem dX2_searched_113 : decode cX2_searched 113 = .ok (.invokevirtual 124, 3) := by decide +kernel
theorem dX2_searched_116 : decode cX2_searched 116 = .ok (.aload_n 0, 1) := by decide +kernel
theorem dX2_searched_117 : decode cX2_searched 117 = .ok (.aload_n 1, 1) := by decide +kernel
theorem dX2_searched_118 : decode cX2_searched 118 = .ok (.aload_n 2, 1) := by decide +kernel
theorem dX2_searched_119 : decode cX2_searched 119 = .ok (.iload_n 3, 1) := by decide +kernel
theorem dX2_searched_120 : decode cX2_searched 120 = .ok (.iconst 1, 1) := by decide +kernel
theorem dX2_searched_121 : decode cX2_searched 121 = .ok (.iadd, 1) := by decide +kernel
theorem dX2_searched_122 : decode cX2_searched 122 = .ok (.iload 4, 2) := by decide +kernel
theorem dX2_searched_124 : decode cX2_searched 124 = .ok (.iload 8, 2) := by decide +kernel
theorem dX2_searched_126 : decode cX2_searched 126 = .ok (.iload 6, 2) := by decide +kernel
theorem dX2_searched_128 : decode cX2_searched 128 = .ok (.invokevirtual 120, 3) := by decide +kernel
theorem dX2_searched_131 : decode cX2_searched 131 = .ok (.ireturn, 1) := by decide +kernel
abbrev wsX2_searched : List Cond := Cond.code yX2_searched cX2_searched 9 (some .int) :: lw_gd
theorem dX2_cover_0 : decode cX2_cover 0 = .ok (.aload_n 0, 1) := by decide +kernel
theorem dX2_cover_1 : decode cX2_cover 1 = .ok (.iload_n 1, 1) := by decide +kernel
theorem dX2_cover_2 : decode cX2_cover 2 = .ok (.iload_n 2, 1) := by decide +kernel
theorem dX2_cover_3 : decode cX2_cover 3 = .ok (.invokevirtual 101, 3) := by decide +kernel
theorem dX2_cover_6 : decode cX2_cover 6 = .ok (.ifCond .eq 22, 3) := by decide +kernel
theorem dX2_cover_9 : decode cX2_cover 9 = .ok (.aload_n 0, 1) := by decide +kernel
theorem dX2_cover_10 : decode cX2_cover 10 = .ok (.aload_n 0, 1) := by decide +kernel
theorem dX2_cover_11 : decode cX2_cover 11 = .ok (.getfield 11, 3) := by decide +kernel
theorem dX2_cover_14 : decode cX2_cover 14 = .ok (.iload_n 1, 1) := by decide +kernel
theorem dX2_cover_15 : decode cX2_cover 15 = .ok (.aaload, 1) := by decide +kernel
theorem dX2_cover_16 : decode cX2_cover 16 = .ok (.aload_n 0, 1) := by decide +kernel
theorem dX2_cover_17 : decode cX2_cover 17 = .ok (.getfield 11, 3) := by decide +kernel
theorem dX2_cover_20 : decode cX2_cover 20 = .ok (.iload_n 2, 1) := by decide +kernel
theorem dX2_cover_21 : decode cX2_cover 21 = .ok (.aaload, 1) := by decide +kernel
theorem dX2_cover_22 : decode cX2_cover 22 = .ok (.invokevirtual 108, 3) := by decide +kernel
theorem dX2_cover_25 : decode cX2_cover 25 = .ok (.goto 4, 3) := by decide +kernel
theorem dX2_cover_28 : decode cX2_cover 28 = .ok (.iconst (-1), 1) := by decide +kernel
theorem dX2_cover_29 : decode cX2_cover 29 = .ok (.ireturn, 1) := by decide +kernel
abbrev wsX2_cover : List Cond := Cond.code yX2_cover cX2_cover 3 (some .int) :: lw_gd
theorem dX2_leastCover_0 : decode cX2_leastCover 0 = .ok (.aload_n 0, 1) := by decide +kernel
theorem dX2_leastCover_1 : decode cX2_leastCover 1 = .ok (.aload_n 1, 1) := by decide +kernel
theorem dX2_leastCover_2 : decode cX2_leastCover 2 = .ok (.aload_n 2, 1) := by decide +kernel
theorem dX2_leastCover_3 : decode cX2_leastCover 3 = .ok (.invokevirtual 104, 3) := by decide +kernel
theorem dX2_leastCover_6 : decode cX2_leastCover 6 = .ok (.istore_n 3, 1) := by decide +kernel
theorem dX2_leastCover_7 : decode cX2_leastCover 7 = .ok (.aload_n 0, 1) := by decide +kernel
theorem dX2_leastCover_8 : decode cX2_leastCover 8 = .ok (.getfield 18, 3) := by decide +kernel
theorem dX2_leastCover_11 : decode cX2_leastCover 11 = .ok (.aload_n 1, 1) := by decide +kernel
theorem dX2_leastCover_12 : decode cX2_leastCover 12 = .ok (.iload_n 3, 1) := by decide +kernel
theorem dX2_leastCover_13 : decode cX2_leastCover 13 = .ok (.invokevirtual 55, 3) := by decide +kernel
theorem dX2_leastCover_16 : decode cX2_leastCover 16 = .ok (.pop, 1) := by decide +kernel
theorem dX2_leastCover_17 : decode cX2_leastCover 17 = .ok (.aload_n 0, 1) := by decide +kernel
theorem dX2_leastCover_18 : decode cX2_leastCover 18 = .ok (.getfield 22, 3) := by decide +kernel
theorem dX2_leastCover_21 : decode cX2_leastCover 21 = .ok (.aload_n 2, 1) := by decide +kernel
theorem dX2_leastCover_22 : decode cX2_leastCover 22 = .ok (.iload_n 3, 1) := by decide +kernel
theorem dX2_leastCover_23 : decode cX2_leastCover 23 = .ok (.invokevirtual 55, 3) := by decide +kernel
theorem dX2_leastCover_26 : decode cX2_leastCover 26 = .ok (.pop, 1) := by decide +kernel
theorem dX2_leastCover_27 : decode cX2_leastCover 27 = .ok (.iconst 0, 1) := by decide +kernel
theorem dX2_leastCover_28 : decode cX2_leastCover 28 = .ok (.istore 4, 2) := by decide +kernel
theorem dX2_leastCover_30 : decode cX2_leastCover 30 = .ok (.iconst 0, 1) := by decide +kernel
theorem dX2_leastCover_31 : decode cX2_leastCover 31 = .ok (.istore 5, 2) := by decide +kernel
theorem dX2_leastCover_33 : decode cX2_leastCover 33 = .ok (.iload 5, 2) := by decide +kernel
theorem dX2_leastCover_35 : decode cX2_leastCover 35 = .ok (.aload_n 2, 1) := by decide +kernel
theorem dX2_leastCover_36 : decode cX2_leastCover 36 = .ok (.getfield 59, 3) := by decide +kernel
theorem dX2_leastCover_39 : decode cX2_leastCover 39 = .ok (.if_icmp .ge 35, 3) := by decide +kernel
theorem dX2_leastCover_42 : decode cX2_leastCover 42 = .ok (.aload_n 0, 1) := by decide +kernel
theorem dX2_leastCover_43 : decode cX2_leastCover 43 = .ok (.getfield 22, 3) := by decide +kernel
theorem dX2_leastCover_46 : decode cX2_leastCover 46 = .ok (.aload_n 2, 1) := by decide +kernel
theorem dX2_leastCover_47 : decode cX2_leastCover 47 = .ok (.getfield 66, 3) := by decide +kernel
theorem dX2_leastCover_50 : decode cX2_leastCover 50 = .ok (.iload 5, 2) := by decide +kernel
theorem dX2_leastCover_52 : decode cX2_leastCover 52 = .ok (.iaload, 1) := by decide +kernel
theorem dX2_leastCover_53 : decode cX2_leastCover 53 = .ok (.invokevirtual 69, 3) := by decide +kernel
theorem dX2_leastCover_56 : decode cX2_leastCover 56 = .ok (.ifCond .eq 12, 3) := by decide +kernel
theorem dX2_leastCover_59 : decode cX2_leastCover 59 = .ok (.iload 4, 2) := by decide +kernel
theorem dX2_leastCover_61 : decode cX2_leastCover 61 = .ok (.iconst 1, 1) := by decide +kernel
theorem dX2_leastCover_62 : decode cX2_leastCover 62 = .ok (.iload 5, 2) := by decide +kernel
theorem dX2_leastCover_64 : decode cX2_leastCover 64 = .ok (.ishl, 1) := by decide +kernel
theorem dX2_leastCover_65 : decode cX2_leastCover 65 = .ok (.ior, 1) := by decide +kernel
theorem dX2_leastCover_66 : decode cX2_leastCover 66 = .ok (.istore 4, 2) := by decide +kernel
theorem dX2_leastCover_68 : decode cX2_leastCover 68 = .ok (.iinc 5 1, 3) := by decide +kernel
theorem dX2_leastCover_71 : decode cX2_leastCover 71 = .ok (.goto (-38), 3) := by decide +kernel
theorem dX2_leastCover_74 : decode cX2_leastCover 74 = .ok (.iconst 0, 1) := by decide +kernel
theorem dX2_leastCover_75 : decode cX2_leastCover 75 = .ok (.istore 5, 2) := by decide +kernel
theorem dX2_leastCover_77 : decode cX2_leastCover 77 = .ok (.iload 5, 2) := by decide +kernel
theorem dX2_leastCover_79 : decode cX2_leastCover 79 = .ok (.aload_n 1, 1) := by decide +kernel
theorem dX2_leastCover_80 : decode cX2_leastCover 80 = .ok (.getfield 59, 3) := by decide +kernel
theorem dX2_leastCover_83 : decode cX2_leastCover 83 = .ok (.if_icmp .ge 20, 3) := by decide +kernel
theorem dX2_leastCover_86 : decode cX2_leastCover 86 = .ok (.aload_n 0, 1) := by decide +kernel
theorem dX2_leastCover_87 : decode cX2_leastCover 87 = .ok (.aload_n 1, 1) := by decide +kernel
theorem dX2_leastCover_88 : decode cX2_leastCover 88 = .ok (.aload_n 2, 1) := by decide +kernel
theorem dX2_leastCover_89 : decode cX2_leastCover 89 = .ok (.iload_n 3, 1) := by decide +kernel
theorem dX2_leastCover_90 : decode cX2_leastCover 90 = .ok (.iload 4, 2) := by decide +kernel
theorem dX2_leastCover_92 : decode cX2_leastCover 92 = .ok (.invokevirtual 127, 3) := by decide +kernel
theorem dX2_leastCover_95 : decode cX2_leastCover 95 = .ok (.istore 4, 2) := by decide +kernel
theorem dX2_leastCover_97 : decode cX2_leastCover 97 = .ok (.iinc 5 1, 3) := by decide +kernel
theorem dX2_leastCover_100 : decode cX2_leastCover 100 = .ok (.goto (-23), 3) := by decide +kernel
theorem dX2_leastCover_103 : decode cX2_leastCover 103 = .ok (.iload 4, 2) := by decide +kernel
theorem dX2_leastCover_105 : decode cX2_leastCover 105 = .ok (.ireturn, 1) := by decide +kernel
abbrev wsX2_leastCover : List Cond := Cond.code yX2_leastCover cX2_leastCover 6 (some .int) :: lw_gd
theorem dX2_grown_0 : decode cX2_grown 0 = .ok (.iload 4, 2) := by decide +kernel
theorem dX2_grown_2 : decode cX2_grown 2 = .ok (.istore 5, 2) := by decide +kernel
theorem dX2_grown_4 : decode cX2_grown 4 = .ok (.iconst 0, 1) := by decide +kernel
theorem dX2_grown_5 : decode cX2_grown 5 = .ok (.istore 6, 2) := by decide +kernel
end
section
theorem dX2_grown_7 : decode cX2_grown 7 = .ok (.iload 6, 2) := by decide +kernel
theorem dX2_grown_9 : decode cX2_grown 9 = .ok (.aload_n 1, 1) := by decide +kernel
theorem dX2_grown_10 : decode cX2_grown 10 = .ok (.getfield 59, 3) := by decide +kernel
theorem dX2_grown_13 : decode cX2_grown 13 = .ok (.if_icmp .ge 82, 3) := by decide +kernel
theorem dX2_grown_16 : decode cX2_grown 16 = .ok (.iload_n 3, 1) := by decide +kernel
theorem dX2_grown_17 : decode cX2_grown 17 = .ok (.iload 6, 2) := by decide +kernel
theorem dX2_grown_19 : decode cX2_grown 19 = .ok (.invokestatic 63, 3) := by decide +kernel
theorem dX2_grown_22 : decode cX2_grown 22 = .ok (.ifCond .eq 6, 3) := by decide +kernel
theorem dX2_grown_25 : decode cX2_grown 25 = .ok (.goto 64, 3) := by decide +kernel
theorem dX2_grown_28 : decode cX2_grown 28 = .ok (.iload 5, 2) := by decide +kernel
theorem dX2_grown_30 : decode cX2_grown 30 = .ok (.iload 6, 2) := by decide +kernel
theorem dX2_grown_32 : decode cX2_grown 32 = .ok (.invokestatic 63, 3) := by decide +kernel
theorem dX2_grown_35 : decode cX2_grown 35 = .ok (.ifCond .eq 25, 3) := by decide +kernel
theorem dX2_grown_38 : decode cX2_grown 38 = .ok (.iload 5, 2) := by decide +kernel
theorem dX2_grown_40 : decode cX2_grown 40 = .ok (.aload_n 0, 1) := by decide +kernel
theorem dX2_grown_41 : decode cX2_grown 41 = .ok (.getfield 18, 3) := by decide +kernel
theorem dX2_grown_44 : decode cX2_grown 44 = .ok (.aload_n 1, 1) := by decide +kernel
theorem dX2_grown_45 : decode cX2_grown 45 = .ok (.getfield 66, 3) := by decide +kernel
theorem dX2_grown_48 : decode cX2_grown 48 = .ok (.iload 6, 2) := by decide +kernel
theorem dX2_grown_50 : decode cX2_grown 50 = .ok (.iaload, 1) := by decide +kernel
theorem dX2_grown_51 : decode cX2_grown 51 = .ok (.invokevirtual 131, 3) := by decide +kernel
theorem dX2_grown_54 : decode cX2_grown 54 = .ok (.ior, 1) := by decide +kernel
theorem dX2_grown_55 : decode cX2_grown 55 = .ok (.istore 5, 2) := by decide +kernel
theorem dX2_grown_57 : decode cX2_grown 57 = .ok (.goto 32, 3) := by decide +kernel
theorem dX2_grown_60 : decode cX2_grown 60 = .ok (.aload_n 0, 1) := by decide +kernel
theorem dX2_grown_61 : decode cX2_grown 61 = .ok (.getfield 22, 3) := by decide +kernel
theorem dX2_grown_64 : decode cX2_grown 64 = .ok (.aload_n 2, 1) := by decide +kernel
theorem dX2_grown_65 : decode cX2_grown 65 = .ok (.getfield 66, 3) := by decide +kernel
theorem dX2_grown_68 : decode cX2_grown 68 = .ok (.iload 6, 2) := by decide +kernel
theorem dX2_grown_70 : decode cX2_grown 70 = .ok (.iaload, 1) := by decide +kernel
theorem dX2_grown_71 : decode cX2_grown 71 = .ok (.invokevirtual 131, 3) := by decide +kernel
theorem dX2_grown_74 : decode cX2_grown 74 = .ok (.iload 5, 2) := by decide +kernel
theorem dX2_grown_76 : decode cX2_grown 76 = .ok (.iand, 1) := by decide +kernel
theorem dX2_grown_77 : decode cX2_grown 77 = .ok (.ifCond .eq 12, 3) := by decide +kernel
theorem dX2_grown_80 : decode cX2_grown 80 = .ok (.iload 5, 2) := by decide +kernel
theorem dX2_grown_82 : decode cX2_grown 82 = .ok (.iconst 1, 1) := by decide +kernel
theorem dX2_grown_83 : decode cX2_grown 83 = .ok (.iload 6, 2) := by decide +kernel
theorem dX2_grown_85 : decode cX2_grown 85 = .ok (.ishl, 1) := by decide +kernel
theorem dX2_grown_86 : decode cX2_grown 86 = .ok (.ior, 1) := by decide +kernel
theorem dX2_grown_87 : decode cX2_grown 87 = .ok (.istore 5, 2) := by decide +kernel
theorem dX2_grown_89 : decode cX2_grown 89 = .ok (.iinc 6 1, 3) := by decide +kernel
theorem dX2_grown_92 : decode cX2_grown 92 = .ok (.goto (-85), 3) := by decide +kernel
theorem dX2_grown_95 : decode cX2_grown 95 = .ok (.iload 5, 2) := by decide +kernel
theorem dX2_grown_97 : decode cX2_grown 97 = .ok (.ireturn, 1) := by decide +kernel
abbrev wsX2_grown : List Cond := Cond.code yX2_grown cX2_grown 7 (some .int) :: lw_gd
theorem dX0_init_0 : decode cX0_init 0 = .ok (.aload_n 0, 1) := by decide +kernel
theorem dX0_init_1 : decode cX0_init 1 = .ok (.invokespecial 3, 3) := by decide +kernel
theorem dX0_init_4 : decode cX0_init 4 = .ok (.aload_n 0, 1) := by decide +kernel
theorem dX0_init_5 : decode cX0_init 5 = .ok (.bipush 12, 2) := by decide +kernel
theorem dX0_init_7 : decode cX0_init 7 = .ok (.newarray .int, 2) := by decide +kernel
theorem dX0_init_9 : decode cX0_init 9 = .ok (.putfield 9, 3) := by decide +kernel
theorem dX0_init_12 : decode cX0_init 12 = .ok (.aload_n 0, 1) := by decide +kernel
theorem dX0_init_13 : decode cX0_init 13 = .ok (.bipush 12, 2) := by decide +kernel
theorem dX0_init_15 : decode cX0_init 15 = .ok (.newarray .int, 2) := by decide +kernel
theorem dX0_init_17 : decode cX0_init 17 = .ok (.putfield 15, 3) := by decide +kernel
theorem dX0_init_20 : decode cX0_init 20 = .ok (.aload_n 0, 1) := by decide +kernel
theorem dX0_init_21 : decode cX0_init 21 = .ok (.iconst 0, 1) := by decide +kernel
theorem dX0_init_22 : decode cX0_init 22 = .ok (.putfield 18, 3) := by decide +kernel
theorem dX0_init_25 : decode cX0_init 25 = .ok (.return_, 1) := by decide +kernel
abbrev wsX0_init : List Cond := Cond.code yX0_init cX0_init 1 none :: lw_gd
theorem dX0_fill_0 : decode cX0_fill 0 = .ok (.aload_n 0, 1) := by decide +kernel
theorem dX0_fill_1 : decode cX0_fill 1 = .ok (.invokevirtual 22, 3) := by decide +kernel
theorem dX0_fill_4 : decode cX0_fill 4 = .ok (.iconst 0, 1) := by decide +kernel
theorem dX0_fill_5 : decode cX0_fill 5 = .ok (.istore_n 3, 1) := by decide +kernel
theorem dX0_fill_6 : decode cX0_fill 6 = .ok (.iload_n 3, 1) := by decide +kernel
theorem dX0_fill_7 : decode cX0_fill 7 = .ok (.aload_n 1, 1) := by decide +kernel
theorem dX0_fill_8 : decode cX0_fill 8 = .ok (.getfield 25, 3) := by decide +kernel
theorem dX0_fill_11 : decode cX0_fill 11 = .ok (.if_icmp .ge 29, 3) := by decide +kernel
theorem dX0_fill_14 : decode cX0_fill 14 = .ok (.iload_n 2, 1) := by decide +kernel
theorem dX0_fill_15 : decode cX0_fill 15 = .ok (.iload_n 3, 1) := by decide +kernel
theorem dX0_fill_16 : decode cX0_fill 16 = .ok (.invokestatic 30, 3) := by decide +kernel
theorem dX0_fill_19 : decode cX0_fill 19 = .ok (.ifCond .eq 15, 3) := by decide +kernel
theorem dX0_fill_22 : decode cX0_fill 22 = .ok (.aload_n 0, 1) := by decide +kernel
theorem dX0_fill_23 : decode cX0_fill 23 = .ok (.iload_n 3, 1) := by decide +kernel
theorem dX0_fill_24 : decode cX0_fill 24 = .ok (.aload_n 1, 1) := by decide +kernel
theorem dX0_fill_25 : decode cX0_fill 25 = .ok (.getfield 34, 3) := by decide +kernel
theorem dX0_fill_28 : decode cX0_fill 28 = .ok (.iload_n 3, 1) := by decide +kernel
theorem dX0_fill_29 : decode cX0_fill 29 = .ok (.iaload, 1) := by decide +kernel
theorem dX0_fill_30 : decode cX0_fill 30 = .ok (.invokevirtual 37, 3) := by decide +kernel
theorem dX0_fill_33 : decode cX0_fill 33 = .ok (.pop, 1) := by decide +kernel
theorem dX0_fill_34 : decode cX0_fill 34 = .ok (.iinc 3 1, 3) := by decide +kernel
theorem dX0_fill_37 : decode cX0_fill 37 = .ok (.goto (-31), 3) := by decide +kernel
theorem dX0_fill_40 : decode cX0_fill 40 = .ok (.aload_n 0, 1) := by decide +kernel
theorem dX0_fill_41 : decode cX0_fill 41 = .ok (.getfield 18, 3) := by decide +kernel
theorem dX0_fill_44 : decode cX0_fill 44 = .ok (.ireturn, 1) := by decide +kernel
abbrev wsX0_fill : List Cond := Cond.code yX0_fill cX0_fill 4 (some .int) :: lw_gd
theorem dX0_clear_0 : decode cX0_clear 0 = .ok (.aload_n 0, 1) := by decide +kernel
theorem dX0_clear_1 : decode cX0_clear 1 = .ok (.iconst 0, 1) := by decide +kernel
theorem dX0_clear_2 : decode cX0_clear 2 = .ok (.putfield 18, 3) := by decide +kernel
theorem dX0_clear_5 : decode cX0_clear 5 = .ok (.return_, 1) := by decide +kernel
abbrev wsX0_clear : List Cond := Cond.code yX0_clear cX0_clear 1 none :: lw_gd
theorem dX0_takes_0 : decode cX0_takes 0 = .ok (.aload_n 0, 1) := by decide +kernel
theorem dX0_takes_1 : decode cX0_takes 1 = .ok (.iload_n 2, 1) := by decide +kernel
theorem dX0_takes_2 : decode cX0_takes 2 = .ok (.invokevirtual 40, 3) := by decide +kernel
theorem dX0_takes_5 : decode cX0_takes 5 = .ok (.istore_n 3, 1) := by decide +kernel
theorem dX0_takes_6 : decode cX0_takes 6 = .ok (.iload_n 3, 1) := by decide +kernel
theorem dX0_takes_7 : decode cX0_takes 7 = .ok (.ifCond .eq 12, 3) := by decide +kernel
theorem dX0_takes_10 : decode cX0_takes 10 = .ok (.aload_n 0, 1) := by decide +kernel
theorem dX0_takes_11 : decode cX0_takes 11 = .ok (.getfield 18, 3) := by decide +kernel
theorem dX0_takes_14 : decode cX0_takes 14 = .ok (.bipush 12, 2) := by decide +kernel
theorem dX0_takes_16 : decode cX0_takes 16 = .ok (.if_icmp .lt 5, 3) := by decide +kernel
theorem dX0_takes_19 : decode cX0_takes 19 = .ok (.iconst 0, 1) := by decide +kernel
theorem dX0_takes_20 : decode cX0_takes 20 = .ok (.ireturn, 1) := by decide +kernel
theorem dX0_takes_21 : decode cX0_takes 21 = .ok (.aload_n 0, 1) := by decide +kernel
theorem dX0_takes_22 : decode cX0_takes 22 = .ok (.getfield 15, 3) := by decide +kernel
theorem dX0_takes_25 : decode cX0_takes 25 = .ok (.aload_n 0, 1) := by decide +kernel
theorem dX0_takes_26 : decode cX0_takes 26 = .ok (.getfield 18, 3) := by decide +kernel
theorem dX0_takes_29 : decode cX0_takes 29 = .ok (.aload_n 0, 1) := by decide +kernel
theorem dX0_takes_30 : decode cX0_takes 30 = .ok (.iload_n 2, 1) := by decide +kernel
theorem dX0_takes_31 : decode cX0_takes 31 = .ok (.invokevirtual 44, 3) := by decide +kernel
theorem dX0_takes_34 : decode cX0_takes 34 = .ok (.iconst 1, 1) := by decide +kernel
theorem dX0_takes_35 : decode cX0_takes 35 = .ok (.iload_n 1, 1) := by decide +kernel
theorem dX0_takes_36 : decode cX0_takes 36 = .ok (.ishl, 1) := by decide +kernel
theorem dX0_takes_37 : decode cX0_takes 37 = .ok (.ixor, 1) := by decide +kernel
theorem dX0_takes_38 : decode cX0_takes 38 = .ok (.iastore, 1) := by decide +kernel
theorem dX0_takes_39 : decode cX0_takes 39 = .ok (.aload_n 0, 1) := by decide +kernel
theorem dX0_takes_40 : decode cX0_takes 40 = .ok (.getfield 9, 3) := by decide +kernel
theorem dX0_takes_43 : decode cX0_takes 43 = .ok (.aload_n 0, 1) := by decide +kernel
theorem dX0_takes_44 : decode cX0_takes 44 = .ok (.getfield 18, 3) := by decide +kernel
theorem dX0_takes_47 : decode cX0_takes 47 = .ok (.iload_n 3, 1) := by decide +kernel
theorem dX0_takes_48 : decode cX0_takes 48 = .ok (.iastore, 1) := by decide +kernel
theorem dX0_takes_49 : decode cX0_takes 49 = .ok (.aload_n 0, 1) := by decide +kernel
theorem dX0_takes_50 : decode cX0_takes 50 = .ok (.dup, 1) := by decide +kernel
theorem dX0_takes_51 : decode cX0_takes 51 = .ok (.getfield 18, 3) := by decide +kernel
theorem dX0_takes_54 : decode cX0_takes 54 = .ok (.iconst 1, 1) := by decide +kernel
theorem dX0_takes_55 : decode cX0_takes 55 = .ok (.iadd, 1) := by decide +kernel
theorem dX0_takes_56 : decode cX0_takes 56 = .ok (.putfield 18, 3) := by decide +kernel
theorem dX0_takes_59 : decode cX0_takes 59 = .ok (.iconst 1, 1) := by decide +kernel
theorem dX0_takes_60 : decode cX0_takes 60 = .ok (.ireturn, 1) := by decide +kernel
abbrev wsX0_takes : List Cond := Cond.code yX0_takes cX0_takes 4 (some .boolean) :: lw_gd
theorem dX0_rest_0 : decode cX0_rest 0 = .ok (.iload_n 1, 1) := by decide +kernel
theorem dX0_rest_1 : decode cX0_rest 1 = .ok (.istore_n 2, 1) := by decide +kernel
theorem dX0_rest_2 : decode cX0_rest 2 = .ok (.iconst 0, 1) := by decide +kernel
theorem dX0_rest_3 : decode cX0_rest 3 = .ok (.istore_n 3, 1) := by decide +kernel
theorem dX0_rest_4 : decode cX0_rest 4 = .ok (.iload_n 3, 1) := by decide +kernel
theorem dX0_rest_5 : decode cX0_rest 5 = .ok (.aload_n 0, 1) := by decide +kernel
theorem dX0_rest_6 : decode cX0_rest 6 = .ok (.getfield 18, 3) := by decide +kernel
theorem dX0_rest_9 : decode cX0_rest 9 = .ok (.if_icmp .ge 22, 3) := by decide +kernel
theorem dX0_rest_12 : decode cX0_rest 12 = .ok (.iload_n 2, 1) := by decide +kernel
theorem dX0_rest_13 : decode cX0_rest 13 = .ok (.iload_n 2, 1) := by decide +kernel
theorem dX0_rest_14 : decode cX0_rest 14 = .ok (.aload_n 0, 1) := by decide +kernel
theorem dX0_rest_15 : decode cX0_rest 15 = .ok (.getfield 9, 3) := by decide +kernel
theorem dX0_rest_18 : decode cX0_rest 18 = .ok (.iload_n 3, 1) := by decide +kernel
theorem dX0_rest_19 : decode cX0_rest 19 = .ok (.iaload, 1) := by decide +kernel
theorem dX0_rest_20 : decode cX0_rest 20 = .ok (.ixor, 1) := by decide +kernel
theorem dX0_rest_21 : decode cX0_rest 21 = .ok (.invokestatic 47, 3) := by decide +kernel
theorem dX0_rest_24 : decode cX0_rest 24 = .ok (.istore_n 2, 1) := by decide +kernel
theorem dX0_rest_25 : decode cX0_rest 25 = .ok (.iinc 3 1, 3) := by decide +kernel
theorem dX0_rest_28 : decode cX0_rest 28 = .ok (.goto (-24), 3) := by decide +kernel
theorem dX0_rest_31 : decode cX0_rest 31 = .ok (.iload_n 2, 1) := by decide +kernel
theorem dX0_rest_32 : decode cX0_rest 32 = .ok (.ireturn, 1) := by decide +kernel
abbrev wsX0_rest : List Cond := Cond.code yX0_rest cX0_rest 4 (some .int) :: lw_gd
theorem dX0_way_0 : decode cX0_way 0 = .ok (.iload_n 1, 1) := by decide +kernel
theorem dX0_way_1 : decode cX0_way 1 = .ok (.istore_n 2, 1) := by decide +kernel
theorem dX0_way_2 : decode cX0_way 2 = .ok (.iconst 0, 1) := by decide +kernel
theorem dX0_way_3 : decode cX0_way 3 = .ok (.istore_n 3, 1) := by decide +kernel
theorem dX0_way_4 : decode cX0_way 4 = .ok (.iconst 0, 1) := by decide +kernel
theorem dX0_way_5 : decode cX0_way 5 = .ok (.istore 4, 2) := by decide +kernel
theorem dX0_way_7 : decode cX0_way 7 = .ok (.iload 4, 2) := by decide +kernel
theorem dX0_way_9 : decode cX0_way 9 = .ok (.aload_n 0, 1) := by decide +kernel
theorem dX0_way_10 : decode cX0_way 10 = .ok (.getfield 18, 3) := by decide +kernel
theorem dX0_way_13 : decode cX0_way 13 = .ok (.if_icmp .ge 42, 3) := by decide +kernel
theorem dX0_way_16 : decode cX0_way 16 = .ok (.iload_n 2, 1) := by decide +kernel
theorem dX0_way_17 : decode cX0_way 17 = .ok (.aload_n 0, 1) := by decide +kernel
theorem dX0_way_18 : decode cX0_way 18 = .ok (.getfield 9, 3) := by decide +kernel
theorem dX0_way_21 : decode cX0_way 21 = .ok (.iload 4, 2) := by decide +kernel
theorem dX0_way_23 : decode cX0_way 23 = .ok (.iaload, 1) := by decide +kernel
theorem dX0_way_24 : decode cX0_way 24 = .ok (.ixor, 1) := by decide +kernel
theorem dX0_way_25 : decode cX0_way 25 = .ok (.iload_n 2, 1) := by decide +kernel
theorem dX0_way_26 : decode cX0_way 26 = .ok (.if_icmp .ge 23, 3) := by decide +kernel
theorem dX0_way_29 : decode cX0_way 29 = .ok (.iload_n 2, 1) := by decide +kernel
theorem dX0_way_30 : decode cX0_way 30 = .ok (.aload_n 0, 1) := by decide +kernel
theorem dX0_way_31 : decode cX0_way 31 = .ok (.getfield 9, 3) := by decide +kernel
theorem dX0_way_34 : decode cX0_way 34 = .ok (.iload 4, 2) := by decide +kernel
theorem dX0_way_36 : decode cX0_way 36 = .ok (.iaload, 1) := by decide +kernel
theorem dX0_way_37 : decode cX0_way 37 = .ok (.ixor, 1) := by decide +kernel
theorem dX0_way_38 : decode cX0_way 38 = .ok (.istore_n 2, 1) := by decide +kernel
theorem dX0_way_39 : decode cX0_way 39 = .ok (.iload_n 3, 1) := by decide +kernel
theorem dX0_way_40 : decode cX0_way 40 = .ok (.aload_n 0, 1) := by decide +kernel
theorem dX0_way_41 : decode cX0_way 41 = .ok (.getfield 15, 3) := by decide +kernel
theorem dX0_way_44 : decode cX0_way 44 = .ok (.iload 4, 2) := by decide +kernel
theorem dX0_way_46 : decode cX0_way 46 = .ok (.iaload, 1) := by decide +kernel
theorem dX0_way_47 : decode cX0_way 47 = .ok (.ixor, 1) := by decide +kernel
theorem dX0_way_48 : decode cX0_way 48 = .ok (.istore_n 3, 1) := by decide +kernel
theorem dX0_way_49 : decode cX0_way 49 = .ok (.iinc 4 1, 3) := by decide +kernel
theorem dX0_way_52 : decode cX0_way 52 = .ok (.goto (-45), 3) := by decide +kernel
theorem dX0_way_55 : decode cX0_way 55 = .ok (.iload_n 3, 1) := by decide +kernel
theorem dX0_way_56 : decode cX0_way 56 = .ok (.ireturn, 1) := by decide +kernel
abbrev wsX0_way : List Cond := Cond.code yX0_way cX0_way 5 (some .int) :: lw_gd
theorem dX0_drop_0 : decode cX0_drop 0 = .ok (.aload_n 0, 1) := by decide +kernel
theorem dX0_drop_1 : decode cX0_drop 1 = .ok (.getfield 18, 3) := by decide +kernel
theorem dX0_drop_4 : decode cX0_drop 4 = .ok (.ifCond .le 13, 3) := by decide +kernel
theorem dX0_drop_7 : decode cX0_drop 7 = .ok (.aload_n 0, 1) := by decide +kernel
theorem dX0_drop_8 : decode cX0_drop 8 = .ok (.dup, 1) := by decide +kernel
theorem dX0_drop_9 : decode cX0_drop 9 = .ok (.getfield 18, 3) := by decide +kernel
theorem dX0_drop_12 : decode cX0_drop 12 = .ok (.iconst 1, 1) := by decide +kernel
theorem dX0_drop_13 : decode cX0_drop 13 = .ok (.isub, 1) := by decide +kernel
theorem dX0_drop_14 : decode cX0_drop 14 = .ok (.putfield 18, 3) := by decide +kernel
theorem dX0_drop_17 : decode cX0_drop 17 = .ok (.return_, 1) := by decide +kernel
abbrev wsX0_drop : List Cond := Cond.code yX0_drop cX0_drop 1 none :: lw_gd
theorem dX1_init_0 : decode cX1_init 0 = .ok (.aload_n 0, 1) := by decide +kernel
theorem dX1_init_1 : decode cX1_init 1 = .ok (.invokespecial 3, 3) := by decide +kernel
theorem dX1_init_4 : decode cX1_init 4 = .ok (.aload_n 0, 1) := by decide +kernel
theorem dX1_init_5 : decode cX1_init 5 = .ok (.bipush 12, 2) := by decide +kernel
theorem dX1_init_7 : decode cX1_init 7 = .ok (.newarray .int, 2) := by decide +kernel
theorem dX1_init_9 : decode cX1_init 9 = .ok (.putfield 9, 3) := by decide +kernel
theorem dX1_init_12 : decode cX1_init 12 = .ok (.aload_n 0, 1) := by decide +kernel
theorem dX1_init_13 : decode cX1_init 13 = .ok (.bipush 12, 2) := by decide +kernel
theorem dX1_init_15 : decode cX1_init 15 = .ok (.newarray .int, 2) := by decide +kernel
theorem dX1_init_17 : decode cX1_init 17 = .ok (.putfield 15, 3) := by decide +kernel
theorem dX1_init_20 : decode cX1_init 20 = .ok (.aload_n 0, 1) := by decide +kernel
theorem dX1_init_21 : decode cX1_init 21 = .ok (.iconst 0, 1) := by decide +kernel
theorem dX1_init_22 : decode cX1_init 22 = .ok (.putfield 18, 3) := by decide +kernel
theorem dX1_init_25 : decode cX1_init 25 = .ok (.aload_n 0, 1) := by decide +kernel
theorem dX1_init_26 : decode cX1_init 26 = .ok (.iconst 1, 1) := by decide +kernel
theorem dX1_init_27 : decode cX1_init 27 = .ok (.putfield 22, 3) := by decide +kernel
theorem dX1_init_30 : decode cX1_init 30 = .ok (.aload_n 0, 1) := by decide +kernel
theorem dX1_init_31 : decode cX1_init 31 = .ok (.iconst 1, 1) := by decide +kernel
theorem dX1_init_32 : decode cX1_init 32 = .ok (.putfield 25, 3) := by decide +kernel
theorem dX1_init_35 : decode cX1_init 35 = .ok (.return_, 1) := by decide +kernel
abbrev wsX1_init : List Cond := Cond.code yX1_init cX1_init 1 none :: lw_gd
theorem dX1_restart_0 : decode cX1_restart 0 = .ok (.aload_n 0, 1) := by decide +kernel
theorem dX1_restart_1 : decode cX1_restart 1 = .ok (.iconst 1, 1) := by decide +kernel
theorem dX1_restart_2 : decode cX1_restart 2 = .ok (.putfield 25, 3) := by decide +kernel
theorem dX1_restart_5 : decode cX1_restart 5 = .ok (.aload_n 0, 1) := by decide +kernel
theorem dX1_restart_6 : decode cX1_restart 6 = .ok (.iload_n 1, 1) := by decide +kernel
theorem dX1_restart_7 : decode cX1_restart 7 = .ok (.putfield 22, 3) := by decide +kernel
theorem dX1_restart_10 : decode cX1_restart 10 = .ok (.aload_n 0, 1) := by decide +kernel
theorem dX1_restart_11 : decode cX1_restart 11 = .ok (.iconst 0, 1) := by decide +kernel
theorem dX1_restart_12 : decode cX1_restart 12 = .ok (.putfield 18, 3) := by decide +kernel
theorem dX1_restart_15 : decode cX1_restart 15 = .ok (.return_, 1) := by decide +kernel
abbrev wsX1_restart : List Cond := Cond.code yX1_restart cX1_restart 2 none :: lw_gd
theorem dX1_canMeet_0 : decode cX1_canMeet 0 = .ok (.aload_n 0, 1) := by decide +kernel
theorem dX1_canMeet_1 : decode cX1_canMeet 1 = .ok (.getfield 25, 3) := by decide +kernel
theorem dX1_canMeet_4 : decode cX1_canMeet 4 = .ok (.ifCond .eq 19, 3) := by decide +kernel
theorem dX1_canMeet_7 : decode cX1_canMeet 7 = .ok (.iload_n 1, 1) := by decide +kernel
theorem dX1_canMeet_8 : decode cX1_canMeet 8 = .ok (.ifCond .lt 15, 3) := by decide +kernel
theorem dX1_canMeet_11 : decode cX1_canMeet 11 = .ok (.iload_n 1, 1) := by decide +kernel
theorem dX1_canMeet_12 : decode cX1_canMeet 12 = .ok (.aload_n 0, 1) := by decide +kernel
theorem dX1_canMeet_13 : decode cX1_canMeet 13 = .ok (.getfield 22, 3) := by decide +kernel
theorem dX1_canMeet_16 : decode cX1_canMeet 16 = .ok (.if_icmp .ge 7, 3) := by decide +kernel
theorem dX1_canMeet_19 : decode cX1_canMeet 19 = .ok (.iconst 1, 1) := by decide +kernel
theorem dX1_canMeet_20 : decode cX1_canMeet 20 = .ok (.goto 4, 3) := by decide +kernel
theorem dX1_canMeet_23 : decode cX1_canMeet 23 = .ok (.iconst 0, 1) := by decide +kernel
theorem dX1_canMeet_24 : decode cX1_canMeet 24 = .ok (.ireturn, 1) := by decide +kernel
abbrev wsX1_canMeet : List Cond := Cond.code yX1_canMeet cX1_canMeet 2 (some .boolean) :: lw_gd
theorem dX1_append_0 : decode cX1_append 0 = .ok (.aload_n 0, 1) := by decide +kernel
theorem dX1_append_1 : decode cX1_append 1 = .ok (.getfield 18, 3) := by decide +kernel
theorem dX1_append_4 : decode cX1_append 4 = .ok (.bipush 12, 2) := by decide +kernel
theorem dX1_append_6 : decode cX1_append 6 = .ok (.if_icmp .lt 5, 3) := by decide +kernel
theorem dX1_append_9 : decode cX1_append 9 = .ok (.iconst (-1), 1) := by decide +kernel
theorem dX1_append_10 : decode cX1_append 10 = .ok (.ireturn, 1) := by decide +kernel
theorem dX1_append_11 : decode cX1_append 11 = .ok (.aload_n 0, 1) := by decide +kernel
theorem dX1_append_12 : decode cX1_append 12 = .ok (.getfield 9, 3) := by decide +kernel
theorem dX1_append_15 : decode cX1_append 15 = .ok (.aload_n 0, 1) := by decide +kernel
theorem dX1_append_16 : decode cX1_append 16 = .ok (.getfield 18, 3) := by decide +kernel
theorem dX1_append_19 : decode cX1_append 19 = .ok (.iload_n 1, 1) := by decide +kernel
theorem dX1_append_20 : decode cX1_append 20 = .ok (.iastore, 1) := by decide +kernel
theorem dX1_append_21 : decode cX1_append 21 = .ok (.aload_n 0, 1) := by decide +kernel
theorem dX1_append_22 : decode cX1_append 22 = .ok (.getfield 15, 3) := by decide +kernel
theorem dX1_append_25 : decode cX1_append 25 = .ok (.aload_n 0, 1) := by decide +kernel
theorem dX1_append_26 : decode cX1_append 26 = .ok (.getfield 18, 3) := by decide +kernel
theorem dX1_append_29 : decode cX1_append 29 = .ok (.iconst 0, 1) := by decide +kernel
theorem dX1_append_30 : decode cX1_append 30 = .ok (.iastore, 1) := by decide +kernel
theorem dX1_append_31 : decode cX1_append 31 = .ok (.aload_n 0, 1) := by decide +kernel
theorem dX1_append_32 : decode cX1_append 32 = .ok (.dup, 1) := by decide +kernel
theorem dX1_append_33 : decode cX1_append 33 = .ok (.getfield 18, 3) := by decide +kernel
theorem dX1_append_36 : decode cX1_append 36 = .ok (.iconst 1, 1) := by decide +kernel
theorem dX1_append_37 : decode cX1_append 37 = .ok (.iadd, 1) := by decide +kernel
theorem dX1_append_38 : decode cX1_append 38 = .ok (.putfield 18, 3) := by decide +kernel
theorem dX1_append_41 : decode cX1_append 41 = .ok (.aload_n 0, 1) := by decide +kernel
theorem dX1_append_42 : decode cX1_append 42 = .ok (.getfield 18, 3) := by decide +kernel
theorem dX1_append_45 : decode cX1_append 45 = .ok (.iconst 1, 1) := by decide +kernel
theorem dX1_append_46 : decode cX1_append 46 = .ok (.isub, 1) := by decide +kernel
theorem dX1_append_47 : decode cX1_append 47 = .ok (.ireturn, 1) := by decide +kernel
abbrev wsX1_append : List Cond := Cond.code yX1_append cX1_append 2 (some .int) :: lw_gd
theorem dX1_become_0 : decode cX1_become 0 = .ok (.aload_n 0, 1) := by decide +kernel
theorem dX1_become_1 : decode cX1_become 1 = .ok (.iconst 0, 1) := by decide +kernel
theorem dX1_become_2 : decode cX1_become 2 = .ok (.putfield 25, 3) := by decide +kernel
theorem dX1_become_5 : decode cX1_become 5 = .ok (.aload_n 0, 1) := by decide +kernel
theorem dX1_become_6 : decode cX1_become 6 = .ok (.iconst 0, 1) := by decide +kernel
theorem dX1_become_7 : decode cX1_become 7 = .ok (.putfield 18, 3) := by decide +kernel
theorem dX1_become_10 : decode cX1_become 10 = .ok (.iconst 0, 1) := by decide +kernel
theorem dX1_become_11 : decode cX1_become 11 = .ok (.istore_n 3, 1) := by decide +kernel
theorem dX1_become_12 : decode cX1_become 12 = .ok (.iload_n 3, 1) := by decide +kernel
theorem dX1_become_13 : decode cX1_become 13 = .ok (.iload_n 2, 1) := by decide +kernel
theorem dX1_become_14 : decode cX1_become 14 = .ok (.if_icmp .ge 23, 3) := by decide +kernel
theorem dX1_become_17 : decode cX1_become 17 = .ok (.iload_n 3, 1) := by decide +kernel
theorem dX1_become_18 : decode cX1_become 18 = .ok (.aload_n 1, 1) := by decide +kernel
theorem dX1_become_19 : decode cX1_become 19 = .ok (.arraylength, 1) := by decide +kernel
theorem dX1_become_20 : decode cX1_become 20 = .ok (.if_icmp .ge 17, 3) := by decide +kernel
theorem dX1_become_23 : decode cX1_become 23 = .ok (.aload_n 0, 1) := by decide +kernel
theorem dX1_become_24 : decode cX1_become 24 = .ok (.aload_n 1, 1) := by decide +kernel
theorem dX1_become_25 : decode cX1_become 25 = .ok (.iload_n 3, 1) := by decide +kernel
theorem dX1_become_26 : decode cX1_become 26 = .ok (.iaload, 1) := by decide +kernel
theorem dX1_become_27 : decode cX1_become 27 = .ok (.invokevirtual 29, 3) := by decide +kernel
theorem dX1_become_30 : decode cX1_become 30 = .ok (.pop, 1) := by decide +kernel
theorem dX1_become_31 : decode cX1_become 31 = .ok (.iinc 3 1, 3) := by decide +kernel
theorem dX1_become_34 : decode cX1_become 34 = .ok (.goto (-22), 3) := by decide +kernel
theorem dX1_become_37 : decode cX1_become 37 = .ok (.return_, 1) := by decide +kernel
abbrev wsX1_become : List Cond := Cond.code yX1_become cX1_become 4 none :: lw_gd
theorem dX1_met_0 : decode cX1_met 0 = .ok (.iconst 0, 1) := by decide +kernel
theorem dX1_met_1 : decode cX1_met 1 = .ok (.istore_n 1, 1) := by decide +kernel
theorem dX1_met_2 : decode cX1_met 2 = .ok (.iconst 0, 1) := by decide +kernel
theorem dX1_met_3 : decode cX1_met 3 = .ok (.istore_n 2, 1) := by decide +kernel
theorem dX1_met_4 : decode cX1_met 4 = .ok (.iload_n 2, 1) := by decide +kernel
theorem dX1_met_5 : decode cX1_met 5 = .ok (.aload_n 0, 1) := by decide +kernel
theorem dX1_met_6 : decode cX1_met 6 = .ok (.getfield 18, 3) := by decide +kernel
theorem dX1_met_9 : decode cX1_met 9 = .ok (.if_icmp .ge 18, 3) := by decide +kernel
theorem dX1_met_12 : decode cX1_met 12 = .ok (.iload_n 1, 1) := by decide +kernel
theorem dX1_met_13 : decode cX1_met 13 = .ok (.aload_n 0, 1) := by decide +kernel
theorem dX1_met_14 : decode cX1_met 14 = .ok (.getfield 9, 3) := by decide +kernel
theorem dX1_met_17 : decode cX1_met 17 = .ok (.iload_n 2, 1) := by decide +kernel
theorem dX1_met_18 : decode cX1_met 18 = .ok (.iaload, 1) := by decide +kernel
theorem dX1_met_19 : decode cX1_met 19 = .ok (.ior, 1) := by decide +kernel
theorem dX1_met_20 : decode cX1_met 20 = .ok (.istore_n 1, 1) := by decide +kernel
theorem dX1_met_21 : decode cX1_met 21 = .ok (.iinc 2 1, 3) := by decide +kernel
theorem dX1_met_24 : decode cX1_met 24 = .ok (.goto (-20), 3) := by decide +kernel
theorem dX1_met_27 : decode cX1_met 27 = .ok (.iload_n 1, 1) := by decide +kernel
theorem dX1_met_28 : decode cX1_met 28 = .ok (.ireturn, 1) := by decide +kernel
abbrev wsX1_met : List Cond := Cond.code yX1_met cX1_met 3 (some .int) :: lw_gd
theorem dX1_heaviest_0 : decode cX1_heaviest 0 = .ok (.sipush (-1000), 3) := by decide +kernel
theorem dX1_heaviest_3 : decode cX1_heaviest 3 = .ok (.istore_n 2, 1) := by decide +kernel
theorem dX1_heaviest_4 : decode cX1_heaviest 4 = .ok (.iconst 0, 1) := by decide +kernel
theorem dX1_heaviest_5 : decode cX1_heaviest 5 = .ok (.istore_n 3, 1) := by decide +kernel
theorem dX1_heaviest_6 : decode cX1_heaviest 6 = .ok (.iconst 0, 1) := by decide +kernel
theorem dX1_heaviest_7 : decode cX1_heaviest 7 = .ok (.istore 4, 2) := by decide +kernel
theorem dX1_heaviest_9 : decode cX1_heaviest 9 = .ok (.iload 4, 2) := by decide +kernel
theorem dX1_heaviest_11 : decode cX1_heaviest 11 = .ok (.aload_n 0, 1) := by decide +kernel
theorem dX1_heaviest_12 : decode cX1_heaviest 12 = .ok (.getfield 18, 3) := by decide +kernel
theorem dX1_heaviest_15 : decode cX1_heaviest 15 = .ok (.if_icmp .ge 40, 3) := by decide +kernel
theorem dX1_heaviest_18 : decode cX1_heaviest 18 = .ok (.iload_n 1, 1) := by decide +kernel
theorem dX1_heaviest_19 : decode cX1_heaviest 19 = .ok (.iload 4, 2) := by decide +kernel
theorem dX1_heaviest_21 : decode cX1_heaviest 21 = .ok (.invokestatic 33, 3) := by decide +kernel
theorem dX1_heaviest_24 : decode cX1_heaviest 24 = .ok (.ifCond .eq 25, 3) := by decide +kernel
theorem dX1_heaviest_27 : decode cX1_heaviest 27 = .ok (.aload_n 0, 1) := by decide +kernel
theorem dX1_heaviest_28 : decode cX1_heaviest 28 = .ok (.getfield 15, 3) := by decide +kernel
theorem dX1_heaviest_31 : decode cX1_heaviest 31 = .ok (.iload 4, 2) := by decide +kernel
theorem dX1_heaviest_33 : decode cX1_heaviest 33 = .ok (.iaload, 1) := by decide +kernel
theorem dX1_heaviest_34 : decode cX1_heaviest 34 = .ok (.iload_n 2, 1) := by decide +kernel
theorem dX1_heaviest_35 : decode cX1_heaviest 35 = .ok (.if_icmp .le 14, 3) := by decide +kernel
theorem dX1_heaviest_38 : decode cX1_heaviest 38 = .ok (.aload_n 0, 1) := by decide +kernel
theorem dX1_heaviest_39 : decode cX1_heaviest 39 = .ok (.getfield 15, 3) := by decide +kernel
theorem dX1_heaviest_42 : decode cX1_heaviest 42 = .ok (.iload 4, 2) := by decide +kernel
theorem dX1_heaviest_44 : decode cX1_heaviest 44 = .ok (.iaload, 1) := by decide +kernel
theorem dX1_heaviest_45 : decode cX1_heaviest 45 = .ok (.istore_n 2, 1) := by decide +kernel
theorem dX1_heaviest_46 : decode cX1_heaviest 46 = .ok (.iload 4, 2) := by decide +kernel
theorem dX1_heaviest_48 : decode cX1_heaviest 48 = .ok (.istore_n 3, 1) := by decide +kernel
theorem dX1_heaviest_49 : decode cX1_heaviest 49 = .ok (.iinc 4 1, 3) := by decide +kernel
theorem dX1_heaviest_52 : decode cX1_heaviest 52 = .ok (.goto (-43), 3) := by decide +kernel
theorem dX1_heaviest_55 : decode cX1_heaviest 55 = .ok (.iload_n 3, 1) := by decide +kernel
theorem dX1_heaviest_56 : decode cX1_heaviest 56 = .ok (.ireturn, 1) := by decide +kernel
abbrev wsX1_heaviest : List Cond := Cond.code yX1_heaviest cX1_heaviest 5 (some .int) :: lw_gd
theorem dJ6_bitCount_0 : decode cJ6_bitCount 0 = .ok (.iload_n 0, 1) := by decide +kernel
theorem dJ6_bitCount_1 : decode cJ6_bitCount 1 = .ok (.iload_n 0, 1) := by decide +kernel
theorem dJ6_bitCount_2 : decode cJ6_bitCount 2 = .ok (.iconst 1, 1) := by decide +kernel
theorem dJ6_bitCount_3 : decode cJ6_bitCount 3 = .ok (.iushr, 1) := by decide +kernel
theorem dJ6_bitCount_4 : decode cJ6_bitCount 4 = .ok (.ldc_w 265, 3) := by decide +kernel
theorem dJ6_bitCount_7 : decode cJ6_bitCount 7 = .ok (.iand, 1) := by decide +kernel
theorem dJ6_bitCount_8 : decode cJ6_bitCount 8 = .ok (.isub, 1) := by decide +kernel
theorem dJ6_bitCount_9 : decode cJ6_bitCount 9 = .ok (.istore_n 0, 1) := by decide +kernel
theorem dJ6_bitCount_10 : decode cJ6_bitCount 10 = .ok (.iload_n 0, 1) := by decide +kernel
theorem dJ6_bitCount_11 : decode cJ6_bitCount 11 = .ok (.ldc_w 266, 3) := by decide +kernel
theorem dJ6_bitCount_14 : decode cJ6_bitCount 14 = .ok (.iand, 1) := by decide +kernel
theorem dJ6_bitCount_15 : decode cJ6_bitCount 15 = .ok (.iload_n 0, 1) := by decide +kernel
theorem dJ6_bitCount_16 : decode cJ6_bitCount 16 = .ok (.iconst 2, 1) := by decide +kernel
theorem dJ6_bitCount_17 : decode cJ6_bitCount 17 = .ok (.iushr, 1) := by decide +kernel
theorem dJ6_bitCount_18 : decode cJ6_bitCount 18 = .ok (.ldc_w 266, 3) := by decide +kernel
theorem dJ6_bitCount_21 : decode cJ6_bitCount 21 = .ok (.iand, 1) := by decide +kernel
theorem dJ6_bitCount_22 : decode cJ6_bitCount 22 = .ok (.iadd, 1) := by decide +kernel
theorem dJ6_bitCount_23 : decode cJ6_bitCount 23 = .ok (.istore_n 0, 1) := by decide +kernel
theorem dJ6_bitCount_24 : decode cJ6_bitCount 24 = .ok (.iload_n 0, 1) := by decide +kernel
theorem dJ6_bitCount_25 : decode cJ6_bitCount 25 = .ok (.iload_n 0, 1) := by decide +kernel
theorem dJ6_bitCount_26 : decode cJ6_bitCount 26 = .ok (.iconst 4, 1) := by decide +kernel
theorem dJ6_bitCount_27 : decode cJ6_bitCount 27 = .ok (.iushr, 1) := by decide +kernel
theorem dJ6_bitCount_28 : decode cJ6_bitCount 28 = .ok (.iadd, 1) := by decide +kernel
theorem dJ6_bitCount_29 : decode cJ6_bitCount 29 = .ok (.ldc_w 267, 3) := by decide +kernel
theorem dJ6_bitCount_32 : decode cJ6_bitCount 32 = .ok (.iand, 1) := by decide +kernel
theorem dJ6_bitCount_33 : decode cJ6_bitCount 33 = .ok (.istore_n 0, 1) := by decide +kernel
theorem dJ6_bitCount_34 : decode cJ6_bitCount 34 = .ok (.iload_n 0, 1) := by decide +kernel
theorem dJ6_bitCount_35 : decode cJ6_bitCount 35 = .ok (.iload_n 0, 1) := by decide +kernel
theorem dJ6_bitCount_36 : decode cJ6_bitCount 36 = .ok (.bipush 8, 2) := by decide +kernel
theorem dJ6_bitCount_38 : decode cJ6_bitCount 38 = .ok (.iushr, 1) := by decide +kernel
theorem dJ6_bitCount_39 : decode cJ6_bitCount 39 = .ok (.iadd, 1) := by decide +kernel
theorem dJ6_bitCount_40 : decode cJ6_bitCount 40 = .ok (.istore_n 0, 1) := by decide +kernel
theorem dJ6_bitCount_41 : decode cJ6_bitCount 41 = .ok (.iload_n 0, 1) := by decide +kernel
theorem dJ6_bitCount_42 : decode cJ6_bitCount 42 = .ok (.iload_n 0, 1) := by decide +kernel
theorem dJ6_bitCount_43 : decode cJ6_bitCount 43 = .ok (.bipush 16, 2) := by decide +kernel
theorem dJ6_bitCount_45 : decode cJ6_bitCount 45 = .ok (.iushr, 1) := by decide +kernel
theorem dJ6_bitCount_46 : decode cJ6_bitCount 46 = .ok (.iadd, 1) := by decide +kernel
theorem dJ6_bitCount_47 : decode cJ6_bitCount 47 = .ok (.istore_n 0, 1) := by decide +kernel
theorem dJ6_bitCount_48 : decode cJ6_bitCount 48 = .ok (.iload_n 0, 1) := by decide +kernel
theorem dJ6_bitCount_49 : decode cJ6_bitCount 49 = .ok (.bipush 63, 2) := by decide +kernel
theorem dJ6_bitCount_51 : decode cJ6_bitCount 51 = .ok (.iand, 1) := by decide +kernel
theorem dJ6_bitCount_52 : decode cJ6_bitCount 52 = .ok (.ireturn, 1) := by decide +kernel
abbrev wsJ6_bitCount : List Cond := Cond.code yJ6_bitCount cJ6_bitCount 1 (some .int) :: lw_gd
theorem dX3_init_0 : decode cX3_init 0 = .ok (.aload_n 0, 1) := by decide +kernel
theorem dX3_init_1 : decode cX3_init 1 = .ok (.invokespecial 1, 3) := by decide +kernel
theorem dX3_init_4 : decode cX3_init 4 = .ok (.aload_n 0, 1) := by decide +kernel
theorem dX3_init_5 : decode cX3_init 5 = .ok (.bipush 8, 2) := by decide +kernel
theorem dX3_init_7 : decode cX3_init 7 = .ok (.newarray .int, 2) := by decide +kernel
theorem dX3_init_9 : decode cX3_init 9 = .ok (.putfield 7, 3) := by decide +kernel
theorem dX3_init_12 : decode cX3_init 12 = .ok (.aload_n 0, 1) := by decide +kernel
theorem dX3_init_13 : decode cX3_init 13 = .ok (.bipush 8, 2) := by decide +kernel
theorem dX3_init_15 : decode cX3_init 15 = .ok (.newarray .int, 2) := by decide +kernel
theorem dX3_init_17 : decode cX3_init 17 = .ok (.putfield 13, 3) := by decide +kernel
theorem dX3_init_20 : decode cX3_init 20 = .ok (.aload_n 0, 1) := by decide +kernel
theorem dX3_init_21 : decode cX3_init 21 = .ok (.bipush 8, 2) := by decide +kernel
theorem dX3_init_23 : decode cX3_init 23 = .ok (.newarray .boolean, 2) := by decide +kernel
theorem dX3_init_25 : decode cX3_init 25 = .ok (.putfield 16, 3) := by decide +kernel
theorem dX3_init_28 : decode cX3_init 28 = .ok (.aload_n 0, 1) := by decide +kernel
theorem dX3_init_29 : decode cX3_init 29 = .ok (.sipush 192, 3) := by decide +kernel
theorem dX3_init_32 : decode cX3_init 32 = .ok (.newarray .int, 2) := by decide +kernel
theorem dX3_init_34 : decode cX3_init 34 = .ok (.putfield 20, 3) := by decide +kernel
theorem dX3_init_37 : decode cX3_init 37 = .ok (.aload_n 0, 1) := by decide +kernel
theorem dX3_init_38 : decode cX3_init 38 = .ok (.bipush 96, 2) := by decide +kernel
theorem dX3_init_40 : decode cX3_init 40 = .ok (.newarray .int, 2) := by decide +kernel
theorem dX3_init_42 : decode cX3_init 42 = .ok (.putfield 23, 3) := by decide +kernel
theorem dX3_init_45 : decode cX3_init 45 = .ok (.aload_n 0, 1) := by decide +kernel
theorem dX3_init_46 : decode cX3_init 46 = .ok (.bipush 24, 2) := by decide +kernel
theorem dX3_init_48 : decode cX3_init 48 = .ok (.newarray .int, 2) := by decide +kernel
theorem dX3_init_50 : decode cX3_init 50 = .ok (.putfield 26, 3) := by decide +kernel
theorem dX3_init_53 : decode cX3_init 53 = .ok (.aload_n 0, 1) := by decide +kernel
theorem dX3_init_54 : decode cX3_init 54 = .ok (.bipush 32, 2) := by decide +kernel
theorem dX3_init_56 : decode cX3_init 56 = .ok (.newarray .int, 2) := by decide +kernel
theorem dX3_init_58 : decode cX3_init 58 = .ok (.putfield 29, 3) := by decide +kernel
theorem dX3_init_61 : decode cX3_init 61 = .ok (.aload_n 0, 1) := by decide +kernel
theorem dX3_init_62 : decode cX3_init 62 = .ok (.sipush 4096, 3) := by decide +kernel
theorem dX3_init_65 : decode cX3_init 65 = .ok (.newarray .byte, 2) := by decide +kernel
theorem dX3_init_67 : decode cX3_init 67 = .ok (.putfield 32, 3) := by decide +kernel
theorem dX3_init_70 : decode cX3_init 70 = .ok (.aload_n 0, 1) := by decide +kernel
theorem dX3_init_71 : decode cX3_init 71 = .ok (.sipush 4096, 3) := by decide +kernel
theorem dX3_init_74 : decode cX3_init 74 = .ok (.newarray .byte, 2) := by decide +kernel
theorem dX3_init_76 : decode cX3_init 76 = .ok (.putfield 36, 3) := by decide +kernel
theorem dX3_init_79 : decode cX3_init 79 = .ok (.iconst 0, 1) := by decide +kernel
theorem dX3_init_80 : decode cX3_init 80 = .ok (.istore_n 1, 1) := by decide +kernel
theorem dX3_init_81 : decode cX3_init 81 = .ok (.iload_n 1, 1) := by decide +kernel
theorem dX3_init_82 : decode cX3_init 82 = .ok (.bipush 8, 2) := by decide +kernel
theorem dX3_init_84 : decode cX3_init 84 = .ok (.if_icmp .ge 23, 3) := by decide +kernel
theorem dX3_init_87 : decode cX3_init 87 = .ok (.aload_n 0, 1) := by decide +kernel
theorem dX3_init_88 : decode cX3_init 88 = .ok (.getfield 7, 3) := by decide +kernel
theorem dX3_init_91 : decode cX3_init 91 = .ok (.iload_n 1, 1) := by decide +kernel
theorem dX3_init_92 : decode cX3_init 92 = .ok (.iconst 1, 1) := by decide +kernel
theorem dX3_init_93 : decode cX3_init 93 = .ok (.iastore, 1) := by decide +kernel
theorem dX3_init_94 : decode cX3_init 94 = .ok (.aload_n 0, 1) := by decide +kernel
theorem dX3_init_95 : decode cX3_init 95 = .ok (.getfield 16, 3) := by decide +kernel
theorem dX3_init_98 : decode cX3_init 98 = .ok (.iload_n 1, 1) := by decide +kernel
theorem dX3_init_99 : decode cX3_init 99 = .ok (.iconst 1, 1) := by decide +kernel
theorem dX3_init_100 : decode cX3_init 100 = .ok (.bastore, 1) := by decide +kernel
theorem dX3_init_101 : decode cX3_init 101 = .ok (.iinc 1 1, 3) := by decide +kernel
theorem dX3_init_104 : decode cX3_init 104 = .ok (.goto (-23), 3) := by decide +kernel
theorem dX3_init_107 : decode cX3_init 107 = .ok (.return_, 1) := by decide +kernel
abbrev wsX3_init : List Cond := Cond.code yX3_init cX3_init 2 none :: lw_gd
theorem dX3_begin_0 : decode cX3_begin 0 = .ok (.iload_n 1, 1) := by decide +kernel
theorem dX3_begin_1 : decode cX3_begin 1 = .ok (.invokestatic 39, 3) := by decide +kernel
theorem dX3_begin_4 : decode cX3_begin 4 = .ok (.ifCond .eq 14, 3) := by decide +kernel
theorem dX3_begin_7 : decode cX3_begin 7 = .ok (.iload_n 2, 1) := by decide +kernel
theorem dX3_begin_8 : decode cX3_begin 8 = .ok (.iconst 1, 1) := by decide +kernel
theorem dX3_begin_9 : decode cX3_begin 9 = .ok (.if_icmp .lt 9, 3) := by decide +kernel
theorem dX3_begin_12 : decode cX3_begin 12 = .ok (.iload_n 2, 1) := by decide +kernel
theorem dX3_begin_13 : decode cX3_begin 13 = .ok (.bipush 13, 2) := by decide +kernel
theorem dX3_begin_15 : decode cX3_begin 15 = .ok (.if_icmp .le 5, 3) := by decide +kernel
theorem dX3_begin_18 : decode cX3_begin 18 = .ok (.iconst 0, 1) := by decide +kernel
theorem dX3_begin_19 : decode cX3_begin 19 = .ok (.ireturn, 1) := by decide +kernel
theorem dX3_begin_20 : decode cX3_begin 20 = .ok (.aload_n 0, 1) := by decide +kernel
theorem dX3_begin_21 : decode cX3_begin 21 = .ok (.getfield 7, 3) := by decide +kernel
theorem dX3_begin_24 : decode cX3_begin 24 = .ok (.iload_n 1, 1) := by decide +kernel
theorem dX3_begin_25 : decode cX3_begin 25 = .ok (.iload_n 2, 1) := by decide +kernel
theorem dX3_begin_26 : decode cX3_begin 26 = .ok (.iastore, 1) := by decide +kernel
theorem dX3_begin_27 : decode cX3_begin 27 = .ok (.aload_n 0, 1) := by decide +kernel
theorem dX3_begin_28 : decode cX3_begin 28 = .ok (.getfield 13, 3) := by decide +kernel
theorem dX3_begin_31 : decode cX3_begin 31 = .ok (.iload_n 1, 1) := by decide +kernel
theorem dX3_begin_32 : decode cX3_begin 32 = .ok (.iconst 0, 1) := by decide +kernel
theorem dX3_begin_33 : decode cX3_begin 33 = .ok (.iastore, 1) := by decide +kernel
theorem dX3_begin_34 : decode cX3_begin 34 = .ok (.aload_n 0, 1) := by decide +kernel
theorem dX3_begin_35 : decode cX3_begin 35 = .ok (.getfield 16, 3) := by decide +kernel
theorem dX3_begin_38 : decode cX3_begin 38 = .ok (.iload_n 1, 1) := by decide +kernel
theorem dX3_begin_39 : decode cX3_begin 39 = .ok (.iconst 1, 1) := by decide +kernel
theorem dX3_begin_40 : decode cX3_begin 40 = .ok (.bastore, 1) := by decide +kernel
theorem dX3_begin_41 : decode cX3_begin 41 = .ok (.iconst 1, 1) := by decide +kernel
theorem dX3_begin_42 : decode cX3_begin 42 = .ok (.ireturn, 1) := by decide +kernel
abbrev wsX3_begin : List Cond := Cond.code yX3_begin cX3_begin 3 (some .boolean) :: lw_gd
theorem dX3_isGraph_0 : decode cX3_isGraph 0 = .ok (.iload_n 0, 1) := by decide +kernel
theorem dX3_isGraph_1 : decode cX3_isGraph 1 = .ok (.ifCond .lt 13, 3) := by decide +kernel
theorem dX3_isGraph_4 : decode cX3_isGraph 4 = .ok (.iload_n 0, 1) := by decide +kernel
theorem dX3_isGraph_5 : decode cX3_isGraph 5 = .ok (.bipush 8, 2) := by decide +kernel
theorem dX3_isGraph_7 : decode cX3_isGraph 7 = .ok (.if_icmp .ge 7, 3) := by decide +kernel
theorem dX3_isGraph_10 : decode cX3_isGraph 10 = .ok (.iconst 1, 1) := by decide +kernel
theorem dX3_isGraph_11 : decode cX3_isGraph 11 = .ok (.goto 4, 3) := by decide +kernel
theorem dX3_isGraph_14 : decode cX3_isGraph 14 = .ok (.iconst 0, 1) := by decide +kernel
theorem dX3_isGraph_15 : decode cX3_isGraph 15 = .ok (.ireturn, 1) := by decide +kernel
abbrev wsX3_isGraph : List Cond := Cond.code yX3_isGraph cX3_isGraph 1 (some .boolean) :: lw_gd
theorem dX3_add_0 : decode cX3_add 0 = .ok (.iload_n 1, 1) := by decide +kernel
theorem dX3_add_1 : decode cX3_add 1 = .ok (.invokestatic 39, 3) := by decide +kernel
theorem dX3_add_4 : decode cX3_add 4 = .ok (.ifCond .eq 51, 3) := by decide +kernel
theorem dX3_add_7 : decode cX3_add 7 = .ok (.aload_n 0, 1) := by decide +kernel
theorem dX3_add_8 : decode cX3_add 8 = .ok (.getfield 16, 3) := by decide +kernel
theorem dX3_add_11 : decode cX3_add 11 = .ok (.iload_n 1, 1) := by decide +kernel
theorem dX3_add_12 : decode cX3_add 12 = .ok (.baload, 1) := by decide +kernel
theorem dX3_add_13 : decode cX3_add 13 = .ok (.ifCond .eq 42, 3) := by decide +kernel
theorem dX3_add_16 : decode cX3_add 16 = .ok (.aload_n 0, 1) := by decide +kernel
theorem dX3_add_17 : decode cX3_add 17 = .ok (.getfield 13, 3) := by decide +kernel
theorem dX3_add_20 : decode cX3_add 20 = .ok (.iload_n 1, 1) := by decide +kernel
theorem dX3_add_21 : decode cX3_add 21 = .ok (.iaload, 1) := by decide +kernel
theorem dX3_add_22 : decode cX3_add 22 = .ok (.bipush 12, 2) := by decide +kernel
theorem dX3_add_24 : decode cX3_add 24 = .ok (.if_icmp .eq 31, 3) := by decide +kernel
theorem dX3_add_27 : decode cX3_add 27 = .ok (.iload_n 2, 1) := by decide +kernel
theorem dX3_add_28 : decode cX3_add 28 = .ok (.ifCond .lt 27, 3) := by decide +kernel
theorem dX3_add_31 : decode cX3_add 31 = .ok (.iload_n 3, 1) := by decide +kernel
theorem dX3_add_32 : decode cX3_add 32 = .ok (.ifCond .lt 23, 3) := by decide +kernel
theorem dX3_add_35 : decode cX3_add 35 = .ok (.iload_n 2, 1) := by decide +kernel
theorem dX3_add_36 : decode cX3_add 36 = .ok (.aload_n 0, 1) := by decide +kernel
theorem dX3_add_37 : decode cX3_add 37 = .ok (.getfield 7, 3) := by decide +kernel
theorem dX3_add_40 : decode cX3_add 40 = .ok (.iload_n 1, 1) := by decide +kernel
theorem dX3_add_41 : decode cX3_add 41 = .ok (.iaload, 1) := by decide +kernel
theorem dX3_add_42 : decode cX3_add 42 = .ok (.if_icmp .ge 13, 3) := by decide +kernel
theorem dX3_add_45 : decode cX3_add 45 = .ok (.iload_n 3, 1) := by decide +kernel
theorem dX3_add_46 : decode cX3_add 46 = .ok (.aload_n 0, 1) := by decide +kernel
theorem dX3_add_47 : decode cX3_add 47 = .ok (.getfield 7, 3) := by decide +kernel
theorem dX3_add_50 : decode cX3_add 50 = .ok (.iload_n 1, 1) := by decide +kernel
theorem dX3_add_51 : decode cX3_add 51 = .ok (.iaload, 1) := by decide +kernel
theorem dX3_add_52 : decode cX3_add 52 = .ok (.if_icmp .lt 5, 3) := by decide +kernel
theorem dX3_add_55 : decode cX3_add 55 = .ok (.iconst (-1), 1) := by decide +kernel
theorem dX3_add_56 : decode cX3_add 56 = .ok (.ireturn, 1) := by decide +kernel
theorem dX3_add_57 : decode cX3_add 57 = .ok (.aload_n 0, 1) := by decide +kernel
theorem dX3_add_58 : decode cX3_add 58 = .ok (.getfield 13, 3) := by decide +kernel
theorem dX3_add_61 : decode cX3_add 61 = .ok (.iload_n 1, 1) := by decide +kernel
theorem dX3_add_62 : decode cX3_add 62 = .ok (.iaload, 1) := by decide +kernel
theorem dX3_add_63 : decode cX3_add 63 = .ok (.istore 4, 2) := by decide +kernel
theorem dX3_add_65 : decode cX3_add 65 = .ok (.aload_n 0, 1) := by decide +kernel
theorem dX3_add_66 : decode cX3_add 66 = .ok (.getfield 20, 3) := by decide +kernel
theorem dX3_add_69 : decode cX3_add 69 = .ok (.bipush 24, 2) := by decide +kernel
theorem dX3_add_71 : decode cX3_add 71 = .ok (.iload_n 1, 1) := by decide +kernel
theorem dX3_add_72 : decode cX3_add 72 = .ok (.imul, 1) := by decide +kernel
theorem dX3_add_73 : decode cX3_add 73 = .ok (.iconst 2, 1) := by decide +kernel
theorem dX3_add_74 : decode cX3_add 74 = .ok (.iload 4, 2) := by decide +kernel
theorem dX3_add_76 : decode cX3_add 76 = .ok (.imul, 1) := by decide +kernel
theorem dX3_add_77 : decode cX3_add 77 = .ok (.iadd, 1) := by decide +kernel
theorem dX3_add_78 : decode cX3_add 78 = .ok (.iload_n 2, 1) := by decide +kernel
theorem dX3_add_79 : decode cX3_add 79 = .ok (.iastore, 1) := by decide +kernel
theorem dX3_add_80 : decode cX3_add 80 = .ok (.aload_n 0, 1) := by decide +kernel
theorem dX3_add_81 : decode cX3_add 81 = .ok (.getfield 20, 3) := by decide +kernel
theorem dX3_add_84 : decode cX3_add 84 = .ok (.bipush 24, 2) := by decide +kernel
theorem dX3_add_86 : decode cX3_add 86 = .ok (.iload_n 1, 1) := by decide +kernel
theorem dX3_add_87 : decode cX3_add 87 = .ok (.imul, 1) := by decide +kernel
theorem dX3_add_88 : decode cX3_add 88 = .ok (.iconst 2, 1) := by decide +kernel
theorem dX3_add_89 : decode cX3_add 89 = .ok (.iload 4, 2) := by decide +kernel
theorem dX3_add_91 : decode cX3_add 91 = .ok (.imul, 1) := by decide +kernel
theorem dX3_add_92 : decode cX3_add 92 = .ok (.iadd, 1) := by decide +kernel
theorem dX3_add_93 : decode cX3_add 93 = .ok (.iconst 1, 1) := by decide +kernel
theorem dX3_add_94 : decode cX3_add 94 = .ok (.iadd, 1) := by decide +kernel
theorem dX3_add_95 : decode cX3_add 95 = .ok (.iload_n 3, 1) := by decide +kernel
theorem dX3_add_96 : decode cX3_add 96 = .ok (.iastore, 1) := by decide +kernel
theorem dX3_add_97 : decode cX3_add 97 = .ok (.aload_n 0, 1) := by decide +kernel
theorem dX3_add_98 : decode cX3_add 98 = .ok (.getfield 23, 3) := by decide +kernel
theorem dX3_add_101 : decode cX3_add 101 = .ok (.bipush 12, 2) := by decide +kernel
theorem dX3_add_103 : decode cX3_add 103 = .ok (.iload_n 1, 1) := by decide +kernel
theorem dX3_add_104 : decode cX3_add 104 = .ok (.imul, 1) := by decide +kernel
theorem dX3_add_105 : decode cX3_add 105 = .ok (.iload 4, 2) := by decide +kernel
theorem dX3_add_107 : decode cX3_add 107 = .ok (.iadd, 1) := by decide +kernel
theorem dX3_add_108 : decode cX3_add 108 = .ok (.iconst 0, 1) := by decide +kernel
theorem dX3_add_109 : decode cX3_add 109 = .ok (.iastore, 1) := by decide +kernel
theorem dX3_add_110 : decode cX3_add 110 = .ok (.aload_n 0, 1) := by decide +kernel
theorem dX3_add_111 : decode cX3_add 111 = .ok (.getfield 13, 3) := by decide +kernel
theorem dX3_add_114 : decode cX3_add 114 = .ok (.iload_n 1, 1) := by decide +kernel
theorem dX3_add_115 : decode cX3_add 115 = .ok (.iload 4, 2) := by decide +kernel
theorem dX3_add_117 : decode cX3_add 117 = .ok (.iconst 1, 1) := by decide +kernel
theorem dX3_add_118 : decode cX3_add 118 = .ok (.iadd, 1) := by decide +kernel
theorem dX3_add_119 : decode cX3_add 119 = .ok (.iastore, 1) := by decide +kernel
theorem dX3_add_120 : decode cX3_add 120 = .ok (.iload 4, 2) := by decide +kernel
theorem dX3_add_122 : decode cX3_add 122 = .ok (.ireturn, 1) := by decide +kernel
abbrev wsX3_add : List Cond := Cond.code yX3_add cX3_add 5 (some .int) :: lw_gd
theorem dX3_weigh_0 : decode cX3_weigh 0 = .ok (.aload_n 0, 1) := by decide +kernel
theorem dX3_weigh_1 : decode cX3_weigh 1 = .ok (.iload_n 1, 1) := by decide +kernel
theorem dX3_weigh_2 : decode cX3_weigh 2 = .ok (.iload_n 2, 1) := by decide +kernel
theorem dX3_weigh_3 : decode cX3_weigh 3 = .ok (.invokevirtual 50, 3) := by decide +kernel
theorem dX3_weigh_6 : decode cX3_weigh 6 = .ok (.ifCond .eq 17, 3) := by decide +kernel
theorem dX3_weigh_9 : decode cX3_weigh 9 = .ok (.iload_n 3, 1) := by decide +kernel
theorem dX3_weigh_10 : decode cX3_weigh 10 = .ok (.sipush (-999), 3) := by decide +kernel
theorem dX3_weigh_13 : decode cX3_weigh 13 = .ok (.if_icmp .lt 10, 3) := by decide +kernel
theorem dX3_weigh_16 : decode cX3_weigh 16 = .ok (.iload_n 3, 1) := by decide +kernel
theorem dX3_weigh_17 : decode cX3_weigh 17 = .ok (.sipush 999, 3) := by decide +kernel
theorem dX3_weigh_20 : decode cX3_weigh 20 = .ok (.if_icmp .le 5, 3) := by decide +kernel
theorem dX3_weigh_23 : decode cX3_weigh 23 = .ok (.iconst 0, 1) := by decide +kernel
theorem dX3_weigh_24 : decode cX3_weigh 24 = .ok (.ireturn, 1) := by decide +kernel
theorem dX3_weigh_25 : decode cX3_weigh 25 = .ok (.aload_n 0, 1) := by decide +kernel
theorem dX3_weigh_26 : decode cX3_weigh 26 = .ok (.getfield 23, 3) := by decide +kernel
theorem dX3_weigh_29 : decode cX3_weigh 29 = .ok (.bipush 12, 2) := by decide +kernel
theorem dX3_weigh_31 : decode cX3_weigh 31 = .ok (.iload_n 1, 1) := by decide +kernel
theorem dX3_weigh_32 : decode cX3_weigh 32 = .ok (.imul, 1) := by decide +kernel
theorem dX3_weigh_33 : decode cX3_weigh 33 = .ok (.iload_n 2, 1) := by decide +kernel
theorem dX3_weigh_34 : decode cX3_weigh 34 = .ok (.iadd, 1) := by decide +kernel
theorem dX3_weigh_35 : decode cX3_weigh 35 = .ok (.iload_n 3, 1) := by decide +kernel
theorem dX3_weigh_36 : decode cX3_weigh 36 = .ok (.iastore, 1) := by decide +kernel
theorem dX3_weigh_37 : decode cX3_weigh 37 = .ok (.iconst 1, 1) := by decide +kernel
theorem dX3_weigh_38 : decode cX3_weigh 38 = .ok (.ireturn, 1) := by decide +kernel
abbrev wsX3_weigh : List Cond := Cond.code yX3_weigh cX3_weigh 4 (some .boolean) :: lw_gd
theorem dX3_isEdge_0 : decode cX3_isEdge 0 = .ok (.iload_n 1, 1) := by decide +kernel
theorem dX3_isEdge_1 : decode cX3_isEdge 1 = .ok (.invokestatic 39, 3) := by decide +kernel
theorem dX3_isEdge_4 : decode cX3_isEdge 4 = .ok (.ifCond .eq 21, 3) := by decide +kernel
theorem dX3_isEdge_7 : decode cX3_isEdge 7 = .ok (.iload_n 2, 1) := by decide +kernel
theorem dX3_isEdge_8 : decode cX3_isEdge 8 = .ok (.ifCond .lt 17, 3) := by decide +kernel
theorem dX3_isEdge_11 : decode cX3_isEdge 11 = .ok (.iload_n 2, 1) := by decide +kernel
theorem dX3_isEdge_12 : decode cX3_isEdge 12 = .ok (.aload_n 0, 1) := by decide +kernel
theorem dX3_isEdge_13 : decode cX3_isEdge 13 = .ok (.getfield 13, 3) := by decide +kernel
theorem dX3_isEdge_16 : decode cX3_isEdge 16 = .ok (.iload_n 1, 1) := by decide +kernel
theorem dX3_isEdge_17 : decode cX3_isEdge 17 = .ok (.iaload, 1) := by decide +kernel
theorem dX3_isEdge_18 : decode cX3_isEdge 18 = .ok (.if_icmp .ge 7, 3) := by decide +kernel
theorem dX3_isEdge_21 : decode cX3_isEdge 21 = .ok (.iconst 1, 1) := by decide +kernel
theorem dX3_isEdge_22 : decode cX3_isEdge 22 = .ok (.goto 4, 3) := by decide +kernel
theorem dX3_isEdge_25 : decode cX3_isEdge 25 = .ok (.iconst 0, 1) := by decide +kernel
theorem dX3_isEdge_26 : decode cX3_isEdge 26 = .ok (.ireturn, 1) := by decide +kernel
abbrev wsX3_isEdge : List Cond := Cond.code yX3_isEdge cX3_isEdge 3 (some .boolean) :: lw_gd
theorem dX3_leave_0 : decode cX3_leave 0 = .ok (.iload_n 1, 1) := by decide +kernel
theorem dX3_leave_1 : decode cX3_leave 1 = .ok (.invokestatic 39, 3) := by decide +kernel
theorem dX3_leave_4 : decode cX3_leave 4 = .ok (.ifCond .eq 12, 3) := by decide +kernel
theorem dX3_leave_7 : decode cX3_leave 7 = .ok (.aload_n 0, 1) := by decide +kernel
theorem dX3_leave_8 : decode cX3_leave 8 = .ok (.iload_n 2, 1) := by decide +kernel
theorem dX3_leave_9 : decode cX3_leave 9 = .ok (.iload_n 3, 1) := by decide +kernel
theorem dX3_leave_10 : decode cX3_leave 10 = .ok (.invokevirtual 58, 3) := by decide +kernel
theorem dX3_leave_13 : decode cX3_leave 13 = .ok (.ifCond .ne 5, 3) := by decide +kernel
theorem dX3_leave_16 : decode cX3_leave 16 = .ok (.iconst (-1), 1) := by decide +kernel
theorem dX3_leave_17 : decode cX3_leave 17 = .ok (.ireturn, 1) := by decide +kernel
theorem dX3_leave_18 : decode cX3_leave 18 = .ok (.aload_n 0, 1) := by decide +kernel
theorem dX3_leave_19 : decode cX3_leave 19 = .ok (.iload_n 2, 1) := by decide +kernel
theorem dX3_leave_20 : decode cX3_leave 20 = .ok (.iload 4, 2) := by decide +kernel
theorem dX3_leave_22 : decode cX3_leave 22 = .ok (.ifCond .eq 7, 3) := by decide +kernel
theorem dX3_leave_25 : decode cX3_leave 25 = .ok (.iload_n 3, 1) := by decide +kernel
theorem dX3_leave_26 : decode cX3_leave 26 = .ok (.goto 4, 3) := by decide +kernel
theorem dX3_leave_29 : decode cX3_leave 29 = .ok (.iconst 0, 1) := by decide +kernel
theorem dX3_leave_30 : decode cX3_leave 30 = .ok (.invokevirtual 61, 3) := by decide +kernel
theorem dX3_leave_33 : decode cX3_leave 33 = .ok (.pop, 1) := by decide +kernel
theorem dX3_leave_34 : decode cX3_leave 34 = .ok (.aload_n 0, 1) := by decide +kernel
theorem dX3_leave_35 : decode cX3_leave 35 = .ok (.iconst 0, 1) := by decide +kernel
theorem dX3_leave_36 : decode cX3_leave 36 = .ok (.putfield 54, 3) := by decide +kernel
theorem dX3_leave_39 : decode cX3_leave 39 = .ok (.iconst 0, 1) := by decide +kernel
theorem dX3_leave_40 : decode cX3_leave 40 = .ok (.istore 5, 2) := by decide +kernel
theorem dX3_leave_42 : decode cX3_leave 42 = .ok (.iload 5, 2) := by decide +kernel
theorem dX3_leave_44 : decode cX3_leave 44 = .ok (.aload_n 0, 1) := by decide +kernel
theorem dX3_leave_45 : decode cX3_leave 45 = .ok (.getfield 13, 3) := by decide +kernel
theorem dX3_leave_48 : decode cX3_leave 48 = .ok (.iload_n 2, 1) := by decide +kernel
theorem dX3_leave_49 : decode cX3_leave 49 = .ok (.iaload, 1) := by decide +kernel
theorem dX3_leave_50 : decode cX3_leave 50 = .ok (.if_icmp .ge 62, 3) := by decide +kernel
theorem dX3_leave_53 : decode cX3_leave 53 = .ok (.iload_n 3, 1) := by decide +kernel
theorem dX3_leave_54 : decode cX3_leave 54 = .ok (.iload 5, 2) := by decide +kernel
theorem dX3_leave_56 : decode cX3_leave 56 = .ok (.ishr, 1) := by decide +kernel
theorem dX3_leave_57 : decode cX3_leave 57 = .ok (.iconst 1, 1) := by decide +kernel
theorem dX3_leave_58 : decode cX3_leave 58 = .ok (.iand, 1) := by decide +kernel
theorem dX3_leave_59 : decode cX3_leave 59 = .ok (.ifCond .ne 47, 3) := by decide +kernel
theorem dX3_leave_62 : decode cX3_leave 62 = .ok (.aload_n 0, 1) := by decide +kernel
theorem dX3_leave_63 : decode cX3_leave 63 = .ok (.aload_n 0, 1) := by decide +kernel
theorem dX3_leave_64 : decode cX3_leave 64 = .ok (.getfield 29, 3) := by decide +kernel
theorem dX3_leave_67 : decode cX3_leave 67 = .ok (.aload_n 0, 1) := by decide +kernel
theorem dX3_leave_68 : decode cX3_leave 68 = .ok (.getfield 20, 3) := by decide +kernel
theorem dX3_leave_71 : decode cX3_leave 71 = .ok (.bipush 24, 2) := by decide +kernel
theorem dX3_leave_73 : decode cX3_leave 73 = .ok (.iload_n 2, 1) := by decide +kernel
theorem dX3_leave_74 : decode cX3_leave 74 = .ok (.imul, 1) := by decide +kernel
theorem dX3_leave_75 : decode cX3_leave 75 = .ok (.iconst 2, 1) := by decide +kernel
theorem dX3_leave_76 : decode cX3_leave 76 = .ok (.iload 5, 2) := by decide +kernel
theorem dX3_leave_78 : decode cX3_leave 78 = .ok (.imul, 1) := by decide +kernel
theorem dX3_leave_79 : decode cX3_leave 79 = .ok (.iadd, 1) := by decide +kernel
theorem dX3_leave_80 : decode cX3_leave 80 = .ok (.iaload, 1) := by decide +kernel
theorem dX3_leave_81 : decode cX3_leave 81 = .ok (.iaload, 1) := by decide +kernel
theorem dX3_leave_82 : decode cX3_leave 82 = .ok (.aload_n 0, 1) := by decide +kernel
theorem dX3_leave_83 : decode cX3_leave 83 = .ok (.getfield 29, 3) := by decide +kernel
theorem dX3_leave_86 : decode cX3_leave 86 = .ok (.aload_n 0, 1) := by decide +kernel
theorem dX3_leave_87 : decode cX3_leave 87 = .ok (.getfield 20, 3) := by decide +kernel
theorem dX3_leave_90 : decode cX3_leave 90 = .ok (.bipush 24, 2) := by decide +kernel
theorem dX3_leave_92 : decode cX3_leave 92 = .ok (.iload_n 2, 1) := by decide +kernel
theorem dX3_leave_93 : decode cX3_leave 93 = .ok (.imul, 1) := by decide +kernel
theorem dX3_leave_94 : decode cX3_leave 94 = .ok (.iconst 2, 1) := by decide +kernel
theorem dX3_leave_95 : decode cX3_leave 95 = .ok (.iload 5, 2) := by decide +kernel
theorem dX3_leave_97 : decode cX3_leave 97 = .ok (.imul, 1) := by decide +kernel
theorem dX3_leave_98 : decode cX3_leave 98 = .ok (.iadd, 1) := by decide +kernel
theorem dX3_leave_99 : decode cX3_leave 99 = .ok (.iconst 1, 1) := by decide +kernel
theorem dX3_leave_100 : decode cX3_leave 100 = .ok (.iadd, 1) := by decide +kernel
theorem dX3_leave_101 : decode cX3_leave 101 = .ok (.iaload, 1) := by decide +kernel
theorem dX3_leave_102 : decode cX3_leave 102 = .ok (.iaload, 1) := by decide +kernel
theorem dX3_leave_103 : decode cX3_leave 103 = .ok (.invokevirtual 65, 3) := by decide +kernel
theorem dX3_leave_106 : decode cX3_leave 106 = .ok (.iinc 5 1, 3) := by decide +kernel
theorem dX3_leave_109 : decode cX3_leave 109 = .ok (.goto (-67), 3) := by decide +kernel
theorem dX3_leave_112 : decode cX3_leave 112 = .ok (.aload_n 0, 1) := by decide +kernel
theorem dX3_leave_113 : decode cX3_leave 113 = .ok (.iload_n 1, 1) := by decide +kernel
theorem dX3_leave_114 : decode cX3_leave 114 = .ok (.aload_n 0, 1) := by decide +kernel
theorem dX3_leave_115 : decode cX3_leave 115 = .ok (.getfield 7, 3) := by decide +kernel
theorem dX3_leave_118 : decode cX3_leave 118 = .ok (.iload_n 2, 1) := by decide +kernel
theorem dX3_leave_119 : decode cX3_leave 119 = .ok (.iaload, 1) := by decide +kernel
theorem dX3_leave_120 : decode cX3_leave 120 = .ok (.invokevirtual 69, 3) := by decide +kernel
theorem dX3_leave_123 : decode cX3_leave 123 = .ok (.ireturn, 1) := by decide +kernel
abbrev wsX3_leave : List Cond := Cond.code yX3_leave cX3_leave 6 (some .int) :: lw_gd
theorem dX3_isSet_0 : decode cX3_isSet 0 = .ok (.iload_n 1, 1) := by decide +kernel
theorem dX3_isSet_1 : decode cX3_isSet 1 = .ok (.invokestatic 39, 3) := by decide +kernel
theorem dX3_isSet_4 : decode cX3_isSet 4 = .ok (.ifCond .eq 20, 3) := by decide +kernel
theorem dX3_isSet_7 : decode cX3_isSet 7 = .ok (.iload_n 2, 1) := by decide +kernel
theorem dX3_isSet_8 : decode cX3_isSet 8 = .ok (.ifCond .lt 16, 3) := by decide +kernel
theorem dX3_isSet_11 : decode cX3_isSet 11 = .ok (.iload_n 2, 1) := by decide +kernel
theorem dX3_isSet_12 : decode cX3_isSet 12 = .ok (.aload_n 0, 1) := by decide +kernel
theorem dX3_isSet_13 : decode cX3_isSet 13 = .ok (.iload_n 1, 1) := by decide +kernel
theorem dX3_isSet_14 : decode cX3_isSet 14 = .ok (.invokevirtual 43, 3) := by decide +kernel
theorem dX3_isSet_17 : decode cX3_isSet 17 = .ok (.if_icmp .gt 7, 3) := by decide +kernel
end
section
theorem dX3_isSet_20 : decode cX3_isSet 20 = .ok (.iconst 1, 1) := by decide +kernel
theorem dX3_isSet_21 : decode cX3_isSet 21 = .ok (.goto 4, 3) := by decide +kernel
theorem dX3_isSet_24 : decode cX3_isSet 24 = .ok (.iconst 0, 1) := by decide +kernel
theorem dX3_isSet_25 : decode cX3_isSet 25 = .ok (.ireturn, 1) := by decide +kernel
abbrev wsX3_isSet : List Cond := Cond.code yX3_isSet cX3_isSet 3 (some .boolean) :: lw_gd
theorem dX3_whole_0 : decode cX3_whole 0 = .ok (.iconst 1, 1) := by decide +kernel
theorem dX3_whole_1 : decode cX3_whole 1 = .ok (.aload_n 0, 1) := by decide +kernel
theorem dX3_whole_2 : decode cX3_whole 2 = .ok (.getfield 13, 3) := by decide +kernel
theorem dX3_whole_5 : decode cX3_whole 5 = .ok (.iload_n 1, 1) := by decide +kernel
theorem dX3_whole_6 : decode cX3_whole 6 = .ok (.iaload, 1) := by decide +kernel
theorem dX3_whole_7 : decode cX3_whole 7 = .ok (.ishl, 1) := by decide +kernel
theorem dX3_whole_8 : decode cX3_whole 8 = .ok (.iconst 1, 1) := by decide +kernel
theorem dX3_whole_9 : decode cX3_whole 9 = .ok (.isub, 1) := by decide +kernel
theorem dX3_whole_10 : decode cX3_whole 10 = .ok (.ireturn, 1) := by decide +kernel
abbrev wsX3_whole : List Cond := Cond.code yX3_whole cX3_whole 2 (some .int) :: lw_gd
theorem dX3_join_0 : decode cX3_join 0 = .ok (.iconst 0, 1) := by decide +kernel
theorem dX3_join_1 : decode cX3_join 1 = .ok (.istore_n 3, 1) := by decide +kernel
theorem dX3_join_2 : decode cX3_join 2 = .ok (.iload_n 3, 1) := by decide +kernel
theorem dX3_join_3 : decode cX3_join 3 = .ok (.bipush 32, 2) := by decide +kernel
theorem dX3_join_5 : decode cX3_join 5 = .ok (.if_icmp .ge 16, 3) := by decide +kernel
theorem dX3_join_8 : decode cX3_join 8 = .ok (.aload_n 0, 1) := by decide +kernel
theorem dX3_join_9 : decode cX3_join 9 = .ok (.getfield 29, 3) := by decide +kernel
theorem dX3_join_12 : decode cX3_join 12 = .ok (.iload_n 3, 1) := by decide +kernel
theorem dX3_join_13 : decode cX3_join 13 = .ok (.iload_n 3, 1) := by decide +kernel
theorem dX3_join_14 : decode cX3_join 14 = .ok (.iastore, 1) := by decide +kernel
theorem dX3_join_15 : decode cX3_join 15 = .ok (.iinc 3 1, 3) := by decide +kernel
theorem dX3_join_18 : decode cX3_join 18 = .ok (.goto (-16), 3) := by decide +kernel
theorem dX3_join_21 : decode cX3_join 21 = .ok (.iconst 0, 1) := by decide +kernel
theorem dX3_join_22 : decode cX3_join 22 = .ok (.istore_n 3, 1) := by decide +kernel
theorem dX3_join_23 : decode cX3_join 23 = .ok (.iconst 0, 1) := by decide +kernel
theorem dX3_join_24 : decode cX3_join 24 = .ok (.istore 4, 2) := by decide +kernel
theorem dX3_join_26 : decode cX3_join 26 = .ok (.iload 4, 2) := by decide +kernel
theorem dX3_join_28 : decode cX3_join 28 = .ok (.aload_n 0, 1) := by decide +kernel
theorem dX3_join_29 : decode cX3_join 29 = .ok (.getfield 13, 3) := by decide +kernel
theorem dX3_join_32 : decode cX3_join 32 = .ok (.iload_n 1, 1) := by decide +kernel
theorem dX3_join_33 : decode cX3_join 33 = .ok (.iaload, 1) := by decide +kernel
theorem dX3_join_34 : decode cX3_join 34 = .ok (.if_icmp .ge 120, 3) := by decide +kernel
theorem dX3_join_37 : decode cX3_join 37 = .ok (.aload_n 0, 1) := by decide +kernel
theorem dX3_join_38 : decode cX3_join 38 = .ok (.getfield 29, 3) := by decide +kernel
theorem dX3_join_41 : decode cX3_join 41 = .ok (.aload_n 0, 1) := by decide +kernel
theorem dX3_join_42 : decode cX3_join 42 = .ok (.getfield 20, 3) := by decide +kernel
theorem dX3_join_45 : decode cX3_join 45 = .ok (.bipush 24, 2) := by decide +kernel
theorem dX3_join_47 : decode cX3_join 47 = .ok (.iload_n 1, 1) := by decide +kernel
theorem dX3_join_48 : decode cX3_join 48 = .ok (.imul, 1) := by decide +kernel
theorem dX3_join_49 : decode cX3_join 49 = .ok (.iconst 2, 1) := by decide +kernel
theorem dX3_join_50 : decode cX3_join 50 = .ok (.iload 4, 2) := by decide +kernel
theorem dX3_join_52 : decode cX3_join 52 = .ok (.imul, 1) := by decide +kernel
theorem dX3_join_53 : decode cX3_join 53 = .ok (.iadd, 1) := by decide +kernel
theorem dX3_join_54 : decode cX3_join 54 = .ok (.iaload, 1) := by decide +kernel
theorem dX3_join_55 : decode cX3_join 55 = .ok (.iaload, 1) := by decide +kernel
theorem dX3_join_56 : decode cX3_join 56 = .ok (.istore 5, 2) := by decide +kernel
theorem dX3_join_58 : decode cX3_join 58 = .ok (.aload_n 0, 1) := by decide +kernel
theorem dX3_join_59 : decode cX3_join 59 = .ok (.getfield 29, 3) := by decide +kernel
theorem dX3_join_62 : decode cX3_join 62 = .ok (.aload_n 0, 1) := by decide +kernel
theorem dX3_join_63 : decode cX3_join 63 = .ok (.getfield 20, 3) := by decide +kernel
theorem dX3_join_66 : decode cX3_join 66 = .ok (.bipush 24, 2) := by decide +kernel
theorem dX3_join_68 : decode cX3_join 68 = .ok (.iload_n 1, 1) := by decide +kernel
theorem dX3_join_69 : decode cX3_join 69 = .ok (.imul, 1) := by decide +kernel
theorem dX3_join_70 : decode cX3_join 70 = .ok (.iconst 2, 1) := by decide +kernel
theorem dX3_join_71 : decode cX3_join 71 = .ok (.iload 4, 2) := by decide +kernel
theorem dX3_join_73 : decode cX3_join 73 = .ok (.imul, 1) := by decide +kernel
theorem dX3_join_74 : decode cX3_join 74 = .ok (.iadd, 1) := by decide +kernel
theorem dX3_join_75 : decode cX3_join 75 = .ok (.iconst 1, 1) := by decide +kernel
theorem dX3_join_76 : decode cX3_join 76 = .ok (.iadd, 1) := by decide +kernel
theorem dX3_join_77 : decode cX3_join 77 = .ok (.iaload, 1) := by decide +kernel
theorem dX3_join_78 : decode cX3_join 78 = .ok (.iaload, 1) := by decide +kernel
theorem dX3_join_79 : decode cX3_join 79 = .ok (.istore 6, 2) := by decide +kernel
theorem dX3_join_81 : decode cX3_join 81 = .ok (.iload_n 2, 1) := by decide +kernel
theorem dX3_join_82 : decode cX3_join 82 = .ok (.iload 4, 2) := by decide +kernel
theorem dX3_join_84 : decode cX3_join 84 = .ok (.ishr, 1) := by decide +kernel
theorem dX3_join_85 : decode cX3_join 85 = .ok (.iconst 1, 1) := by decide +kernel
theorem dX3_join_86 : decode cX3_join 86 = .ok (.iand, 1) := by decide +kernel
theorem dX3_join_87 : decode cX3_join 87 = .ok (.iconst 1, 1) := by decide +kernel
theorem dX3_join_88 : decode cX3_join 88 = .ok (.if_icmp .ne 60, 3) := by decide +kernel
theorem dX3_join_91 : decode cX3_join 91 = .ok (.iload 5, 2) := by decide +kernel
theorem dX3_join_93 : decode cX3_join 93 = .ok (.iload 6, 2) := by decide +kernel
theorem dX3_join_95 : decode cX3_join 95 = .ok (.if_icmp .eq 53, 3) := by decide +kernel
theorem dX3_join_98 : decode cX3_join 98 = .ok (.iinc 3 1, 3) := by decide +kernel
theorem dX3_join_101 : decode cX3_join 101 = .ok (.iconst 0, 1) := by decide +kernel
theorem dX3_join_102 : decode cX3_join 102 = .ok (.istore 7, 2) := by decide +kernel
theorem dX3_join_104 : decode cX3_join 104 = .ok (.iload 7, 2) := by decide +kernel
theorem dX3_join_106 : decode cX3_join 106 = .ok (.bipush 32, 2) := by decide +kernel
theorem dX3_join_108 : decode cX3_join 108 = .ok (.if_icmp .ge 40, 3) := by decide +kernel
theorem dX3_join_111 : decode cX3_join 111 = .ok (.aload_n 0, 1) := by decide +kernel
theorem dX3_join_112 : decode cX3_join 112 = .ok (.getfield 29, 3) := by decide +kernel
theorem dX3_join_115 : decode cX3_join 115 = .ok (.iload 7, 2) := by decide +kernel
theorem dX3_join_117 : decode cX3_join 117 = .ok (.aload_n 0, 1) := by decide +kernel
theorem dX3_join_118 : decode cX3_join 118 = .ok (.getfield 29, 3) := by decide +kernel
theorem dX3_join_121 : decode cX3_join 121 = .ok (.iload 7, 2) := by decide +kernel
theorem dX3_join_123 : decode cX3_join 123 = .ok (.iaload, 1) := by decide +kernel
theorem dX3_join_124 : decode cX3_join 124 = .ok (.iload 6, 2) := by decide +kernel
theorem dX3_join_126 : decode cX3_join 126 = .ok (.if_icmp .ne 8, 3) := by decide +kernel
theorem dX3_join_129 : decode cX3_join 129 = .ok (.iload 5, 2) := by decide +kernel
theorem dX3_join_131 : decode cX3_join 131 = .ok (.goto 10, 3) := by decide +kernel
theorem dX3_join_134 : decode cX3_join 134 = .ok (.aload_n 0, 1) := by decide +kernel
theorem dX3_join_135 : decode cX3_join 135 = .ok (.getfield 29, 3) := by decide +kernel
theorem dX3_join_138 : decode cX3_join 138 = .ok (.iload 7, 2) := by decide +kernel
theorem dX3_join_140 : decode cX3_join 140 = .ok (.iaload, 1) := by decide +kernel
theorem dX3_join_141 : decode cX3_join 141 = .ok (.iastore, 1) := by decide +kernel
theorem dX3_join_142 : decode cX3_join 142 = .ok (.iinc 7 1, 3) := by decide +kernel
theorem dX3_join_145 : decode cX3_join 145 = .ok (.goto (-41), 3) := by decide +kernel
theorem dX3_join_148 : decode cX3_join 148 = .ok (.iinc 4 1, 3) := by decide +kernel
theorem dX3_join_151 : decode cX3_join 151 = .ok (.goto (-125), 3) := by decide +kernel
theorem dX3_join_154 : decode cX3_join 154 = .ok (.iload_n 3, 1) := by decide +kernel
theorem dX3_join_155 : decode cX3_join 155 = .ok (.ireturn, 1) := by decide +kernel
abbrev wsX3_join : List Cond := Cond.code yX3_join cX3_join 8 (some .int) :: lw_gd
theorem dX3_lay_0 : decode cX3_lay 0 = .ok (.aload_n 0, 1) := by decide +kernel
theorem dX3_lay_1 : decode cX3_lay 1 = .ok (.getfield 26, 3) := by decide +kernel
theorem dX3_lay_4 : decode cX3_lay 4 = .ok (.iconst 2, 1) := by decide +kernel
theorem dX3_lay_5 : decode cX3_lay 5 = .ok (.aload_n 0, 1) := by decide +kernel
theorem dX3_lay_6 : decode cX3_lay 6 = .ok (.getfield 54, 3) := by decide +kernel
theorem dX3_lay_9 : decode cX3_lay 9 = .ok (.imul, 1) := by decide +kernel
theorem dX3_lay_10 : decode cX3_lay 10 = .ok (.iload_n 1, 1) := by decide +kernel
theorem dX3_lay_11 : decode cX3_lay 11 = .ok (.iastore, 1) := by decide +kernel
theorem dX3_lay_12 : decode cX3_lay 12 = .ok (.aload_n 0, 1) := by decide +kernel
theorem dX3_lay_13 : decode cX3_lay 13 = .ok (.getfield 26, 3) := by decide +kernel
theorem dX3_lay_16 : decode cX3_lay 16 = .ok (.iconst 2, 1) := by decide +kernel
theorem dX3_lay_17 : decode cX3_lay 17 = .ok (.aload_n 0, 1) := by decide +kernel
theorem dX3_lay_18 : decode cX3_lay 18 = .ok (.getfield 54, 3) := by decide +kernel
theorem dX3_lay_21 : decode cX3_lay 21 = .ok (.imul, 1) := by decide +kernel
theorem dX3_lay_22 : decode cX3_lay 22 = .ok (.iconst 1, 1) := by decide +kernel
theorem dX3_lay_23 : decode cX3_lay 23 = .ok (.iadd, 1) := by decide +kernel
theorem dX3_lay_24 : decode cX3_lay 24 = .ok (.iload_n 2, 1) := by decide +kernel
theorem dX3_lay_25 : decode cX3_lay 25 = .ok (.iastore, 1) := by decide +kernel
theorem dX3_lay_26 : decode cX3_lay 26 = .ok (.aload_n 0, 1) := by decide +kernel
theorem dX3_lay_27 : decode cX3_lay 27 = .ok (.dup, 1) := by decide +kernel
theorem dX3_lay_28 : decode cX3_lay 28 = .ok (.getfield 54, 3) := by decide +kernel
theorem dX3_lay_31 : decode cX3_lay 31 = .ok (.iconst 1, 1) := by decide +kernel
theorem dX3_lay_32 : decode cX3_lay 32 = .ok (.iadd, 1) := by decide +kernel
theorem dX3_lay_33 : decode cX3_lay 33 = .ok (.putfield 54, 3) := by decide +kernel
theorem dX3_lay_36 : decode cX3_lay 36 = .ok (.return_, 1) := by decide +kernel
abbrev wsX3_lay : List Cond := Cond.code yX3_lay cX3_lay 3 none :: lw_gd
theorem dX3_keep_0 : decode cX3_keep 0 = .ok (.aload_n 0, 1) := by decide +kernel
theorem dX3_keep_1 : decode cX3_keep 1 = .ok (.getfield 7, 3) := by decide +kernel
theorem dX3_keep_4 : decode cX3_keep 4 = .ok (.iload_n 1, 1) := by decide +kernel
theorem dX3_keep_5 : decode cX3_keep 5 = .ok (.iload_n 2, 1) := by decide +kernel
theorem dX3_keep_6 : decode cX3_keep 6 = .ok (.iastore, 1) := by decide +kernel
theorem dX3_keep_7 : decode cX3_keep 7 = .ok (.aload_n 0, 1) := by decide +kernel
theorem dX3_keep_8 : decode cX3_keep 8 = .ok (.getfield 16, 3) := by decide +kernel
theorem dX3_keep_11 : decode cX3_keep 11 = .ok (.iload_n 1, 1) := by decide +kernel
theorem dX3_keep_12 : decode cX3_keep 12 = .ok (.iconst 0, 1) := by decide +kernel
theorem dX3_keep_13 : decode cX3_keep 13 = .ok (.bastore, 1) := by decide +kernel
theorem dX3_keep_14 : decode cX3_keep 14 = .ok (.aload_n 0, 1) := by decide +kernel
theorem dX3_keep_15 : decode cX3_keep 15 = .ok (.getfield 13, 3) := by decide +kernel
theorem dX3_keep_18 : decode cX3_keep 18 = .ok (.iload_n 1, 1) := by decide +kernel
theorem dX3_keep_19 : decode cX3_keep 19 = .ok (.aload_n 0, 1) := by decide +kernel
theorem dX3_keep_20 : decode cX3_keep 20 = .ok (.getfield 54, 3) := by decide +kernel
theorem dX3_keep_23 : decode cX3_keep 23 = .ok (.iastore, 1) := by decide +kernel
theorem dX3_keep_24 : decode cX3_keep 24 = .ok (.iconst 0, 1) := by decide +kernel
theorem dX3_keep_25 : decode cX3_keep 25 = .ok (.istore_n 3, 1) := by decide +kernel
theorem dX3_keep_26 : decode cX3_keep 26 = .ok (.iload_n 3, 1) := by decide +kernel
theorem dX3_keep_27 : decode cX3_keep 27 = .ok (.aload_n 0, 1) := by decide +kernel
theorem dX3_keep_28 : decode cX3_keep 28 = .ok (.getfield 54, 3) := by decide +kernel
theorem dX3_keep_31 : decode cX3_keep 31 = .ok (.if_icmp .ge 67, 3) := by decide +kernel
theorem dX3_keep_34 : decode cX3_keep 34 = .ok (.aload_n 0, 1) := by decide +kernel
theorem dX3_keep_35 : decode cX3_keep 35 = .ok (.getfield 20, 3) := by decide +kernel
theorem dX3_keep_38 : decode cX3_keep 38 = .ok (.bipush 24, 2) := by decide +kernel
theorem dX3_keep_40 : decode cX3_keep 40 = .ok (.iload_n 1, 1) := by decide +kernel
theorem dX3_keep_41 : decode cX3_keep 41 = .ok (.imul, 1) := by decide +kernel
theorem dX3_keep_42 : decode cX3_keep 42 = .ok (.iconst 2, 1) := by decide +kernel
theorem dX3_keep_43 : decode cX3_keep 43 = .ok (.iload_n 3, 1) := by decide +kernel
theorem dX3_keep_44 : decode cX3_keep 44 = .ok (.imul, 1) := by decide +kernel
theorem dX3_keep_45 : decode cX3_keep 45 = .ok (.iadd, 1) := by decide +kernel
theorem dX3_keep_46 : decode cX3_keep 46 = .ok (.aload_n 0, 1) := by decide +kernel
theorem dX3_keep_47 : decode cX3_keep 47 = .ok (.getfield 26, 3) := by decide +kernel
theorem dX3_keep_50 : decode cX3_keep 50 = .ok (.iconst 2, 1) := by decide +kernel
theorem dX3_keep_51 : decode cX3_keep 51 = .ok (.iload_n 3, 1) := by decide +kernel
theorem dX3_keep_52 : decode cX3_keep 52 = .ok (.imul, 1) := by decide +kernel
theorem dX3_keep_53 : decode cX3_keep 53 = .ok (.iaload, 1) := by decide +kernel
theorem dX3_keep_54 : decode cX3_keep 54 = .ok (.iastore, 1) := by decide +kernel
theorem dX3_keep_55 : decode cX3_keep 55 = .ok (.aload_n 0, 1) := by decide +kernel
theorem dX3_keep_56 : decode cX3_keep 56 = .ok (.getfield 20, 3) := by decide +kernel
theorem dX3_keep_59 : decode cX3_keep 59 = .ok (.bipush 24, 2) := by decide +kernel
theorem dX3_keep_61 : decode cX3_keep 61 = .ok (.iload_n 1, 1) := by decide +kernel
theorem dX3_keep_62 : decode cX3_keep 62 = .ok (.imul, 1) := by decide +kernel
theorem dX3_keep_63 : decode cX3_keep 63 = .ok (.iconst 2, 1) := by decide +kernel
theorem dX3_keep_64 : decode cX3_keep 64 = .ok (.iload_n 3, 1) := by decide +kernel
theorem dX3_keep_65 : decode cX3_keep 65 = .ok (.imul, 1) := by decide +kernel
theorem dX3_keep_66 : decode cX3_keep 66 = .ok (.iadd, 1) := by decide +kernel
theorem dX3_keep_67 : decode cX3_keep 67 = .ok (.iconst 1, 1) := by decide +kernel
theorem dX3_keep_68 : decode cX3_keep 68 = .ok (.iadd, 1) := by decide +kernel
theorem dX3_keep_69 : decode cX3_keep 69 = .ok (.aload_n 0, 1) := by decide +kernel
theorem dX3_keep_70 : decode cX3_keep 70 = .ok (.getfield 26, 3) := by decide +kernel
theorem dX3_keep_73 : decode cX3_keep 73 = .ok (.iconst 2, 1) := by decide +kernel
theorem dX3_keep_74 : decode cX3_keep 74 = .ok (.iload_n 3, 1) := by decide +kernel
theorem dX3_keep_75 : decode cX3_keep 75 = .ok (.imul, 1) := by decide +kernel
theorem dX3_keep_76 : decode cX3_keep 76 = .ok (.iconst 1, 1) := by decide +kernel
theorem dX3_keep_77 : decode cX3_keep 77 = .ok (.iadd, 1) := by decide +kernel
theorem dX3_keep_78 : decode cX3_keep 78 = .ok (.iaload, 1) := by decide +kernel
theorem dX3_keep_79 : decode cX3_keep 79 = .ok (.iastore, 1) := by decide +kernel
theorem dX3_keep_80 : decode cX3_keep 80 = .ok (.aload_n 0, 1) := by decide +kernel
theorem dX3_keep_81 : decode cX3_keep 81 = .ok (.getfield 23, 3) := by decide +kernel
theorem dX3_keep_84 : decode cX3_keep 84 = .ok (.bipush 12, 2) := by decide +kernel
theorem dX3_keep_86 : decode cX3_keep 86 = .ok (.iload_n 1, 1) := by decide +kernel
theorem dX3_keep_87 : decode cX3_keep 87 = .ok (.imul, 1) := by decide +kernel
theorem dX3_keep_88 : decode cX3_keep 88 = .ok (.iload_n 3, 1) := by decide +kernel
theorem dX3_keep_89 : decode cX3_keep 89 = .ok (.iadd, 1) := by decide +kernel
theorem dX3_keep_90 : decode cX3_keep 90 = .ok (.iconst 0, 1) := by decide +kernel
theorem dX3_keep_91 : decode cX3_keep 91 = .ok (.iastore, 1) := by decide +kernel
theorem dX3_keep_92 : decode cX3_keep 92 = .ok (.iinc 3 1, 3) := by decide +kernel
theorem dX3_keep_95 : decode cX3_keep 95 = .ok (.goto (-69), 3) := by decide +kernel
theorem dX3_keep_98 : decode cX3_keep 98 = .ok (.aload_n 0, 1) := by decide +kernel
theorem dX3_keep_99 : decode cX3_keep 99 = .ok (.getfield 54, 3) := by decide +kernel
theorem dX3_keep_102 : decode cX3_keep 102 = .ok (.ireturn, 1) := by decide +kernel
abbrev wsX3_keep : List Cond := Cond.code yX3_keep cX3_keep 4 (some .int) :: lw_gd
theorem dX3_beside_0 : decode cX3_beside 0 = .ok (.iload_n 1, 1) := by decide +kernel
theorem dX3_beside_1 : decode cX3_beside 1 = .ok (.invokestatic 39, 3) := by decide +kernel
theorem dX3_beside_4 : decode cX3_beside 4 = .ok (.ifCond .eq 35, 3) := by decide +kernel
theorem dX3_beside_7 : decode cX3_beside 7 = .ok (.iload_n 2, 1) := by decide +kernel
theorem dX3_beside_8 : decode cX3_beside 8 = .ok (.invokestatic 39, 3) := by decide +kernel
theorem dX3_beside_11 : decode cX3_beside 11 = .ok (.ifCond .eq 28, 3) := by decide +kernel
theorem dX3_beside_14 : decode cX3_beside 14 = .ok (.iload_n 3, 1) := by decide +kernel
theorem dX3_beside_15 : decode cX3_beside 15 = .ok (.invokestatic 39, 3) := by decide +kernel
theorem dX3_beside_18 : decode cX3_beside 18 = .ok (.ifCond .eq 21, 3) := by decide +kernel
theorem dX3_beside_21 : decode cX3_beside 21 = .ok (.aload_n 0, 1) := by decide +kernel
theorem dX3_beside_22 : decode cX3_beside 22 = .ok (.getfield 13, 3) := by decide +kernel
theorem dX3_beside_25 : decode cX3_beside 25 = .ok (.iload_n 2, 1) := by decide +kernel
theorem dX3_beside_26 : decode cX3_beside 26 = .ok (.iaload, 1) := by decide +kernel
theorem dX3_beside_27 : decode cX3_beside 27 = .ok (.aload_n 0, 1) := by decide +kernel
theorem dX3_beside_28 : decode cX3_beside 28 = .ok (.getfield 13, 3) := by decide +kernel
theorem dX3_beside_31 : decode cX3_beside 31 = .ok (.iload_n 3, 1) := by decide +kernel
theorem dX3_beside_32 : decode cX3_beside 32 = .ok (.iaload, 1) := by decide +kernel
theorem dX3_beside_33 : decode cX3_beside 33 = .ok (.iadd, 1) := by decide +kernel
theorem dX3_beside_34 : decode cX3_beside 34 = .ok (.bipush 12, 2) := by decide +kernel
theorem dX3_beside_36 : decode cX3_beside 36 = .ok (.if_icmp .le 5, 3) := by decide +kernel
theorem dX3_beside_39 : decode cX3_beside 39 = .ok (.iconst (-1), 1) := by decide +kernel
theorem dX3_beside_40 : decode cX3_beside 40 = .ok (.ireturn, 1) := by decide +kernel
theorem dX3_beside_41 : decode cX3_beside 41 = .ok (.aload_n 0, 1) := by decide +kernel
theorem dX3_beside_42 : decode cX3_beside 42 = .ok (.iconst 0, 1) := by decide +kernel
theorem dX3_beside_43 : decode cX3_beside 43 = .ok (.putfield 54, 3) := by decide +kernel
theorem dX3_beside_46 : decode cX3_beside 46 = .ok (.aload_n 0, 1) := by decide +kernel
theorem dX3_beside_47 : decode cX3_beside 47 = .ok (.iload_n 2, 1) := by decide +kernel
theorem dX3_beside_48 : decode cX3_beside 48 = .ok (.iconst 0, 1) := by decide +kernel
theorem dX3_beside_49 : decode cX3_beside 49 = .ok (.invokevirtual 72, 3) := by decide +kernel
theorem dX3_beside_52 : decode cX3_beside 52 = .ok (.istore 4, 2) := by decide +kernel
theorem dX3_beside_54 : decode cX3_beside 54 = .ok (.aload_n 0, 1) := by decide +kernel
theorem dX3_beside_55 : decode cX3_beside 55 = .ok (.iload_n 3, 1) := by decide +kernel
theorem dX3_beside_56 : decode cX3_beside 56 = .ok (.iload 4, 2) := by decide +kernel
theorem dX3_beside_58 : decode cX3_beside 58 = .ok (.invokevirtual 72, 3) := by decide +kernel
theorem dX3_beside_61 : decode cX3_beside 61 = .ok (.istore 4, 2) := by decide +kernel
theorem dX3_beside_63 : decode cX3_beside 63 = .ok (.aload_n 0, 1) := by decide +kernel
theorem dX3_beside_64 : decode cX3_beside 64 = .ok (.iload_n 1, 1) := by decide +kernel
theorem dX3_beside_65 : decode cX3_beside 65 = .ok (.iload 4, 2) := by decide +kernel
theorem dX3_beside_67 : decode cX3_beside 67 = .ok (.invokevirtual 69, 3) := by decide +kernel
theorem dX3_beside_70 : decode cX3_beside 70 = .ok (.ireturn, 1) := by decide +kernel
abbrev wsX3_beside : List Cond := Cond.code yX3_beside cX3_beside 5 (some .int) :: lw_gd
theorem dX3_number_0 : decode cX3_number 0 = .ok (.iload_n 2, 1) := by decide +kernel
theorem dX3_number_1 : decode cX3_number 1 = .ok (.istore_n 3, 1) := by decide +kernel
theorem dX3_number_2 : decode cX3_number 2 = .ok (.iconst 0, 1) := by decide +kernel
theorem dX3_number_3 : decode cX3_number 3 = .ok (.istore 4, 2) := by decide +kernel
theorem dX3_number_5 : decode cX3_number 5 = .ok (.iload 4, 2) := by decide +kernel
theorem dX3_number_7 : decode cX3_number 7 = .ok (.iconst 2, 1) := by decide +kernel
theorem dX3_number_8 : decode cX3_number 8 = .ok (.aload_n 0, 1) := by decide +kernel
theorem dX3_number_9 : decode cX3_number 9 = .ok (.getfield 13, 3) := by decide +kernel
theorem dX3_number_12 : decode cX3_number 12 = .ok (.iload_n 1, 1) := by decide +kernel
theorem dX3_number_13 : decode cX3_number 13 = .ok (.iaload, 1) := by decide +kernel
theorem dX3_number_14 : decode cX3_number 14 = .ok (.imul, 1) := by decide +kernel
theorem dX3_number_15 : decode cX3_number 15 = .ok (.if_icmp .ge 85, 3) := by decide +kernel
theorem dX3_number_18 : decode cX3_number 18 = .ok (.iconst 0, 1) := by decide +kernel
theorem dX3_number_19 : decode cX3_number 19 = .ok (.istore 5, 2) := by decide +kernel
theorem dX3_number_21 : decode cX3_number 21 = .ok (.aload_n 0, 1) := by decide +kernel
theorem dX3_number_22 : decode cX3_number 22 = .ok (.getfield 20, 3) := by decide +kernel
theorem dX3_number_25 : decode cX3_number 25 = .ok (.bipush 24, 2) := by decide +kernel
theorem dX3_number_27 : decode cX3_number 27 = .ok (.iload_n 1, 1) := by decide +kernel
theorem dX3_number_28 : decode cX3_number 28 = .ok (.imul, 1) := by decide +kernel
theorem dX3_number_29 : decode cX3_number 29 = .ok (.iload 5, 2) := by decide +kernel
theorem dX3_number_31 : decode cX3_number 31 = .ok (.iadd, 1) := by decide +kernel
theorem dX3_number_32 : decode cX3_number 32 = .ok (.iaload, 1) := by decide +kernel
theorem dX3_number_33 : decode cX3_number 33 = .ok (.aload_n 0, 1) := by decide +kernel
theorem dX3_number_34 : decode cX3_number 34 = .ok (.getfield 20, 3) := by decide +kernel
theorem dX3_number_37 : decode cX3_number 37 = .ok (.bipush 24, 2) := by decide +kernel
theorem dX3_number_39 : decode cX3_number 39 = .ok (.iload_n 1, 1) := by decide +kernel
theorem dX3_number_40 : decode cX3_number 40 = .ok (.imul, 1) := by decide +kernel
theorem dX3_number_41 : decode cX3_number 41 = .ok (.iload 4, 2) := by decide +kernel
theorem dX3_number_43 : decode cX3_number 43 = .ok (.iadd, 1) := by decide +kernel
theorem dX3_number_44 : decode cX3_number 44 = .ok (.iaload, 1) := by decide +kernel
theorem dX3_number_45 : decode cX3_number 45 = .ok (.if_icmp .eq 9, 3) := by decide +kernel
theorem dX3_number_48 : decode cX3_number 48 = .ok (.iinc 5 1, 3) := by decide +kernel
theorem dX3_number_51 : decode cX3_number 51 = .ok (.goto (-30), 3) := by decide +kernel
theorem dX3_number_54 : decode cX3_number 54 = .ok (.aload_n 0, 1) := by decide +kernel
theorem dX3_number_55 : decode cX3_number 55 = .ok (.getfield 29, 3) := by decide +kernel
theorem dX3_number_58 : decode cX3_number 58 = .ok (.iload 4, 2) := by decide +kernel
theorem dX3_number_60 : decode cX3_number 60 = .ok (.iload 5, 2) := by decide +kernel
theorem dX3_number_62 : decode cX3_number 62 = .ok (.iload 4, 2) := by decide +kernel
theorem dX3_number_64 : decode cX3_number 64 = .ok (.if_icmp .ne 7, 3) := by decide +kernel
theorem dX3_number_67 : decode cX3_number 67 = .ok (.iload_n 3, 1) := by decide +kernel
theorem dX3_number_68 : decode cX3_number 68 = .ok (.goto 10, 3) := by decide +kernel
theorem dX3_number_71 : decode cX3_number 71 = .ok (.aload_n 0, 1) := by decide +kernel
theorem dX3_number_72 : decode cX3_number 72 = .ok (.getfield 29, 3) := by decide +kernel
theorem dX3_number_75 : decode cX3_number 75 = .ok (.iload 5, 2) := by decide +kernel
theorem dX3_number_77 : decode cX3_number 77 = .ok (.iaload, 1) := by decide +kernel
theorem dX3_number_78 : decode cX3_number 78 = .ok (.iastore, 1) := by decide +kernel
theorem dX3_number_79 : decode cX3_number 79 = .ok (.iload 5, 2) := by decide +kernel
theorem dX3_number_81 : decode cX3_number 81 = .ok (.iload 4, 2) := by decide +kernel
theorem dX3_number_83 : decode cX3_number 83 = .ok (.if_icmp .ne 9, 3) := by decide +kernel
theorem dX3_number_86 : decode cX3_number 86 = .ok (.iload_n 3, 1) := by decide +kernel
theorem dX3_number_87 : decode cX3_number 87 = .ok (.iconst 1, 1) := by decide +kernel
theorem dX3_number_88 : decode cX3_number 88 = .ok (.iadd, 1) := by decide +kernel
theorem dX3_number_89 : decode cX3_number 89 = .ok (.goto 4, 3) := by decide +kernel
theorem dX3_number_92 : decode cX3_number 92 = .ok (.iload_n 3, 1) := by decide +kernel
theorem dX3_number_93 : decode cX3_number 93 = .ok (.istore_n 3, 1) := by decide +kernel
theorem dX3_number_94 : decode cX3_number 94 = .ok (.iinc 4 1, 3) := by decide +kernel
theorem dX3_number_97 : decode cX3_number 97 = .ok (.goto (-92), 3) := by decide +kernel
theorem dX3_number_100 : decode cX3_number 100 = .ok (.iconst 0, 1) := by decide +kernel
theorem dX3_number_101 : decode cX3_number 101 = .ok (.istore 4, 2) := by decide +kernel
theorem dX3_number_103 : decode cX3_number 103 = .ok (.iload 4, 2) := by decide +kernel
theorem dX3_number_105 : decode cX3_number 105 = .ok (.aload_n 0, 1) := by decide +kernel
theorem dX3_number_106 : decode cX3_number 106 = .ok (.getfield 13, 3) := by decide +kernel
theorem dX3_number_109 : decode cX3_number 109 = .ok (.iload_n 1, 1) := by decide +kernel
theorem dX3_number_110 : decode cX3_number 110 = .ok (.iaload, 1) := by decide +kernel
theorem dX3_number_111 : decode cX3_number 111 = .ok (.if_icmp .ge 33, 3) := by decide +kernel
theorem dX3_number_114 : decode cX3_number 114 = .ok (.aload_n 0, 1) := by decide +kernel
theorem dX3_number_115 : decode cX3_number 115 = .ok (.aload_n 0, 1) := by decide +kernel
theorem dX3_number_116 : decode cX3_number 116 = .ok (.getfield 29, 3) := by decide +kernel
theorem dX3_number_119 : decode cX3_number 119 = .ok (.iconst 2, 1) := by decide +kernel
theorem dX3_number_120 : decode cX3_number 120 = .ok (.iload 4, 2) := by decide +kernel
theorem dX3_number_122 : decode cX3_number 122 = .ok (.imul, 1) := by decide +kernel
theorem dX3_number_123 : decode cX3_number 123 = .ok (.iaload, 1) := by decide +kernel
theorem dX3_number_124 : decode cX3_number 124 = .ok (.aload_n 0, 1) := by decide +kernel
theorem dX3_number_125 : decode cX3_number 125 = .ok (.getfield 29, 3) := by decide +kernel
theorem dX3_number_128 : decode cX3_number 128 = .ok (.iconst 2, 1) := by decide +kernel
theorem dX3_number_129 : decode cX3_number 129 = .ok (.iload 4, 2) := by decide +kernel
theorem dX3_number_131 : decode cX3_number 131 = .ok (.imul, 1) := by decide +kernel
theorem dX3_number_132 : decode cX3_number 132 = .ok (.iconst 1, 1) := by decide +kernel
theorem dX3_number_133 : decode cX3_number 133 = .ok (.iadd, 1) := by decide +kernel
theorem dX3_number_134 : decode cX3_number 134 = .ok (.iaload, 1) := by decide +kernel
theorem dX3_number_135 : decode cX3_number 135 = .ok (.invokevirtual 65, 3) := by decide +kernel
theorem dX3_number_138 : decode cX3_number 138 = .ok (.iinc 4 1, 3) := by decide +kernel
theorem dX3_number_141 : decode cX3_number 141 = .ok (.goto (-38), 3) := by decide +kernel
theorem dX3_number_144 : decode cX3_number 144 = .ok (.iload_n 3, 1) := by decide +kernel
theorem dX3_number_145 : decode cX3_number 145 = .ok (.ireturn, 1) := by decide +kernel
abbrev wsX3_number : List Cond := Cond.code yX3_number cX3_number 6 (some .int) :: lw_gd
theorem dX3_edges_0 : decode cX3_edges 0 = .ok (.iload_n 1, 1) := by decide +kernel
theorem dX3_edges_1 : decode cX3_edges 1 = .ok (.invokestatic 39, 3) := by decide +kernel
theorem dX3_edges_4 : decode cX3_edges 4 = .ok (.ifCond .eq 12, 3) := by decide +kernel
theorem dX3_edges_7 : decode cX3_edges 7 = .ok (.aload_n 0, 1) := by decide +kernel
theorem dX3_edges_8 : decode cX3_edges 8 = .ok (.getfield 13, 3) := by decide +kernel
theorem dX3_edges_11 : decode cX3_edges 11 = .ok (.iload_n 1, 1) := by decide +kernel
theorem dX3_edges_12 : decode cX3_edges 12 = .ok (.iaload, 1) := by decide +kernel
theorem dX3_edges_13 : decode cX3_edges 13 = .ok (.goto 4, 3) := by decide +kernel
theorem dX3_edges_16 : decode cX3_edges 16 = .ok (.iconst (-1), 1) := by decide +kernel
theorem dX3_edges_17 : decode cX3_edges 17 = .ok (.ireturn, 1) := by decide +kernel
abbrev wsX3_edges : List Cond := Cond.code yX3_edges cX3_edges 2 (some .int) :: lw_gd
theorem dX3_weight_0 : decode cX3_weight 0 = .ok (.aload_n 0, 1) := by decide +kernel
theorem dX3_weight_1 : decode cX3_weight 1 = .ok (.iload_n 1, 1) := by decide +kernel
theorem dX3_weight_2 : decode cX3_weight 2 = .ok (.iload_n 2, 1) := by decide +kernel
theorem dX3_weight_3 : decode cX3_weight 3 = .ok (.invokevirtual 50, 3) := by decide +kernel
theorem dX3_weight_6 : decode cX3_weight 6 = .ok (.ifCond .eq 17, 3) := by decide +kernel
theorem dX3_weight_9 : decode cX3_weight 9 = .ok (.aload_n 0, 1) := by decide +kernel
theorem dX3_weight_10 : decode cX3_weight 10 = .ok (.getfield 23, 3) := by decide +kernel
theorem dX3_weight_13 : decode cX3_weight 13 = .ok (.bipush 12, 2) := by decide +kernel
theorem dX3_weight_15 : decode cX3_weight 15 = .ok (.iload_n 1, 1) := by decide +kernel
theorem dX3_weight_16 : decode cX3_weight 16 = .ok (.imul, 1) := by decide +kernel
theorem dX3_weight_17 : decode cX3_weight 17 = .ok (.iload_n 2, 1) := by decide +kernel
theorem dX3_weight_18 : decode cX3_weight 18 = .ok (.iadd, 1) := by decide +kernel
theorem dX3_weight_19 : decode cX3_weight 19 = .ok (.iaload, 1) := by decide +kernel
theorem dX3_weight_20 : decode cX3_weight 20 = .ok (.goto 4, 3) := by decide +kernel
theorem dX3_weight_23 : decode cX3_weight 23 = .ok (.iconst 0, 1) := by decide +kernel
theorem dX3_weight_24 : decode cX3_weight 24 = .ok (.ireturn, 1) := by decide +kernel
abbrev wsX3_weight : List Cond := Cond.code yX3_weight cX3_weight 3 (some .int) :: lw_gd
theorem dX3_rank_0 : decode cX3_rank 0 = .ok (.aload_n 0, 1) := by decide +kernel
theorem dX3_rank_1 : decode cX3_rank 1 = .ok (.iload_n 1, 1) := by decide +kernel
theorem dX3_rank_2 : decode cX3_rank 2 = .ok (.iload_n 2, 1) := by decide +kernel
theorem dX3_rank_3 : decode cX3_rank 3 = .ok (.invokevirtual 58, 3) := by decide +kernel
theorem dX3_rank_6 : decode cX3_rank 6 = .ok (.ifCond .eq 12, 3) := by decide +kernel
theorem dX3_rank_9 : decode cX3_rank 9 = .ok (.aload_n 0, 1) := by decide +kernel
theorem dX3_rank_10 : decode cX3_rank 10 = .ok (.iload_n 1, 1) := by decide +kernel
theorem dX3_rank_11 : decode cX3_rank 11 = .ok (.iload_n 2, 1) := by decide +kernel
theorem dX3_rank_12 : decode cX3_rank 12 = .ok (.invokevirtual 61, 3) := by decide +kernel
theorem dX3_rank_15 : decode cX3_rank 15 = .ok (.goto 4, 3) := by decide +kernel
theorem dX3_rank_18 : decode cX3_rank 18 = .ok (.iconst (-1), 1) := by decide +kernel
theorem dX3_rank_19 : decode cX3_rank 19 = .ok (.ireturn, 1) := by decide +kernel
abbrev wsX3_rank : List Cond := Cond.code yX3_rank cX3_rank 3 (some .int) :: lw_gd
theorem dX3_best_0 : decode cX3_best 0 = .ok (.iload_n 1, 1) := by decide +kernel
theorem dX3_best_1 : decode cX3_best 1 = .ok (.invokestatic 39, 3) := by decide +kernel
theorem dX3_best_4 : decode cX3_best 4 = .ok (.ifCond .ne 5, 3) := by decide +kernel
theorem dX3_best_7 : decode cX3_best 7 = .ok (.iconst (-1), 1) := by decide +kernel
theorem dX3_best_8 : decode cX3_best 8 = .ok (.ireturn, 1) := by decide +kernel
theorem dX3_best_9 : decode cX3_best 9 = .ok (.aload_n 0, 1) := by decide +kernel
theorem dX3_best_10 : decode cX3_best 10 = .ok (.iload_n 1, 1) := by decide +kernel
theorem dX3_best_11 : decode cX3_best 11 = .ok (.aload_n 0, 1) := by decide +kernel
theorem dX3_best_12 : decode cX3_best 12 = .ok (.getfield 32, 3) := by decide +kernel
theorem dX3_best_15 : decode cX3_best 15 = .ok (.invokevirtual 75, 3) := by decide +kernel
theorem dX3_best_18 : decode cX3_best 18 = .ok (.aload_n 0, 1) := by decide +kernel
theorem dX3_best_19 : decode cX3_best 19 = .ok (.getfield 32, 3) := by decide +kernel
theorem dX3_best_22 : decode cX3_best 22 = .ok (.aload_n 0, 1) := by decide +kernel
theorem dX3_best_23 : decode cX3_best 23 = .ok (.iload_n 1, 1) := by decide +kernel
theorem dX3_best_24 : decode cX3_best 24 = .ok (.invokevirtual 43, 3) := by decide +kernel
theorem dX3_best_27 : decode cX3_best 27 = .ok (.baload, 1) := by decide +kernel
theorem dX3_best_28 : decode cX3_best 28 = .ok (.istore_n 2, 1) := by decide +kernel
theorem dX3_best_29 : decode cX3_best 29 = .ok (.iconst (-1), 1) := by decide +kernel
theorem dX3_best_30 : decode cX3_best 30 = .ok (.istore_n 3, 1) := by decide +kernel
theorem dX3_best_31 : decode cX3_best 31 = .ok (.iconst 0, 1) := by decide +kernel
theorem dX3_best_32 : decode cX3_best 32 = .ok (.istore 4, 2) := by decide +kernel
theorem dX3_best_34 : decode cX3_best 34 = .ok (.iconst 0, 1) := by decide +kernel
theorem dX3_best_35 : decode cX3_best 35 = .ok (.istore 5, 2) := by decide +kernel
theorem dX3_best_37 : decode cX3_best 37 = .ok (.iload 5, 2) := by decide +kernel
theorem dX3_best_39 : decode cX3_best 39 = .ok (.aload_n 0, 1) := by decide +kernel
theorem dX3_best_40 : decode cX3_best 40 = .ok (.iload_n 1, 1) := by decide +kernel
theorem dX3_best_41 : decode cX3_best 41 = .ok (.invokevirtual 43, 3) := by decide +kernel
theorem dX3_best_44 : decode cX3_best 44 = .ok (.if_icmp .gt 114, 3) := by decide +kernel
theorem dX3_best_47 : decode cX3_best 47 = .ok (.iload 5, 2) := by decide +kernel
theorem dX3_best_49 : decode cX3_best 49 = .ok (.invokestatic 47, 3) := by decide +kernel
theorem dX3_best_52 : decode cX3_best 52 = .ok (.iload_n 2, 1) := by decide +kernel
theorem dX3_best_53 : decode cX3_best 53 = .ok (.if_icmp .ne 99, 3) := by decide +kernel
theorem dX3_best_56 : decode cX3_best 56 = .ok (.aload_n 0, 1) := by decide +kernel
theorem dX3_best_57 : decode cX3_best 57 = .ok (.getfield 32, 3) := by decide +kernel
theorem dX3_best_60 : decode cX3_best 60 = .ok (.iload 5, 2) := by decide +kernel
theorem dX3_best_62 : decode cX3_best 62 = .ok (.baload, 1) := by decide +kernel
theorem dX3_best_63 : decode cX3_best 63 = .ok (.iload_n 2, 1) := by decide +kernel
theorem dX3_best_64 : decode cX3_best 64 = .ok (.if_icmp .eq 6, 3) := by decide +kernel
theorem dX3_best_67 : decode cX3_best 67 = .ok (.goto 85, 3) := by decide +kernel
theorem dX3_best_70 : decode cX3_best 70 = .ok (.iconst 0, 1) := by decide +kernel
theorem dX3_best_71 : decode cX3_best 71 = .ok (.istore 6, 2) := by decide +kernel
theorem dX3_best_73 : decode cX3_best 73 = .ok (.iconst 0, 1) := by decide +kernel
theorem dX3_best_74 : decode cX3_best 74 = .ok (.istore 7, 2) := by decide +kernel
theorem dX3_best_76 : decode cX3_best 76 = .ok (.iload 7, 2) := by decide +kernel
theorem dX3_best_78 : decode cX3_best 78 = .ok (.aload_n 0, 1) := by decide +kernel
theorem dX3_best_79 : decode cX3_best 79 = .ok (.getfield 13, 3) := by decide +kernel
theorem dX3_best_82 : decode cX3_best 82 = .ok (.iload_n 1, 1) := by decide +kernel
theorem dX3_best_83 : decode cX3_best 83 = .ok (.iaload, 1) := by decide +kernel
theorem dX3_best_84 : decode cX3_best 84 = .ok (.if_icmp .ge 34, 3) := by decide +kernel
theorem dX3_best_87 : decode cX3_best 87 = .ok (.iload 6, 2) := by decide +kernel
theorem dX3_best_89 : decode cX3_best 89 = .ok (.iload 5, 2) := by decide +kernel
theorem dX3_best_91 : decode cX3_best 91 = .ok (.iload 7, 2) := by decide +kernel
theorem dX3_best_93 : decode cX3_best 93 = .ok (.ishr, 1) := by decide +kernel
theorem dX3_best_94 : decode cX3_best 94 = .ok (.iconst 1, 1) := by decide +kernel
theorem dX3_best_95 : decode cX3_best 95 = .ok (.iand, 1) := by decide +kernel
theorem dX3_best_96 : decode cX3_best 96 = .ok (.aload_n 0, 1) := by decide +kernel
theorem dX3_best_97 : decode cX3_best 97 = .ok (.getfield 23, 3) := by decide +kernel
theorem dX3_best_100 : decode cX3_best 100 = .ok (.bipush 12, 2) := by decide +kernel
theorem dX3_best_102 : decode cX3_best 102 = .ok (.iload_n 1, 1) := by decide +kernel
theorem dX3_best_103 : decode cX3_best 103 = .ok (.imul, 1) := by decide +kernel
theorem dX3_best_104 : decode cX3_best 104 = .ok (.iload 7, 2) := by decide +kernel
theorem dX3_best_106 : decode cX3_best 106 = .ok (.iadd, 1) := by decide +kernel
theorem dX3_best_107 : decode cX3_best 107 = .ok (.iaload, 1) := by decide +kernel
theorem dX3_best_108 : decode cX3_best 108 = .ok (.imul, 1) := by decide +kernel
theorem dX3_best_109 : decode cX3_best 109 = .ok (.iadd, 1) := by decide +kernel
theorem dX3_best_110 : decode cX3_best 110 = .ok (.istore 6, 2) := by decide +kernel
theorem dX3_best_112 : decode cX3_best 112 = .ok (.iinc 7 1, 3) := by decide +kernel
theorem dX3_best_115 : decode cX3_best 115 = .ok (.goto (-39), 3) := by decide +kernel
theorem dX3_best_118 : decode cX3_best 118 = .ok (.iload_n 3, 1) := by decide +kernel
theorem dX3_best_119 : decode cX3_best 119 = .ok (.ifCond .lt 26, 3) := by decide +kernel
theorem dX3_best_122 : decode cX3_best 122 = .ok (.iload 6, 2) := by decide +kernel
theorem dX3_best_124 : decode cX3_best 124 = .ok (.iload 4, 2) := by decide +kernel
theorem dX3_best_126 : decode cX3_best 126 = .ok (.if_icmp .gt 19, 3) := by decide +kernel
theorem dX3_best_129 : decode cX3_best 129 = .ok (.iload 6, 2) := by decide +kernel
theorem dX3_best_131 : decode cX3_best 131 = .ok (.iload 4, 2) := by decide +kernel
theorem dX3_best_133 : decode cX3_best 133 = .ok (.if_icmp .ne 19, 3) := by decide +kernel
theorem dX3_best_136 : decode cX3_best 136 = .ok (.iload 5, 2) := by decide +kernel
theorem dX3_best_138 : decode cX3_best 138 = .ok (.iload_n 3, 1) := by decide +kernel
theorem dX3_best_139 : decode cX3_best 139 = .ok (.invokestatic 79, 3) := by decide +kernel
theorem dX3_best_142 : decode cX3_best 142 = .ok (.ifCond .eq 10, 3) := by decide +kernel
theorem dX3_best_145 : decode cX3_best 145 = .ok (.iload 5, 2) := by decide +kernel
theorem dX3_best_147 : decode cX3_best 147 = .ok (.istore_n 3, 1) := by decide +kernel
theorem dX3_best_148 : decode cX3_best 148 = .ok (.iload 6, 2) := by decide +kernel
theorem dX3_best_150 : decode cX3_best 150 = .ok (.istore 4, 2) := by decide +kernel
theorem dX3_best_152 : decode cX3_best 152 = .ok (.iinc 5 1, 3) := by decide +kernel
theorem dX3_best_155 : decode cX3_best 155 = .ok (.goto (-118), 3) := by decide +kernel
theorem dX3_best_158 : decode cX3_best 158 = .ok (.iload_n 3, 1) := by decide +kernel
theorem dX3_best_159 : decode cX3_best 159 = .ok (.ireturn, 1) := by decide +kernel
abbrev wsX3_best : List Cond := Cond.code yX3_best cX3_best 8 (some .int) :: lw_gd
theorem dX3_measure_0 : decode cX3_measure 0 = .ok (.iconst 0, 1) := by decide +kernel
theorem dX3_measure_1 : decode cX3_measure 1 = .ok (.istore_n 3, 1) := by decide +kernel
theorem dX3_measure_2 : decode cX3_measure 2 = .ok (.iload_n 3, 1) := by decide +kernel
theorem dX3_measure_3 : decode cX3_measure 3 = .ok (.aload_n 0, 1) := by decide +kernel
theorem dX3_measure_4 : decode cX3_measure 4 = .ok (.iload_n 1, 1) := by decide +kernel
theorem dX3_measure_5 : decode cX3_measure 5 = .ok (.invokevirtual 43, 3) := by decide +kernel
theorem dX3_measure_8 : decode cX3_measure 8 = .ok (.if_icmp .gt 19, 3) := by decide +kernel
theorem dX3_measure_11 : decode cX3_measure 11 = .ok (.aload_n 2, 1) := by decide +kernel
theorem dX3_measure_12 : decode cX3_measure 12 = .ok (.iload_n 3, 1) := by decide +kernel
theorem dX3_measure_13 : decode cX3_measure 13 = .ok (.aload_n 0, 1) := by decide +kernel
theorem dX3_measure_14 : decode cX3_measure 14 = .ok (.iload_n 1, 1) := by decide +kernel
theorem dX3_measure_15 : decode cX3_measure 15 = .ok (.iload_n 3, 1) := by decide +kernel
theorem dX3_measure_16 : decode cX3_measure 16 = .ok (.invokevirtual 61, 3) := by decide +kernel
theorem dX3_measure_19 : decode cX3_measure 19 = .ok (.i2b, 1) := by decide +kernel
theorem dX3_measure_20 : decode cX3_measure 20 = .ok (.bastore, 1) := by decide +kernel
theorem dX3_measure_21 : decode cX3_measure 21 = .ok (.iinc 3 1, 3) := by decide +kernel
theorem dX3_measure_24 : decode cX3_measure 24 = .ok (.goto (-22), 3) := by decide +kernel
theorem dX3_measure_27 : decode cX3_measure 27 = .ok (.return_, 1) := by decide +kernel
abbrev wsX3_measure : List Cond := Cond.code yX3_measure cX3_measure 4 none :: lw_gd
theorem dX3_size_0 : decode cX3_size 0 = .ok (.iconst 0, 1) := by decide +kernel
theorem dX3_size_1 : decode cX3_size 1 = .ok (.istore_n 1, 1) := by decide +kernel
theorem dX3_size_2 : decode cX3_size 2 = .ok (.iconst 0, 1) := by decide +kernel
theorem dX3_size_3 : decode cX3_size 3 = .ok (.istore_n 2, 1) := by decide +kernel
theorem dX3_size_4 : decode cX3_size 4 = .ok (.iload_n 2, 1) := by decide +kernel
theorem dX3_size_5 : decode cX3_size 5 = .ok (.bipush 12, 2) := by decide +kernel
theorem dX3_size_7 : decode cX3_size 7 = .ok (.if_icmp .ge 17, 3) := by decide +kernel
theorem dX3_size_10 : decode cX3_size 10 = .ok (.iload_n 1, 1) := by decide +kernel
theorem dX3_size_11 : decode cX3_size 11 = .ok (.iload_n 0, 1) := by decide +kernel
theorem dX3_size_12 : decode cX3_size 12 = .ok (.iload_n 2, 1) := by decide +kernel
theorem dX3_size_13 : decode cX3_size 13 = .ok (.ishr, 1) := by decide +kernel
theorem dX3_size_14 : decode cX3_size 14 = .ok (.iconst 1, 1) := by decide +kernel
theorem dX3_size_15 : decode cX3_size 15 = .ok (.iand, 1) := by decide +kernel
theorem dX3_size_16 : decode cX3_size 16 = .ok (.iadd, 1) := by decide +kernel
theorem dX3_size_17 : decode cX3_size 17 = .ok (.istore_n 1, 1) := by decide +kernel
theorem dX3_size_18 : decode cX3_size 18 = .ok (.iinc 2 1, 3) := by decide +kernel
theorem dX3_size_21 : decode cX3_size 21 = .ok (.goto (-17), 3) := by decide +kernel
theorem dX3_size_24 : decode cX3_size 24 = .ok (.iload_n 1, 1) := by decide +kernel
theorem dX3_size_25 : decode cX3_size 25 = .ok (.ireturn, 1) := by decide +kernel
abbrev wsX3_size : List Cond := Cond.code yX3_size cX3_size 3 (some .int) :: lw_gd
theorem dX3_comesFirst_0 : decode cX3_comesFirst 0 = .ok (.iload_n 0, 1) := by decide +kernel
theorem dX3_comesFirst_1 : decode cX3_comesFirst 1 = .ok (.invokestatic 47, 3) := by decide +kernel
theorem dX3_comesFirst_4 : decode cX3_comesFirst 4 = .ok (.iload_n 1, 1) := by decide +kernel
theorem dX3_comesFirst_5 : decode cX3_comesFirst 5 = .ok (.invokestatic 47, 3) := by decide +kernel
theorem dX3_comesFirst_8 : decode cX3_comesFirst 8 = .ok (.if_icmp .eq 20, 3) := by decide +kernel
theorem dX3_comesFirst_11 : decode cX3_comesFirst 11 = .ok (.iload_n 0, 1) := by decide +kernel
theorem dX3_comesFirst_12 : decode cX3_comesFirst 12 = .ok (.invokestatic 47, 3) := by decide +kernel
theorem dX3_comesFirst_15 : decode cX3_comesFirst 15 = .ok (.iload_n 1, 1) := by decide +kernel
theorem dX3_comesFirst_16 : decode cX3_comesFirst 16 = .ok (.invokestatic 47, 3) := by decide +kernel
theorem dX3_comesFirst_19 : decode cX3_comesFirst 19 = .ok (.if_icmp .ge 7, 3) := by decide +kernel
theorem dX3_comesFirst_22 : decode cX3_comesFirst 22 = .ok (.iconst 1, 1) := by decide +kernel
theorem dX3_comesFirst_23 : decode cX3_comesFirst 23 = .ok (.goto 4, 3) := by decide +kernel
theorem dX3_comesFirst_26 : decode cX3_comesFirst 26 = .ok (.iconst 0, 1) := by decide +kernel
theorem dX3_comesFirst_27 : decode cX3_comesFirst 27 = .ok (.ireturn, 1) := by decide +kernel
theorem dX3_comesFirst_28 : decode cX3_comesFirst 28 = .ok (.iconst 0, 1) := by decide +kernel
theorem dX3_comesFirst_29 : decode cX3_comesFirst 29 = .ok (.istore_n 2, 1) := by decide +kernel
theorem dX3_comesFirst_30 : decode cX3_comesFirst 30 = .ok (.iload_n 2, 1) := by decide +kernel
theorem dX3_comesFirst_31 : decode cX3_comesFirst 31 = .ok (.bipush 12, 2) := by decide +kernel
theorem dX3_comesFirst_33 : decode cX3_comesFirst 33 = .ok (.if_icmp .ge 37, 3) := by decide +kernel
theorem dX3_comesFirst_36 : decode cX3_comesFirst 36 = .ok (.iload_n 0, 1) := by decide +kernel
theorem dX3_comesFirst_37 : decode cX3_comesFirst 37 = .ok (.iload_n 2, 1) := by decide +kernel
theorem dX3_comesFirst_38 : decode cX3_comesFirst 38 = .ok (.ishr, 1) := by decide +kernel
theorem dX3_comesFirst_39 : decode cX3_comesFirst 39 = .ok (.iconst 1, 1) := by decide +kernel
theorem dX3_comesFirst_40 : decode cX3_comesFirst 40 = .ok (.iand, 1) := by decide +kernel
theorem dX3_comesFirst_41 : decode cX3_comesFirst 41 = .ok (.iload_n 1, 1) := by decide +kernel
theorem dX3_comesFirst_42 : decode cX3_comesFirst 42 = .ok (.iload_n 2, 1) := by decide +kernel
theorem dX3_comesFirst_43 : decode cX3_comesFirst 43 = .ok (.ishr, 1) := by decide +kernel
theorem dX3_comesFirst_44 : decode cX3_comesFirst 44 = .ok (.iconst 1, 1) := by decide +kernel
theorem dX3_comesFirst_45 : decode cX3_comesFirst 45 = .ok (.iand, 1) := by decide +kernel
theorem dX3_comesFirst_46 : decode cX3_comesFirst 46 = .ok (.if_icmp .eq 18, 3) := by decide +kernel
theorem dX3_comesFirst_49 : decode cX3_comesFirst 49 = .ok (.iload_n 0, 1) := by decide +kernel
theorem dX3_comesFirst_50 : decode cX3_comesFirst 50 = .ok (.iload_n 2, 1) := by decide +kernel
theorem dX3_comesFirst_51 : decode cX3_comesFirst 51 = .ok (.ishr, 1) := by decide +kernel
theorem dX3_comesFirst_52 : decode cX3_comesFirst 52 = .ok (.iconst 1, 1) := by decide +kernel
theorem dX3_comesFirst_53 : decode cX3_comesFirst 53 = .ok (.iand, 1) := by decide +kernel
theorem dX3_comesFirst_54 : decode cX3_comesFirst 54 = .ok (.iconst 1, 1) := by decide +kernel
theorem dX3_comesFirst_55 : decode cX3_comesFirst 55 = .ok (.if_icmp .ne 7, 3) := by decide +kernel
theorem dX3_comesFirst_58 : decode cX3_comesFirst 58 = .ok (.iconst 1, 1) := by decide +kernel
theorem dX3_comesFirst_59 : decode cX3_comesFirst 59 = .ok (.goto 4, 3) := by decide +kernel
theorem dX3_comesFirst_62 : decode cX3_comesFirst 62 = .ok (.iconst 0, 1) := by decide +kernel
theorem dX3_comesFirst_63 : decode cX3_comesFirst 63 = .ok (.ireturn, 1) := by decide +kernel
theorem dX3_comesFirst_64 : decode cX3_comesFirst 64 = .ok (.iinc 2 1, 3) := by decide +kernel
theorem dX3_comesFirst_67 : decode cX3_comesFirst 67 = .ok (.goto (-37), 3) := by decide +kernel
theorem dX3_comesFirst_70 : decode cX3_comesFirst 70 = .ok (.iconst 0, 1) := by decide +kernel
theorem dX3_comesFirst_71 : decode cX3_comesFirst 71 = .ok (.ireturn, 1) := by decide +kernel
abbrev wsX3_comesFirst : List Cond := Cond.code yX3_comesFirst cX3_comesFirst 3 (some .boolean) :: lw_gd
theorem dX3_common_0 : decode cX3_common 0 = .ok (.aload_n 0, 1) := by decide +kernel
theorem dX3_common_1 : decode cX3_common 1 = .ok (.iload_n 1, 1) := by decide +kernel
theorem dX3_common_2 : decode cX3_common 2 = .ok (.iload_n 2, 1) := by decide +kernel
theorem dX3_common_3 : decode cX3_common 3 = .ok (.invokevirtual 82, 3) := by decide +kernel
theorem dX3_common_6 : decode cX3_common 6 = .ok (.ifCond .eq 12, 3) := by decide +kernel
theorem dX3_common_9 : decode cX3_common 9 = .ok (.aload_n 0, 1) := by decide +kernel
theorem dX3_common_10 : decode cX3_common 10 = .ok (.iload_n 1, 1) := by decide +kernel
theorem dX3_common_11 : decode cX3_common 11 = .ok (.iload_n 2, 1) := by decide +kernel
theorem dX3_common_12 : decode cX3_common 12 = .ok (.invokevirtual 85, 3) := by decide +kernel
theorem dX3_common_15 : decode cX3_common 15 = .ok (.goto 4, 3) := by decide +kernel
theorem dX3_common_18 : decode cX3_common 18 = .ok (.iconst (-1), 1) := by decide +kernel
theorem dX3_common_19 : decode cX3_common 19 = .ok (.ireturn, 1) := by decide +kernel
abbrev wsX3_common : List Cond := Cond.code yX3_common cX3_common 3 (some .int) :: lw_gd
theorem dX3_areAlike_0 : decode cX3_areAlike 0 = .ok (.iload_n 1, 1) := by decide +kernel
theorem dX3_areAlike_1 : decode cX3_areAlike 1 = .ok (.invokestatic 39, 3) := by decide +kernel
theorem dX3_areAlike_4 : decode cX3_areAlike 4 = .ok (.ifCond .eq 29, 3) := by decide +kernel
theorem dX3_areAlike_7 : decode cX3_areAlike 7 = .ok (.iload_n 2, 1) := by decide +kernel
theorem dX3_areAlike_8 : decode cX3_areAlike 8 = .ok (.invokestatic 39, 3) := by decide +kernel
theorem dX3_areAlike_11 : decode cX3_areAlike 11 = .ok (.ifCond .eq 22, 3) := by decide +kernel
theorem dX3_areAlike_14 : decode cX3_areAlike 14 = .ok (.aload_n 0, 1) := by decide +kernel
theorem dX3_areAlike_15 : decode cX3_areAlike 15 = .ok (.getfield 13, 3) := by decide +kernel
theorem dX3_areAlike_18 : decode cX3_areAlike 18 = .ok (.iload_n 1, 1) := by decide +kernel
theorem dX3_areAlike_19 : decode cX3_areAlike 19 = .ok (.iaload, 1) := by decide +kernel
theorem dX3_areAlike_20 : decode cX3_areAlike 20 = .ok (.aload_n 0, 1) := by decide +kernel
theorem dX3_areAlike_21 : decode cX3_areAlike 21 = .ok (.getfield 13, 3) := by decide +kernel
theorem dX3_areAlike_24 : decode cX3_areAlike 24 = .ok (.iload_n 2, 1) := by decide +kernel
theorem dX3_areAlike_25 : decode cX3_areAlike 25 = .ok (.iaload, 1) := by decide +kernel
theorem dX3_areAlike_26 : decode cX3_areAlike 26 = .ok (.if_icmp .ne 7, 3) := by decide +kernel
theorem dX3_areAlike_29 : decode cX3_areAlike 29 = .ok (.iconst 1, 1) := by decide +kernel
theorem dX3_areAlike_30 : decode cX3_areAlike 30 = .ok (.goto 4, 3) := by decide +kernel
theorem dX3_areAlike_33 : decode cX3_areAlike 33 = .ok (.iconst 0, 1) := by decide +kernel
theorem dX3_areAlike_34 : decode cX3_areAlike 34 = .ok (.ireturn, 1) := by decide +kernel
abbrev wsX3_areAlike : List Cond := Cond.code yX3_areAlike cX3_areAlike 3 (some .boolean) :: lw_gd
theorem dX3_commonOf_0 : decode cX3_commonOf 0 = .ok (.aload_n 0, 1) := by decide +kernel
theorem dX3_commonOf_1 : decode cX3_commonOf 1 = .ok (.iload_n 1, 1) := by decide +kernel
theorem dX3_commonOf_2 : decode cX3_commonOf 2 = .ok (.aload_n 0, 1) := by decide +kernel
theorem dX3_commonOf_3 : decode cX3_commonOf 3 = .ok (.getfield 32, 3) := by decide +kernel
theorem dX3_commonOf_6 : decode cX3_commonOf 6 = .ok (.invokevirtual 75, 3) := by decide +kernel
theorem dX3_commonOf_9 : decode cX3_commonOf 9 = .ok (.aload_n 0, 1) := by decide +kernel
theorem dX3_commonOf_10 : decode cX3_commonOf 10 = .ok (.iload_n 2, 1) := by decide +kernel
theorem dX3_commonOf_11 : decode cX3_commonOf 11 = .ok (.aload_n 0, 1) := by decide +kernel
theorem dX3_commonOf_12 : decode cX3_commonOf 12 = .ok (.getfield 36, 3) := by decide +kernel
theorem dX3_commonOf_15 : decode cX3_commonOf 15 = .ok (.invokevirtual 75, 3) := by decide +kernel
theorem dX3_commonOf_18 : decode cX3_commonOf 18 = .ok (.iconst 0, 1) := by decide +kernel
theorem dX3_commonOf_19 : decode cX3_commonOf 19 = .ok (.istore_n 3, 1) := by decide +kernel
theorem dX3_commonOf_20 : decode cX3_commonOf 20 = .ok (.iconst 0, 1) := by decide +kernel
theorem dX3_commonOf_21 : decode cX3_commonOf 21 = .ok (.istore 4, 2) := by decide +kernel
theorem dX3_commonOf_23 : decode cX3_commonOf 23 = .ok (.iload 4, 2) := by decide +kernel
theorem dX3_commonOf_25 : decode cX3_commonOf 25 = .ok (.aload_n 0, 1) := by decide +kernel
theorem dX3_commonOf_26 : decode cX3_commonOf 26 = .ok (.iload_n 1, 1) := by decide +kernel
theorem dX3_commonOf_27 : decode cX3_commonOf 27 = .ok (.invokevirtual 43, 3) := by decide +kernel
theorem dX3_commonOf_30 : decode cX3_commonOf 30 = .ok (.if_icmp .gt 82, 3) := by decide +kernel
theorem dX3_commonOf_33 : decode cX3_commonOf 33 = .ok (.iload 4, 2) := by decide +kernel
theorem dX3_commonOf_35 : decode cX3_commonOf 35 = .ok (.invokestatic 47, 3) := by decide +kernel
theorem dX3_commonOf_38 : decode cX3_commonOf 38 = .ok (.istore 5, 2) := by decide +kernel
theorem dX3_commonOf_40 : decode cX3_commonOf 40 = .ok (.aload_n 0, 1) := by decide +kernel
theorem dX3_commonOf_41 : decode cX3_commonOf 41 = .ok (.getfield 32, 3) := by decide +kernel
theorem dX3_commonOf_44 : decode cX3_commonOf 44 = .ok (.iload 4, 2) := by decide +kernel
theorem dX3_commonOf_46 : decode cX3_commonOf 46 = .ok (.baload, 1) := by decide +kernel
theorem dX3_commonOf_47 : decode cX3_commonOf 47 = .ok (.iload 5, 2) := by decide +kernel
theorem dX3_commonOf_49 : decode cX3_commonOf 49 = .ok (.if_icmp .ne 19, 3) := by decide +kernel
theorem dX3_commonOf_52 : decode cX3_commonOf 52 = .ok (.aload_n 0, 1) := by decide +kernel
theorem dX3_commonOf_53 : decode cX3_commonOf 53 = .ok (.getfield 36, 3) := by decide +kernel
theorem dX3_commonOf_56 : decode cX3_commonOf 56 = .ok (.iload 4, 2) := by decide +kernel
theorem dX3_commonOf_58 : decode cX3_commonOf 58 = .ok (.baload, 1) := by decide +kernel
theorem dX3_commonOf_59 : decode cX3_commonOf 59 = .ok (.iload 5, 2) := by decide +kernel
theorem dX3_commonOf_61 : decode cX3_commonOf 61 = .ok (.if_icmp .ne 7, 3) := by decide +kernel
theorem dX3_commonOf_64 : decode cX3_commonOf 64 = .ok (.iconst 1, 1) := by decide +kernel
theorem dX3_commonOf_65 : decode cX3_commonOf 65 = .ok (.goto 4, 3) := by decide +kernel
theorem dX3_commonOf_68 : decode cX3_commonOf 68 = .ok (.iconst 0, 1) := by decide +kernel
theorem dX3_commonOf_69 : decode cX3_commonOf 69 = .ok (.istore 6, 2) := by decide +kernel
theorem dX3_commonOf_71 : decode cX3_commonOf 71 = .ok (.iload 6, 2) := by decide +kernel
theorem dX3_commonOf_73 : decode cX3_commonOf 73 = .ok (.ifCond .eq 33, 3) := by decide +kernel
theorem dX3_commonOf_76 : decode cX3_commonOf 76 = .ok (.iload 5, 2) := by decide +kernel
theorem dX3_commonOf_78 : decode cX3_commonOf 78 = .ok (.iload_n 3, 1) := by decide +kernel
theorem dX3_commonOf_79 : decode cX3_commonOf 79 = .ok (.invokestatic 47, 3) := by decide +kernel
theorem dX3_commonOf_82 : decode cX3_commonOf 82 = .ok (.if_icmp .gt 21, 3) := by decide +kernel
theorem dX3_commonOf_85 : decode cX3_commonOf 85 = .ok (.iload 5, 2) := by decide +kernel
theorem dX3_commonOf_87 : decode cX3_commonOf 87 = .ok (.iload_n 3, 1) := by decide +kernel
theorem dX3_commonOf_88 : decode cX3_commonOf 88 = .ok (.invokestatic 47, 3) := by decide +kernel
theorem dX3_commonOf_91 : decode cX3_commonOf 91 = .ok (.if_icmp .ne 15, 3) := by decide +kernel
theorem dX3_commonOf_94 : decode cX3_commonOf 94 = .ok (.iload 4, 2) := by decide +kernel
theorem dX3_commonOf_96 : decode cX3_commonOf 96 = .ok (.iload_n 3, 1) := by decide +kernel
theorem dX3_commonOf_97 : decode cX3_commonOf 97 = .ok (.invokestatic 79, 3) := by decide +kernel
theorem dX3_commonOf_100 : decode cX3_commonOf 100 = .ok (.ifCond .eq 6, 3) := by decide +kernel
theorem dX3_commonOf_103 : decode cX3_commonOf 103 = .ok (.iload 4, 2) := by decide +kernel
theorem dX3_commonOf_105 : decode cX3_commonOf 105 = .ok (.istore_n 3, 1) := by decide +kernel
theorem dX3_commonOf_106 : decode cX3_commonOf 106 = .ok (.iinc 4 1, 3) := by decide +kernel
theorem dX3_commonOf_109 : decode cX3_commonOf 109 = .ok (.goto (-86), 3) := by decide +kernel
theorem dX3_commonOf_112 : decode cX3_commonOf 112 = .ok (.iload_n 3, 1) := by decide +kernel
theorem dX3_commonOf_113 : decode cX3_commonOf 113 = .ok (.ireturn, 1) := by decide +kernel
abbrev wsX3_commonOf : List Cond := Cond.code yX3_commonOf cX3_commonOf 7 (some .int) :: lw_gd
theorem dX3_cover_0 : decode cX3_cover 0 = .ok (.aload_n 0, 1) := by decide +kernel
theorem dX3_cover_1 : decode cX3_cover 1 = .ok (.iload_n 1, 1) := by decide +kernel
theorem dX3_cover_2 : decode cX3_cover 2 = .ok (.iload_n 2, 1) := by decide +kernel
theorem dX3_cover_3 : decode cX3_cover 3 = .ok (.invokevirtual 82, 3) := by decide +kernel
theorem dX3_cover_6 : decode cX3_cover 6 = .ok (.ifCond .ne 5, 3) := by decide +kernel
theorem dX3_cover_9 : decode cX3_cover 9 = .ok (.iconst (-1), 1) := by decide +kernel
theorem dX3_cover_10 : decode cX3_cover 10 = .ok (.ireturn, 1) := by decide +kernel
theorem dX3_cover_11 : decode cX3_cover 11 = .ok (.aload_n 0, 1) := by decide +kernel
theorem dX3_cover_12 : decode cX3_cover 12 = .ok (.iload_n 1, 1) := by decide +kernel
theorem dX3_cover_13 : decode cX3_cover 13 = .ok (.iload_n 2, 1) := by decide +kernel
theorem dX3_cover_14 : decode cX3_cover 14 = .ok (.invokevirtual 85, 3) := by decide +kernel
theorem dX3_cover_17 : decode cX3_cover 17 = .ok (.invokestatic 47, 3) := by decide +kernel
theorem dX3_cover_20 : decode cX3_cover 20 = .ok (.istore_n 3, 1) := by decide +kernel
theorem dX3_cover_21 : decode cX3_cover 21 = .ok (.aload_n 0, 1) := by decide +kernel
theorem dX3_cover_22 : decode cX3_cover 22 = .ok (.iload_n 1, 1) := by decide +kernel
theorem dX3_cover_23 : decode cX3_cover 23 = .ok (.invokevirtual 43, 3) := by decide +kernel
theorem dX3_cover_26 : decode cX3_cover 26 = .ok (.istore 4, 2) := by decide +kernel
theorem dX3_cover_28 : decode cX3_cover 28 = .ok (.iload 4, 2) := by decide +kernel
theorem dX3_cover_30 : decode cX3_cover 30 = .ok (.istore 5, 2) := by decide +kernel
theorem dX3_cover_32 : decode cX3_cover 32 = .ok (.iconst 0, 1) := by decide +kernel
theorem dX3_cover_33 : decode cX3_cover 33 = .ok (.istore 6, 2) := by decide +kernel
theorem dX3_cover_35 : decode cX3_cover 35 = .ok (.iload 6, 2) := by decide +kernel
theorem dX3_cover_37 : decode cX3_cover 37 = .ok (.iload 4, 2) := by decide +kernel
theorem dX3_cover_39 : decode cX3_cover 39 = .ok (.if_icmp .gt 45, 3) := by decide +kernel
theorem dX3_cover_42 : decode cX3_cover 42 = .ok (.aload_n 0, 1) := by decide +kernel
theorem dX3_cover_43 : decode cX3_cover 43 = .ok (.getfield 32, 3) := by decide +kernel
theorem dX3_cover_46 : decode cX3_cover 46 = .ok (.iload 6, 2) := by decide +kernel
theorem dX3_cover_48 : decode cX3_cover 48 = .ok (.baload, 1) := by decide +kernel
theorem dX3_cover_49 : decode cX3_cover 49 = .ok (.aload_n 0, 1) := by decide +kernel
theorem dX3_cover_50 : decode cX3_cover 50 = .ok (.getfield 36, 3) := by decide +kernel
theorem dX3_cover_53 : decode cX3_cover 53 = .ok (.iload 4, 2) := by decide +kernel
theorem dX3_cover_55 : decode cX3_cover 55 = .ok (.iload 6, 2) := by decide +kernel
theorem dX3_cover_57 : decode cX3_cover 57 = .ok (.iconst (-1), 1) := by decide +kernel
theorem dX3_cover_58 : decode cX3_cover 58 = .ok (.ixor, 1) := by decide +kernel
theorem dX3_cover_59 : decode cX3_cover 59 = .ok (.iand, 1) := by decide +kernel
theorem dX3_cover_60 : decode cX3_cover 60 = .ok (.baload, 1) := by decide +kernel
theorem dX3_cover_61 : decode cX3_cover 61 = .ok (.iadd, 1) := by decide +kernel
theorem dX3_cover_62 : decode cX3_cover 62 = .ok (.iload_n 3, 1) := by decide +kernel
theorem dX3_cover_63 : decode cX3_cover 63 = .ok (.if_icmp .ne 11, 3) := by decide +kernel
theorem dX3_cover_66 : decode cX3_cover 66 = .ok (.iload 5, 2) := by decide +kernel
theorem dX3_cover_68 : decode cX3_cover 68 = .ok (.iload 6, 2) := by decide +kernel
theorem dX3_cover_70 : decode cX3_cover 70 = .ok (.iand, 1) := by decide +kernel
theorem dX3_cover_71 : decode cX3_cover 71 = .ok (.goto 5, 3) := by decide +kernel
theorem dX3_cover_74 : decode cX3_cover 74 = .ok (.iload 5, 2) := by decide +kernel
theorem dX3_cover_76 : decode cX3_cover 76 = .ok (.istore 5, 2) := by decide +kernel
theorem dX3_cover_78 : decode cX3_cover 78 = .ok (.iinc 6 1, 3) := by decide +kernel
theorem dX3_cover_81 : decode cX3_cover 81 = .ok (.goto (-46), 3) := by decide +kernel
theorem dX3_cover_84 : decode cX3_cover 84 = .ok (.iload 5, 2) := by decide +kernel
theorem dX3_cover_86 : decode cX3_cover 86 = .ok (.ireturn, 1) := by decide +kernel
abbrev wsX3_cover : List Cond := Cond.code yX3_cover cX3_cover 7 (some .int) :: lw_gd
theorem dL_law_0 : decode code 0 = .ok (.new 7, 3) := by decide +kernel
theorem dL_law_3 : decode code 3 = .ok (.dup, 1) := by decide +kernel
theorem dL_law_4 : decode code 4 = .ok (.invokespecial 9, 3) := by decide +kernel
theorem dL_law_7 : decode code 7 = .ok (.astore_n 1, 1) := by decide +kernel
theorem dL_law_8 : decode code 8 = .ok (.new 10, 3) := by decide +kernel
theorem dL_law_11 : decode code 11 = .ok (.dup, 1) := by decide +kernel
theorem dL_law_12 : decode code 12 = .ok (.invokespecial 12, 3) := by decide +kernel
theorem dL_law_15 : decode code 15 = .ok (.astore_n 2, 1) := by decide +kernel
theorem dL_law_16 : decode code 16 = .ok (.iconst 0, 1) := by decide +kernel
theorem dL_law_17 : decode code 17 = .ok (.istore_n 3, 1) := by decide +kernel
theorem dL_law_18 : decode code 18 = .ok (.iload_n 3, 1) := by decide +kernel
end
section
theorem dL_law_19 : decode code 19 = .ok (.aload_n 0, 1) := by decide +kernel
theorem dL_law_20 : decode code 20 = .ok (.arraylength, 1) := by decide +kernel
theorem dL_law_21 : decode code 21 = .ok (.iconst 5, 1) := by decide +kernel
theorem dL_law_22 : decode code 22 = .ok (.isub, 1) := by decide +kernel
theorem dL_law_23 : decode code 23 = .ok (.if_icmp .gt 484, 3) := by decide +kernel
theorem dL_law_26 : decode code 26 = .ok (.aload_n 0, 1) := by decide +kernel
theorem dL_law_27 : decode code 27 = .ok (.iload_n 3, 1) := by decide +kernel
theorem dL_law_28 : decode code 28 = .ok (.iaload, 1) := by decide +kernel
theorem dL_law_29 : decode code 29 = .ok (.bipush 15, 2) := by decide +kernel
theorem dL_law_31 : decode code 31 = .ok (.iand, 1) := by decide +kernel
theorem dL_law_32 : decode code 32 = .ok (.tableswitch 469 0 10 #[60, 93, 136, 179, 248, 291, 314, 347, 380, 403, 436], 60) := by decide +kernel
theorem dL_law_92 : decode code 92 = .ok (.aload_n 1, 1) := by decide +kernel
theorem dL_law_93 : decode code 93 = .ok (.aload_n 0, 1) := by decide +kernel
theorem dL_law_94 : decode code 94 = .ok (.iload_n 3, 1) := by decide +kernel
theorem dL_law_95 : decode code 95 = .ok (.iconst 1, 1) := by decide +kernel
theorem dL_law_96 : decode code 96 = .ok (.iadd, 1) := by decide +kernel
theorem dL_law_97 : decode code 97 = .ok (.iaload, 1) := by decide +kernel
theorem dL_law_98 : decode code 98 = .ok (.aload_n 0, 1) := by decide +kernel
theorem dL_law_99 : decode code 99 = .ok (.iload_n 3, 1) := by decide +kernel
theorem dL_law_100 : decode code 100 = .ok (.iconst 2, 1) := by decide +kernel
theorem dL_law_101 : decode code 101 = .ok (.iadd, 1) := by decide +kernel
theorem dL_law_102 : decode code 102 = .ok (.iaload, 1) := by decide +kernel
theorem dL_law_103 : decode code 103 = .ok (.invokevirtual 13, 3) := by decide +kernel
theorem dL_law_106 : decode code 106 = .ok (.aload_n 2, 1) := by decide +kernel
theorem dL_law_107 : decode code 107 = .ok (.aload_n 0, 1) := by decide +kernel
theorem dL_law_108 : decode code 108 = .ok (.iload_n 3, 1) := by decide +kernel
theorem dL_law_109 : decode code 109 = .ok (.iconst 1, 1) := by decide +kernel
theorem dL_law_110 : decode code 110 = .ok (.iadd, 1) := by decide +kernel
theorem dL_law_111 : decode code 111 = .ok (.iaload, 1) := by decide +kernel
theorem dL_law_112 : decode code 112 = .ok (.aload_n 0, 1) := by decide +kernel
theorem dL_law_113 : decode code 113 = .ok (.iload_n 3, 1) := by decide +kernel
theorem dL_law_114 : decode code 114 = .ok (.iconst 2, 1) := by decide +kernel
theorem dL_law_115 : decode code 115 = .ok (.iadd, 1) := by decide +kernel
theorem dL_law_116 : decode code 116 = .ok (.iaload, 1) := by decide +kernel
theorem dL_law_117 : decode code 117 = .ok (.invokevirtual 17, 3) := by decide +kernel
theorem dL_law_120 : decode code 120 = .ok (.if_icmp .eq 381, 3) := by decide +kernel
theorem dL_law_123 : decode code 123 = .ok (.iconst 0, 1) := by decide +kernel
theorem dL_law_124 : decode code 124 = .ok (.ireturn, 1) := by decide +kernel
theorem dL_law_125 : decode code 125 = .ok (.aload_n 1, 1) := by decide +kernel
theorem dL_law_126 : decode code 126 = .ok (.aload_n 0, 1) := by decide +kernel
theorem dL_law_127 : decode code 127 = .ok (.iload_n 3, 1) := by decide +kernel
theorem dL_law_128 : decode code 128 = .ok (.iconst 1, 1) := by decide +kernel
theorem dL_law_129 : decode code 129 = .ok (.iadd, 1) := by decide +kernel
theorem dL_law_130 : decode code 130 = .ok (.iaload, 1) := by decide +kernel
theorem dL_law_131 : decode code 131 = .ok (.aload_n 0, 1) := by decide +kernel
theorem dL_law_132 : decode code 132 = .ok (.iload_n 3, 1) := by decide +kernel
theorem dL_law_133 : decode code 133 = .ok (.iconst 2, 1) := by decide +kernel
theorem dL_law_134 : decode code 134 = .ok (.iadd, 1) := by decide +kernel
theorem dL_law_135 : decode code 135 = .ok (.iaload, 1) := by decide +kernel
theorem dL_law_136 : decode code 136 = .ok (.aload_n 0, 1) := by decide +kernel
theorem dL_law_137 : decode code 137 = .ok (.iload_n 3, 1) := by decide +kernel
theorem dL_law_138 : decode code 138 = .ok (.iconst 3, 1) := by decide +kernel
theorem dL_law_139 : decode code 139 = .ok (.iadd, 1) := by decide +kernel
theorem dL_law_140 : decode code 140 = .ok (.iaload, 1) := by decide +kernel
theorem dL_law_141 : decode code 141 = .ok (.invokevirtual 18, 3) := by decide +kernel
theorem dL_law_144 : decode code 144 = .ok (.aload_n 2, 1) := by decide +kernel
theorem dL_law_145 : decode code 145 = .ok (.aload_n 0, 1) := by decide +kernel
theorem dL_law_146 : decode code 146 = .ok (.iload_n 3, 1) := by decide +kernel
theorem dL_law_147 : decode code 147 = .ok (.iconst 1, 1) := by decide +kernel
theorem dL_law_148 : decode code 148 = .ok (.iadd, 1) := by decide +kernel
theorem dL_law_149 : decode code 149 = .ok (.iaload, 1) := by decide +kernel
theorem dL_law_150 : decode code 150 = .ok (.aload_n 0, 1) := by decide +kernel
theorem dL_law_151 : decode code 151 = .ok (.iload_n 3, 1) := by decide +kernel
theorem dL_law_152 : decode code 152 = .ok (.iconst 2, 1) := by decide +kernel
theorem dL_law_153 : decode code 153 = .ok (.iadd, 1) := by decide +kernel
theorem dL_law_154 : decode code 154 = .ok (.iaload, 1) := by decide +kernel
theorem dL_law_155 : decode code 155 = .ok (.aload_n 0, 1) := by decide +kernel
theorem dL_law_156 : decode code 156 = .ok (.iload_n 3, 1) := by decide +kernel
theorem dL_law_157 : decode code 157 = .ok (.iconst 3, 1) := by decide +kernel
theorem dL_law_158 : decode code 158 = .ok (.iadd, 1) := by decide +kernel
theorem dL_law_159 : decode code 159 = .ok (.iaload, 1) := by decide +kernel
theorem dL_law_160 : decode code 160 = .ok (.invokevirtual 22, 3) := by decide +kernel
theorem dL_law_163 : decode code 163 = .ok (.if_icmp .eq 338, 3) := by decide +kernel
theorem dL_law_166 : decode code 166 = .ok (.iconst 0, 1) := by decide +kernel
theorem dL_law_167 : decode code 167 = .ok (.ireturn, 1) := by decide +kernel
theorem dL_law_168 : decode code 168 = .ok (.aload_n 1, 1) := by decide +kernel
theorem dL_law_169 : decode code 169 = .ok (.aload_n 0, 1) := by decide +kernel
theorem dL_law_170 : decode code 170 = .ok (.iload_n 3, 1) := by decide +kernel
theorem dL_law_171 : decode code 171 = .ok (.iconst 1, 1) := by decide +kernel
theorem dL_law_172 : decode code 172 = .ok (.iadd, 1) := by decide +kernel
theorem dL_law_173 : decode code 173 = .ok (.iaload, 1) := by decide +kernel
theorem dL_law_174 : decode code 174 = .ok (.aload_n 0, 1) := by decide +kernel
theorem dL_law_175 : decode code 175 = .ok (.iload_n 3, 1) := by decide +kernel
theorem dL_law_176 : decode code 176 = .ok (.iconst 2, 1) := by decide +kernel
theorem dL_law_177 : decode code 177 = .ok (.iadd, 1) := by decide +kernel
theorem dL_law_178 : decode code 178 = .ok (.iaload, 1) := by decide +kernel
theorem dL_law_179 : decode code 179 = .ok (.aload_n 0, 1) := by decide +kernel
theorem dL_law_180 : decode code 180 = .ok (.iload_n 3, 1) := by decide +kernel
theorem dL_law_181 : decode code 181 = .ok (.iconst 3, 1) := by decide +kernel
theorem dL_law_182 : decode code 182 = .ok (.iadd, 1) := by decide +kernel
theorem dL_law_183 : decode code 183 = .ok (.iaload, 1) := by decide +kernel
theorem dL_law_184 : decode code 184 = .ok (.invokevirtual 23, 3) := by decide +kernel
theorem dL_law_187 : decode code 187 = .ok (.aload_n 2, 1) := by decide +kernel
theorem dL_law_188 : decode code 188 = .ok (.aload_n 0, 1) := by decide +kernel
theorem dL_law_189 : decode code 189 = .ok (.iload_n 3, 1) := by decide +kernel
theorem dL_law_190 : decode code 190 = .ok (.iconst 1, 1) := by decide +kernel
theorem dL_law_191 : decode code 191 = .ok (.iadd, 1) := by decide +kernel
theorem dL_law_192 : decode code 192 = .ok (.iaload, 1) := by decide +kernel
theorem dL_law_193 : decode code 193 = .ok (.aload_n 0, 1) := by decide +kernel
theorem dL_law_194 : decode code 194 = .ok (.iload_n 3, 1) := by decide +kernel
theorem dL_law_195 : decode code 195 = .ok (.iconst 2, 1) := by decide +kernel
theorem dL_law_196 : decode code 196 = .ok (.iadd, 1) := by decide +kernel
theorem dL_law_197 : decode code 197 = .ok (.iaload, 1) := by decide +kernel
theorem dL_law_198 : decode code 198 = .ok (.aload_n 0, 1) := by decide +kernel
theorem dL_law_199 : decode code 199 = .ok (.iload_n 3, 1) := by decide +kernel
theorem dL_law_200 : decode code 200 = .ok (.iconst 3, 1) := by decide +kernel
theorem dL_law_201 : decode code 201 = .ok (.iadd, 1) := by decide +kernel
theorem dL_law_202 : decode code 202 = .ok (.iaload, 1) := by decide +kernel
theorem dL_law_203 : decode code 203 = .ok (.invokevirtual 27, 3) := by decide +kernel
theorem dL_law_206 : decode code 206 = .ok (.if_icmp .eq 295, 3) := by decide +kernel
theorem dL_law_209 : decode code 209 = .ok (.iconst 0, 1) := by decide +kernel
theorem dL_law_210 : decode code 210 = .ok (.ireturn, 1) := by decide +kernel
theorem dL_law_211 : decode code 211 = .ok (.aload_n 1, 1) := by decide +kernel
theorem dL_law_212 : decode code 212 = .ok (.aload_n 0, 1) := by decide +kernel
theorem dL_law_213 : decode code 213 = .ok (.iload_n 3, 1) := by decide +kernel
theorem dL_law_214 : decode code 214 = .ok (.iconst 1, 1) := by decide +kernel
theorem dL_law_215 : decode code 215 = .ok (.iadd, 1) := by decide +kernel
theorem dL_law_216 : decode code 216 = .ok (.iaload, 1) := by decide +kernel
theorem dL_law_217 : decode code 217 = .ok (.aload_n 0, 1) := by decide +kernel
theorem dL_law_218 : decode code 218 = .ok (.iload_n 3, 1) := by decide +kernel
theorem dL_law_219 : decode code 219 = .ok (.iconst 2, 1) := by decide +kernel
theorem dL_law_220 : decode code 220 = .ok (.iadd, 1) := by decide +kernel
theorem dL_law_221 : decode code 221 = .ok (.iaload, 1) := by decide +kernel
theorem dL_law_222 : decode code 222 = .ok (.aload_n 0, 1) := by decide +kernel
theorem dL_law_223 : decode code 223 = .ok (.iload_n 3, 1) := by decide +kernel
theorem dL_law_224 : decode code 224 = .ok (.iconst 3, 1) := by decide +kernel
theorem dL_law_225 : decode code 225 = .ok (.iadd, 1) := by decide +kernel
theorem dL_law_226 : decode code 226 = .ok (.iaload, 1) := by decide +kernel
theorem dL_law_227 : decode code 227 = .ok (.aload_n 0, 1) := by decide +kernel
theorem dL_law_228 : decode code 228 = .ok (.iload_n 3, 1) := by decide +kernel
theorem dL_law_229 : decode code 229 = .ok (.iconst 4, 1) := by decide +kernel
theorem dL_law_230 : decode code 230 = .ok (.iadd, 1) := by decide +kernel
theorem dL_law_231 : decode code 231 = .ok (.iaload, 1) := by decide +kernel
theorem dL_law_232 : decode code 232 = .ok (.ifCond .eq 7, 3) := by decide +kernel
theorem dL_law_235 : decode code 235 = .ok (.iconst 1, 1) := by decide +kernel
theorem dL_law_236 : decode code 236 = .ok (.goto 4, 3) := by decide +kernel
theorem dL_law_239 : decode code 239 = .ok (.iconst 0, 1) := by decide +kernel
theorem dL_law_240 : decode code 240 = .ok (.invokevirtual 28, 3) := by decide +kernel
theorem dL_law_243 : decode code 243 = .ok (.aload_n 2, 1) := by decide +kernel
theorem dL_law_244 : decode code 244 = .ok (.aload_n 0, 1) := by decide +kernel
theorem dL_law_245 : decode code 245 = .ok (.iload_n 3, 1) := by decide +kernel
theorem dL_law_246 : decode code 246 = .ok (.iconst 1, 1) := by decide +kernel
theorem dL_law_247 : decode code 247 = .ok (.iadd, 1) := by decide +kernel
theorem dL_law_248 : decode code 248 = .ok (.iaload, 1) := by decide +kernel
theorem dL_law_249 : decode code 249 = .ok (.aload_n 0, 1) := by decide +kernel
theorem dL_law_250 : decode code 250 = .ok (.iload_n 3, 1) := by decide +kernel
theorem dL_law_251 : decode code 251 = .ok (.iconst 2, 1) := by decide +kernel
theorem dL_law_252 : decode code 252 = .ok (.iadd, 1) := by decide +kernel
theorem dL_law_253 : decode code 253 = .ok (.iaload, 1) := by decide +kernel
theorem dL_law_254 : decode code 254 = .ok (.aload_n 0, 1) := by decide +kernel
theorem dL_law_255 : decode code 255 = .ok (.iload_n 3, 1) := by decide +kernel
theorem dL_law_256 : decode code 256 = .ok (.iconst 3, 1) := by decide +kernel
theorem dL_law_257 : decode code 257 = .ok (.iadd, 1) := by decide +kernel
theorem dL_law_258 : decode code 258 = .ok (.iaload, 1) := by decide +kernel
theorem dL_law_259 : decode code 259 = .ok (.aload_n 0, 1) := by decide +kernel
theorem dL_law_260 : decode code 260 = .ok (.iload_n 3, 1) := by decide +kernel
theorem dL_law_261 : decode code 261 = .ok (.iconst 4, 1) := by decide +kernel
theorem dL_law_262 : decode code 262 = .ok (.iadd, 1) := by decide +kernel
theorem dL_law_263 : decode code 263 = .ok (.iaload, 1) := by decide +kernel
theorem dL_law_264 : decode code 264 = .ok (.ifCond .eq 7, 3) := by decide +kernel
theorem dL_law_267 : decode code 267 = .ok (.iconst 1, 1) := by decide +kernel
theorem dL_law_268 : decode code 268 = .ok (.goto 4, 3) := by decide +kernel
theorem dL_law_271 : decode code 271 = .ok (.iconst 0, 1) := by decide +kernel
theorem dL_law_272 : decode code 272 = .ok (.invokevirtual 32, 3) := by decide +kernel
theorem dL_law_275 : decode code 275 = .ok (.if_icmp .eq 226, 3) := by decide +kernel
theorem dL_law_278 : decode code 278 = .ok (.iconst 0, 1) := by decide +kernel
theorem dL_law_279 : decode code 279 = .ok (.ireturn, 1) := by decide +kernel
theorem dL_law_280 : decode code 280 = .ok (.aload_n 1, 1) := by decide +kernel
theorem dL_law_281 : decode code 281 = .ok (.aload_n 0, 1) := by decide +kernel
theorem dL_law_282 : decode code 282 = .ok (.iload_n 3, 1) := by decide +kernel
theorem dL_law_283 : decode code 283 = .ok (.iconst 1, 1) := by decide +kernel
theorem dL_law_284 : decode code 284 = .ok (.iadd, 1) := by decide +kernel
theorem dL_law_285 : decode code 285 = .ok (.iaload, 1) := by decide +kernel
theorem dL_law_286 : decode code 286 = .ok (.aload_n 0, 1) := by decide +kernel
theorem dL_law_287 : decode code 287 = .ok (.iload_n 3, 1) := by decide +kernel
theorem dL_law_288 : decode code 288 = .ok (.iconst 2, 1) := by decide +kernel
theorem dL_law_289 : decode code 289 = .ok (.iadd, 1) := by decide +kernel
theorem dL_law_290 : decode code 290 = .ok (.iaload, 1) := by decide +kernel
theorem dL_law_291 : decode code 291 = .ok (.aload_n 0, 1) := by decide +kernel
theorem dL_law_292 : decode code 292 = .ok (.iload_n 3, 1) := by decide +kernel
theorem dL_law_293 : decode code 293 = .ok (.iconst 3, 1) := by decide +kernel
theorem dL_law_294 : decode code 294 = .ok (.iadd, 1) := by decide +kernel
theorem dL_law_295 : decode code 295 = .ok (.iaload, 1) := by decide +kernel
theorem dL_law_296 : decode code 296 = .ok (.invokevirtual 33, 3) := by decide +kernel
theorem dL_law_299 : decode code 299 = .ok (.aload_n 2, 1) := by decide +kernel
theorem dL_law_300 : decode code 300 = .ok (.aload_n 0, 1) := by decide +kernel
theorem dL_law_301 : decode code 301 = .ok (.iload_n 3, 1) := by decide +kernel
theorem dL_law_302 : decode code 302 = .ok (.iconst 1, 1) := by decide +kernel
theorem dL_law_303 : decode code 303 = .ok (.iadd, 1) := by decide +kernel
theorem dL_law_304 : decode code 304 = .ok (.iaload, 1) := by decide +kernel
theorem dL_law_305 : decode code 305 = .ok (.aload_n 0, 1) := by decide +kernel
theorem dL_law_306 : decode code 306 = .ok (.iload_n 3, 1) := by decide +kernel
theorem dL_law_307 : decode code 307 = .ok (.iconst 2, 1) := by decide +kernel
theorem dL_law_308 : decode code 308 = .ok (.iadd, 1) := by decide +kernel
theorem dL_law_309 : decode code 309 = .ok (.iaload, 1) := by decide +kernel
theorem dL_law_310 : decode code 310 = .ok (.aload_n 0, 1) := by decide +kernel
theorem dL_law_311 : decode code 311 = .ok (.iload_n 3, 1) := by decide +kernel
theorem dL_law_312 : decode code 312 = .ok (.iconst 3, 1) := by decide +kernel
theorem dL_law_313 : decode code 313 = .ok (.iadd, 1) := by decide +kernel
theorem dL_law_314 : decode code 314 = .ok (.iaload, 1) := by decide +kernel
theorem dL_law_315 : decode code 315 = .ok (.invokevirtual 36, 3) := by decide +kernel
theorem dL_law_318 : decode code 318 = .ok (.if_icmp .eq 183, 3) := by decide +kernel
theorem dL_law_321 : decode code 321 = .ok (.iconst 0, 1) := by decide +kernel
theorem dL_law_322 : decode code 322 = .ok (.ireturn, 1) := by decide +kernel
theorem dL_law_323 : decode code 323 = .ok (.aload_n 1, 1) := by decide +kernel
theorem dL_law_324 : decode code 324 = .ok (.aload_n 0, 1) := by decide +kernel
theorem dL_law_325 : decode code 325 = .ok (.iload_n 3, 1) := by decide +kernel
theorem dL_law_326 : decode code 326 = .ok (.iconst 1, 1) := by decide +kernel
theorem dL_law_327 : decode code 327 = .ok (.iadd, 1) := by decide +kernel
theorem dL_law_328 : decode code 328 = .ok (.iaload, 1) := by decide +kernel
theorem dL_law_329 : decode code 329 = .ok (.invokevirtual 37, 3) := by decide +kernel
theorem dL_law_332 : decode code 332 = .ok (.aload_n 2, 1) := by decide +kernel
theorem dL_law_333 : decode code 333 = .ok (.aload_n 0, 1) := by decide +kernel
theorem dL_law_334 : decode code 334 = .ok (.iload_n 3, 1) := by decide +kernel
theorem dL_law_335 : decode code 335 = .ok (.iconst 1, 1) := by decide +kernel
theorem dL_law_336 : decode code 336 = .ok (.iadd, 1) := by decide +kernel
theorem dL_law_337 : decode code 337 = .ok (.iaload, 1) := by decide +kernel
theorem dL_law_338 : decode code 338 = .ok (.invokevirtual 41, 3) := by decide +kernel
theorem dL_law_341 : decode code 341 = .ok (.if_icmp .eq 160, 3) := by decide +kernel
theorem dL_law_344 : decode code 344 = .ok (.iconst 0, 1) := by decide +kernel
theorem dL_law_345 : decode code 345 = .ok (.ireturn, 1) := by decide +kernel
theorem dL_law_346 : decode code 346 = .ok (.aload_n 1, 1) := by decide +kernel
theorem dL_law_347 : decode code 347 = .ok (.aload_n 0, 1) := by decide +kernel
theorem dL_law_348 : decode code 348 = .ok (.iload_n 3, 1) := by decide +kernel
theorem dL_law_349 : decode code 349 = .ok (.iconst 1, 1) := by decide +kernel
theorem dL_law_350 : decode code 350 = .ok (.iadd, 1) := by decide +kernel
theorem dL_law_351 : decode code 351 = .ok (.iaload, 1) := by decide +kernel
theorem dL_law_352 : decode code 352 = .ok (.aload_n 0, 1) := by decide +kernel
theorem dL_law_353 : decode code 353 = .ok (.iload_n 3, 1) := by decide +kernel
theorem dL_law_354 : decode code 354 = .ok (.iconst 2, 1) := by decide +kernel
theorem dL_law_355 : decode code 355 = .ok (.iadd, 1) := by decide +kernel
theorem dL_law_356 : decode code 356 = .ok (.iaload, 1) := by decide +kernel
theorem dL_law_357 : decode code 357 = .ok (.invokevirtual 42, 3) := by decide +kernel
theorem dL_law_360 : decode code 360 = .ok (.aload_n 2, 1) := by decide +kernel
theorem dL_law_361 : decode code 361 = .ok (.aload_n 0, 1) := by decide +kernel
theorem dL_law_362 : decode code 362 = .ok (.iload_n 3, 1) := by decide +kernel
theorem dL_law_363 : decode code 363 = .ok (.iconst 1, 1) := by decide +kernel
theorem dL_law_364 : decode code 364 = .ok (.iadd, 1) := by decide +kernel
theorem dL_law_365 : decode code 365 = .ok (.iaload, 1) := by decide +kernel
theorem dL_law_366 : decode code 366 = .ok (.aload_n 0, 1) := by decide +kernel
theorem dL_law_367 : decode code 367 = .ok (.iload_n 3, 1) := by decide +kernel
theorem dL_law_368 : decode code 368 = .ok (.iconst 2, 1) := by decide +kernel
theorem dL_law_369 : decode code 369 = .ok (.iadd, 1) := by decide +kernel
theorem dL_law_370 : decode code 370 = .ok (.iaload, 1) := by decide +kernel
theorem dL_law_371 : decode code 371 = .ok (.invokevirtual 46, 3) := by decide +kernel
theorem dL_law_374 : decode code 374 = .ok (.if_icmp .eq 127, 3) := by decide +kernel
theorem dL_law_377 : decode code 377 = .ok (.iconst 0, 1) := by decide +kernel
theorem dL_law_378 : decode code 378 = .ok (.ireturn, 1) := by decide +kernel
theorem dL_law_379 : decode code 379 = .ok (.aload_n 1, 1) := by decide +kernel
theorem dL_law_380 : decode code 380 = .ok (.aload_n 0, 1) := by decide +kernel
theorem dL_law_381 : decode code 381 = .ok (.iload_n 3, 1) := by decide +kernel
theorem dL_law_382 : decode code 382 = .ok (.iconst 1, 1) := by decide +kernel
theorem dL_law_383 : decode code 383 = .ok (.iadd, 1) := by decide +kernel
theorem dL_law_384 : decode code 384 = .ok (.iaload, 1) := by decide +kernel
theorem dL_law_385 : decode code 385 = .ok (.aload_n 0, 1) := by decide +kernel
theorem dL_law_386 : decode code 386 = .ok (.iload_n 3, 1) := by decide +kernel
theorem dL_law_387 : decode code 387 = .ok (.iconst 2, 1) := by decide +kernel
theorem dL_law_388 : decode code 388 = .ok (.iadd, 1) := by decide +kernel
theorem dL_law_389 : decode code 389 = .ok (.iaload, 1) := by decide +kernel
theorem dL_law_390 : decode code 390 = .ok (.invokevirtual 47, 3) := by decide +kernel
theorem dL_law_393 : decode code 393 = .ok (.aload_n 2, 1) := by decide +kernel
theorem dL_law_394 : decode code 394 = .ok (.aload_n 0, 1) := by decide +kernel
theorem dL_law_395 : decode code 395 = .ok (.iload_n 3, 1) := by decide +kernel
theorem dL_law_396 : decode code 396 = .ok (.iconst 1, 1) := by decide +kernel
theorem dL_law_397 : decode code 397 = .ok (.iadd, 1) := by decide +kernel
theorem dL_law_398 : decode code 398 = .ok (.iaload, 1) := by decide +kernel
theorem dL_law_399 : decode code 399 = .ok (.aload_n 0, 1) := by decide +kernel
theorem dL_law_400 : decode code 400 = .ok (.iload_n 3, 1) := by decide +kernel
theorem dL_law_401 : decode code 401 = .ok (.iconst 2, 1) := by decide +kernel
theorem dL_law_402 : decode code 402 = .ok (.iadd, 1) := by decide +kernel
theorem dL_law_403 : decode code 403 = .ok (.iaload, 1) := by decide +kernel
theorem dL_law_404 : decode code 404 = .ok (.invokevirtual 50, 3) := by decide +kernel
theorem dL_law_407 : decode code 407 = .ok (.if_icmp .eq 94, 3) := by decide +kernel
theorem dL_law_410 : decode code 410 = .ok (.iconst 0, 1) := by decide +kernel
theorem dL_law_411 : decode code 411 = .ok (.ireturn, 1) := by decide +kernel
theorem dL_law_412 : decode code 412 = .ok (.aload_n 1, 1) := by decide +kernel
theorem dL_law_413 : decode code 413 = .ok (.aload_n 0, 1) := by decide +kernel
theorem dL_law_414 : decode code 414 = .ok (.iload_n 3, 1) := by decide +kernel
theorem dL_law_415 : decode code 415 = .ok (.iconst 1, 1) := by decide +kernel
theorem dL_law_416 : decode code 416 = .ok (.iadd, 1) := by decide +kernel
theorem dL_law_417 : decode code 417 = .ok (.iaload, 1) := by decide +kernel
theorem dL_law_418 : decode code 418 = .ok (.invokevirtual 51, 3) := by decide +kernel
theorem dL_law_421 : decode code 421 = .ok (.aload_n 2, 1) := by decide +kernel
theorem dL_law_422 : decode code 422 = .ok (.aload_n 0, 1) := by decide +kernel
theorem dL_law_423 : decode code 423 = .ok (.iload_n 3, 1) := by decide +kernel
theorem dL_law_424 : decode code 424 = .ok (.iconst 1, 1) := by decide +kernel
theorem dL_law_425 : decode code 425 = .ok (.iadd, 1) := by decide +kernel
theorem dL_law_426 : decode code 426 = .ok (.iaload, 1) := by decide +kernel
theorem dL_law_427 : decode code 427 = .ok (.invokevirtual 54, 3) := by decide +kernel
theorem dL_law_430 : decode code 430 = .ok (.if_icmp .eq 71, 3) := by decide +kernel
theorem dL_law_433 : decode code 433 = .ok (.iconst 0, 1) := by decide +kernel
theorem dL_law_434 : decode code 434 = .ok (.ireturn, 1) := by decide +kernel
theorem dL_law_435 : decode code 435 = .ok (.aload_n 1, 1) := by decide +kernel
theorem dL_law_436 : decode code 436 = .ok (.aload_n 0, 1) := by decide +kernel
theorem dL_law_437 : decode code 437 = .ok (.iload_n 3, 1) := by decide +kernel
theorem dL_law_438 : decode code 438 = .ok (.iconst 1, 1) := by decide +kernel
theorem dL_law_439 : decode code 439 = .ok (.iadd, 1) := by decide +kernel
theorem dL_law_440 : decode code 440 = .ok (.iaload, 1) := by decide +kernel
theorem dL_law_441 : decode code 441 = .ok (.aload_n 0, 1) := by decide +kernel
theorem dL_law_442 : decode code 442 = .ok (.iload_n 3, 1) := by decide +kernel
theorem dL_law_443 : decode code 443 = .ok (.iconst 2, 1) := by decide +kernel
theorem dL_law_444 : decode code 444 = .ok (.iadd, 1) := by decide +kernel
theorem dL_law_445 : decode code 445 = .ok (.iaload, 1) := by decide +kernel
theorem dL_law_446 : decode code 446 = .ok (.invokevirtual 55, 3) := by decide +kernel
theorem dL_law_449 : decode code 449 = .ok (.aload_n 2, 1) := by decide +kernel
theorem dL_law_450 : decode code 450 = .ok (.aload_n 0, 1) := by decide +kernel
theorem dL_law_451 : decode code 451 = .ok (.iload_n 3, 1) := by decide +kernel
theorem dL_law_452 : decode code 452 = .ok (.iconst 1, 1) := by decide +kernel
theorem dL_law_453 : decode code 453 = .ok (.iadd, 1) := by decide +kernel
theorem dL_law_454 : decode code 454 = .ok (.iaload, 1) := by decide +kernel
theorem dL_law_455 : decode code 455 = .ok (.aload_n 0, 1) := by decide +kernel
theorem dL_law_456 : decode code 456 = .ok (.iload_n 3, 1) := by decide +kernel
theorem dL_law_457 : decode code 457 = .ok (.iconst 2, 1) := by decide +kernel
theorem dL_law_458 : decode code 458 = .ok (.iadd, 1) := by decide +kernel
theorem dL_law_459 : decode code 459 = .ok (.iaload, 1) := by decide +kernel
theorem dL_law_460 : decode code 460 = .ok (.invokevirtual 58, 3) := by decide +kernel
theorem dL_law_463 : decode code 463 = .ok (.if_icmp .eq 38, 3) := by decide +kernel
theorem dL_law_466 : decode code 466 = .ok (.iconst 0, 1) := by decide +kernel
theorem dL_law_467 : decode code 467 = .ok (.ireturn, 1) := by decide +kernel
theorem dL_law_468 : decode code 468 = .ok (.aload_n 1, 1) := by decide +kernel
theorem dL_law_469 : decode code 469 = .ok (.aload_n 0, 1) := by decide +kernel
theorem dL_law_470 : decode code 470 = .ok (.iload_n 3, 1) := by decide +kernel
theorem dL_law_471 : decode code 471 = .ok (.iconst 1, 1) := by decide +kernel
theorem dL_law_472 : decode code 472 = .ok (.iadd, 1) := by decide +kernel
theorem dL_law_473 : decode code 473 = .ok (.iaload, 1) := by decide +kernel
theorem dL_law_474 : decode code 474 = .ok (.aload_n 0, 1) := by decide +kernel
theorem dL_law_475 : decode code 475 = .ok (.iload_n 3, 1) := by decide +kernel
theorem dL_law_476 : decode code 476 = .ok (.iconst 2, 1) := by decide +kernel
theorem dL_law_477 : decode code 477 = .ok (.iadd, 1) := by decide +kernel
theorem dL_law_478 : decode code 478 = .ok (.iaload, 1) := by decide +kernel
theorem dL_law_479 : decode code 479 = .ok (.invokevirtual 59, 3) := by decide +kernel
theorem dL_law_482 : decode code 482 = .ok (.aload_n 2, 1) := by decide +kernel
theorem dL_law_483 : decode code 483 = .ok (.aload_n 0, 1) := by decide +kernel
theorem dL_law_484 : decode code 484 = .ok (.iload_n 3, 1) := by decide +kernel
theorem dL_law_485 : decode code 485 = .ok (.iconst 1, 1) := by decide +kernel
theorem dL_law_486 : decode code 486 = .ok (.iadd, 1) := by decide +kernel
theorem dL_law_487 : decode code 487 = .ok (.iaload, 1) := by decide +kernel
theorem dL_law_488 : decode code 488 = .ok (.aload_n 0, 1) := by decide +kernel
theorem dL_law_489 : decode code 489 = .ok (.iload_n 3, 1) := by decide +kernel
theorem dL_law_490 : decode code 490 = .ok (.iconst 2, 1) := by decide +kernel
theorem dL_law_491 : decode code 491 = .ok (.iadd, 1) := by decide +kernel
theorem dL_law_492 : decode code 492 = .ok (.iaload, 1) := by decide +kernel
theorem dL_law_493 : decode code 493 = .ok (.invokevirtual 62, 3) := by decide +kernel
theorem dL_law_496 : decode code 496 = .ok (.if_icmp .eq 5, 3) := by decide +kernel
theorem dL_law_499 : decode code 499 = .ok (.iconst 0, 1) := by decide +kernel
theorem dL_law_500 : decode code 500 = .ok (.ireturn, 1) := by decide +kernel
theorem dL_law_501 : decode code 501 = .ok (.iinc 3 5, 3) := by decide +kernel
theorem dL_law_504 : decode code 504 = .ok (.goto (-486), 3) := by decide +kernel
theorem dL_law_507 : decode code 507 = .ok (.iconst 1, 1) := by decide +kernel
theorem dL_law_508 : decode code 508 = .ok (.ireturn, 1) := by decide +kernel
end
section
/-! CONTRACTS OVER A WHOLE WORLD: a method gets the list of all cells, and gives a list back; cells are known by their places -/
abbrev kx_T : Type := List (ClassId × FieldType)
/-- what links nest mates, and the array class of graphs: words that go from state to state -/
def kx_nest (U : State) : Prop := va_Nw (.methodLinkNest RX2 17 yX0_init RX2) U ∧ va_Nw (.methodLinkNest RX2 29 yX1_init RX2) U ∧ va_Nw (.methodLinkNest RX0 30 yX2_has RX2) U ∧ va_Nw (.methodLinkNest RX1 33 yX2_has RX2) U ∧ va_AO RX1 U
theorem kx_nest.warm {s U : State} (hW : s.WarmedH U.vm) (h : kx_nest s) : kx_nest U := ⟨va_Nw.warmM hW h.1, va_Nw.warmM hW h.2.1, va_Nw.warmM hW h.2.2.1, va_Nw.warmM hW h.2.2.2.1, va_AO.moved hW.alike h.2.2.2.2⟩
theorem kx_nest.call {U : State} {g : JFrame} {mk : MethodId} {a : Array Value} (h : kx_nest U) : kx_nest (U.calling g mk a) := ⟨va_Nw.same rfl rfl h.1, va_Nw.same rfl rfl h.2.1, va_Nw.same rfl rfl h.2.2.1, va_Nw.same rfl rfl h.2.2.2.1, va_AO.moved (u := U) (U := U.calling g mk a) (Vm.Alike.refl U.vm) h.2.2.2.2⟩
def kx_pre (D : va_G) (tys : kx_T) (ws : va_W) (sz : Nat) (av : List Value) : Array Value → State → Prop := va_Pc av (fun U => U.heap.size = sz ∧ va_P D vwCl ws U.heap ∧ va_K D vwCl tys U ∧ va_D (fun _ => True) ws ∧ kx_nest U)
def kx_B (D : va_G) (tys : kx_T) (A : Nat → Prop) (u : va_W) (t : State) : Prop := va_P D vwCl u t.heap ∧ va_K D vwCl tys t ∧ va_D A u
abbrev kx_i (l : Launch) (y : MethodName) (wds : List Cond) (rm : Room) (D : va_G) (tys : kx_T) (ws : va_W) (sz : Nat) (av : List Value) (post : Int32 → va_W → Prop) (mc ms : Nat) : Prop :=
  Met l y wds rm (kx_pre D tys ws sz av) (va_Qi post (kx_B D tys (va_A ws sz)) (va_A ws sz)) mc ms (va_A ws sz)
abbrev kx_v (l : Launch) (y : MethodName) (wds : List Cond) (rm : Room) (D : va_G) (tys : kx_T) (ws : va_W) (sz : Nat) (av : List Value) (post : va_W → Prop) (mc ms : Nat) : Prop :=
  Met l y wds rm (kx_pre D tys ws sz av) (va_Qv post (kx_B D tys (va_A ws sz)) (va_A ws sz)) mc ms (va_A ws sz)
abbrev kx_r (l : Launch) (y : MethodName) (wds : List Cond) (rm : Room) (D : va_G) (tys : kx_T) (ws : va_W) (sz : Nat) (av : List Value) (post : Nat × va_W → Prop) (mc ms : Nat) : Prop :=
  Met l y wds rm (kx_pre D tys ws sz av) (va_Qr post (fun u a t => a = u.1 ∧ kx_B D tys (va_A ws sz) u.2 t) (va_A ws sz)) mc ms (va_A ws sz)
section KX
variable {p : Program} {l : Launch} {e : Env} {R : Room} {s : State} {m : MethodId} {args : Array Value} {below : List Frame} {meth : Method} {c : Code} {H : Heap} {locs : List Loc} {cells slots : Nat} {Q : State → Prop}
variable {pc : Nat} {ls : Array Slot} {rest st0 : List Value} {a : Array Value} {A : Nat → Prop} {H0 : Heap} {mc ms : Nat} {D : va_G} {tys : kx_T} {ws : va_W}
theorem kx_free (hD : va_D A ws) (hS : va_S A H0 H locs) (hA : ∀ q, H0.size ≤ q → A q) : ∀ q, va_A ws H.size q → A q := by
  intro q h
  rcases h with ⟨k, e, hk⟩ | h
  · exact hD.2 k _ hk
  · exact hA q (Nat.le_trans hS.1 h)
theorem kx_goi {post : Int32 → va_W → Prop} (hr : va_Run p l e R s m args below meth c H locs cells slots mc ms (F0 m pc ls st0) rest (va_Qi post (kx_B D tys (va_A ws H.size)) (va_A ws H.size) a) (va_A ws H.size))
    (hD : va_D A ws) (hS : va_S A H0 H locs) (hA : ∀ q, H0.size ≤ q → A q)
    (kk : ∀ (r : Int32) (u : va_W) (H1 : Heap) (locs1 : List Loc), post r u → va_P D vwCl u H1 → va_D A u → va_S A H0 H1 locs1 → W p l e R s m args below meth c H1 locs1 (cells + mc) (slots + ms) Q (F0 m (pc + 3) ls (.int r :: rest))) : W p l e R s m args below meth c H locs cells slots Q (F0 m pc ls st0) := by
  have hFc := kx_free hD hS hA
  refine va_calli hr hS (fun q _ h => hFc q h) hFc (fun r u t H1 locs1 ht hvm hw hB hz1 hk1 hS1 => ?_)
  obtain ⟨hP1, _, hD1⟩ := hB
  rw [ht] at hP1
  exact kk r u H1 locs1 hw hP1 (hD1.weaken fun k q hk h => hFc _ h) hS1
theorem kx_gov {post : va_W → Prop} (hr : va_Run p l e R s m args below meth c H locs cells slots mc ms (F0 m pc ls st0) rest (va_Qv post (kx_B D tys (va_A ws H.size)) (va_A ws H.size) a) (va_A ws H.size))
    (hD : va_D A ws) (hS : va_S A H0 H locs) (hA : ∀ q, H0.size ≤ q → A q)
    (kk : ∀ (u : va_W) (H1 : Heap) (locs1 : List Loc), post u → va_P D vwCl u H1 → va_D A u → va_S A H0 H1 locs1 → W p l e R s m args below meth c H1 locs1 (cells + mc) (slots + ms) Q (F0 m (pc + 3) ls rest)) : W p l e R s m args below meth c H locs cells slots Q (F0 m pc ls st0) := by
  have hFc := kx_free hD hS hA
  refine va_callv hr hS (fun q _ h => hFc q h) hFc (fun u t H1 locs1 ht hvm hw hB hz1 hk1 hS1 => ?_)
  obtain ⟨hP1, _, hD1⟩ := hB
  rw [ht] at hP1
  exact kk u H1 locs1 hw hP1 (hD1.weaken fun k q hk h => hFc _ h) hS1
theorem kx_gor {post : Nat × va_W → Prop} (hr : va_Run p l e R s m args below meth c H locs cells slots mc ms (F0 m pc ls st0) rest (va_Qr post (fun u a t => a = u.1 ∧ kx_B D tys (va_A ws H.size) u.2 t) (va_A ws H.size) a) (va_A ws H.size))
    (hD : va_D A ws) (hS : va_S A H0 H locs) (hA : ∀ q, H0.size ≤ q → A q)
    (kk : ∀ (ra : Nat) (u : va_W) (H1 : Heap) (locs1 : List Loc), post (ra, u) → va_P D vwCl u H1 → va_D A u → va_S A H0 H1 locs1 → W p l e R s m args below meth c H1 locs1 (cells + mc) (slots + ms) Q (F0 m (pc + 3) ls (.ref ra :: rest))) : W p l e R s m args below meth c H locs cells slots Q (F0 m pc ls st0) := by
  have hFc := kx_free hD hS hA
  refine va_callr hr hS (fun q _ h => hFc q h) hFc (fun u ra t H1 locs1 ht hvm hw hB hz1 hk1 hS1 => ?_)
  obtain ⟨hra, hP1, _, hD1⟩ := hB
  rw [ht] at hP1
  subst hra
  exact kk u.1 u.2 H1 locs1 hw hP1 (hD1.weaken fun k q hk h => hFc _ h) hS1
theorem kx_blind {av : List Value} {sz : Nat} : FrameBlind (kx_pre D tys ws sz av) := fun a U g mk q => by
  obtain ⟨q0, q1, qP, qK, qD, qN⟩ := q
  exact ⟨q0, q1, qP, va_K.moved (u := U) (U := U.calling g mk a) (Vm.Alike.refl U.vm) qK, qD, qN.call⟩
theorem kx_preS {As : List Value} (hN : kx_nest s) (hK : va_K D vwCl tys s) (hP : va_P D vwCl ws H) (hD : va_D A ws) : PreS s H (kx_pre D tys ws H.size As) As :=
  ⟨kx_blind, fun U hU hW => ⟨rfl, by rw [hU], by rw [hU]; exact hP, va_K.moved hW.alike hK, hD.weaken fun _ _ _ _ => trivial, hN.warm hW⟩⟩
theorem kx_preV {As : List Value} {b q0 ci : Nat} {q : vw_C} {fs : List Value} (hN : kx_nest s) (hK : va_K D vwCl tys s) (hP : va_P D vwCl ws H) (hD : va_D A ws) (hc : vwCl[ci]? = some q) (he : ws[q0]? = some (b, .inr (ci, fs))) : PreV s H q.1 b (kx_pre D tys ws H.size (.ref b :: As)) As :=
  ⟨kx_blind, va_recv hK hP hc he, fun U hU hW => ⟨rfl, by rw [hU], by rw [hU]; exact hP, va_K.moved hW.alike hK, hD.weaken fun _ _ _ _ => trivial, hN.warm hW⟩⟩
theorem kx_iret {cc : ByteArray} {post : Int32 → va_W → Prop} {v : Int32} {ty : FieldType} (hx : p.tables.exec = Jvm.exec) (hb : c.code = cc) (hr : meth.sig.returnType = some ty) (hn : narrow ty (.int v) = .int v) (hlocks : meth.locks = false) (hK : va_K D vwCl tys s) (hP : va_P D vwCl ws H) (hD : va_D A ws) (hS : va_S A s.heap H locs)
    (hdg : decode cc pc = .ok (.ireturn, 1)) (hp : post v ws) : W p l e R s m args below meth c H locs cells slots (MQ below (va_Qi post (kx_B D tys A) A) args s cells slots A) (F0 m pc ls [.int v]) :=
  W.zret hx hb hr hn (fun t ht hW => ⟨⟨v, ws, rfl, hp, by rw [ht]; exact hP, va_K.moved hW.alike hK, hD⟩, hS.F ht⟩) hS.2.2 hdg hlocks
theorem kx_vret {cc : ByteArray} {post : va_W → Prop} (hx : p.tables.exec = Jvm.exec) (hb : c.code = cc) (hr : meth.sig.returnType = none) (hlocks : meth.locks = false) (hK : va_K D vwCl tys s) (hP : va_P D vwCl ws H) (hD : va_D A ws) (hS : va_S A s.heap H locs)
    (hdg : decode cc pc = .ok (.return_, 1)) (hp : post ws) : W p l e R s m args below meth c H locs cells slots (MQ below (va_Qv post (kx_B D tys A) A) args s cells slots A) (F0 m pc ls []) :=
  W.vret hx hb hr (fun t ht hW => ⟨⟨ws, rfl, hp, by rw [ht]; exact hP, va_K.moved hW.alike hK, hD⟩, hS.F ht⟩) hS.2.2 hdg hlocks
theorem kx_rret {cc : ByteArray} {post : Nat × va_W → Prop} {v : Nat} {rt : FieldType} (hx : p.tables.exec = Jvm.exec) (hb : c.code = cc) (hr : meth.sig.returnType = some rt) (hrt : (∃ n, rt = .object n) ∨ ∃ t, rt = .array t) (hlocks : meth.locks = false) (hK : va_K D vwCl tys s) (hP : va_P D vwCl ws H) (hD : va_D A ws) (hS : va_S A s.heap H locs)
    (hdg : decode cc pc = .ok (.areturn, 1)) (hp : post (v, ws)) : W p l e R s m args below meth c H locs cells slots (MQ below (va_Qr post (fun u a t => a = u.1 ∧ kx_B D tys A u.2 t) A) args s cells slots A) (F0 m pc ls [.ref v]) :=
  W.aret hx hb hr hrt (Or.inr ⟨v, rfl⟩) (fun t ht hW => ⟨⟨(v, ws), v, rfl, hp, rfl, by rw [ht]; exact hP, va_K.moved hW.alike hK, hD⟩, hS.F ht⟩) hS.2.2 hdg hlocks
end KX
/-- what a method's body starts with -/
theorem kx_of {l : Launch} {y : MethodName} {rm : Room} {D : va_G} {tys : kx_T} {ws : va_W} {sz : Nat} {av : List Value} {Qf : (Nat → Prop) → Array Value → State → Outcome → State → Prop} {mc ms : Nat} {cc : ByteArray} {maxL : Nat} {ret : Option FieldType}
    (hy : plainName y.cls = true) (hl : (lg_sl av).length ≤ maxL)
    (body : ∀ (p : Program) (e : Env) (s : State) (m : MethodId) (below : List Frame) (meth : Method) (c : Code) (A : Nat → Prop) (ls : Array Slot), p.tables.exec = Jvm.exec → c.code = cc → c.maxLocals = maxL → s.vm.findClass y.cls = some m.cls → (∀ w ∈ lw_gd, w.before av.toArray s = true) → meth.sig.returnType = ret → meth.locks = false → meth.name = y.name → kx_nest s → va_K D vwCl tys s → va_P D vwCl ws s.heap → va_D A ws → va_S A s.heap s.heap [] → (∀ q, s.heap.size ≤ q → A q) → lv_has ls maxL (lv_args 0 av) →
      W p l e rm s m av.toArray below meth c s.heap [] 0 0 (MQ below (Qf A) av.toArray s mc ms A) (F0 m 0 ls [])) : Met l y (Cond.code y cc maxL ret :: lw_gd) rm (kx_pre D tys ws sz av) (Qf (va_A ws sz)) mc ms (va_A ws sz) := by
  refine Met.ofW (cc := cc) (maxL := maxL) (ret := ret) hy rfl ?_
  intro p e s m args below meth c s₁ B hml hv
  obtain ⟨rfl, hsz, hP, hK, hD0, hN⟩ := hv
  subst hsz
  have hD := hD0.self (sz := s.heap.size)
  have hA : ∀ q : Nat, s.heap.size ≤ q → va_A ws s.heap.size q := fun q h => Or.inr h
  have hts := atoms_spec (ws := Cond.code y cc maxL ret :: lw_gd) B.pre
  rw [lg_entry_eq]
  exact body p e s m below meth c _ _ B.exec B.bytes hml (findClass_of_methodNamed B.named) (fun w h => hts w (List.mem_cons_of_mem _ h)) B.returns B.notSynchronized (name_of_methodNamed B.named B.method).1 hN hK hP hD va_S.rf hA (lv_entry av hl)
/-- the words of a callee: all the tables' -/
theorem kg_C {y : MethodName} {cc : ByteArray} {n : Nat} {r : Option FieldType} (h : Cond.code y cc n r ∈ lw_gd) : GoodIn lw_gd (Cond.code y cc n r :: lw_gd) := fun w hw => by
  have h1 : w ∈ lw_gd := (List.mem_cons.mp hw).elim (fun e => e ▸ h) id
  exact ⟨h1, good_of_word (List.mem_filter.mp h1).2⟩
theorem kg_B {own : String} {idx : Nat} {y : MethodName} {cc : ByteArray} {maxL k : Nat} {r : Option FieldType} {rm R : Room} {mc ms : Nat} {s : State} {args : Array Value} (hts : ∀ w ∈ lw_gd, w.before args s = true) (hc : Cond.code y cc maxL r ∈ lw_gd) (hl : Cond.methodLink own idx y ∈ lw_gd) (hi : Cond.initialized y.cls ∈ lw_gd)
    (hd : y.cls ≠ "java/lang/invoke/MethodHandle" ∧ y.cls ≠ "java/lang/invoke/VarHandle" ∧ (parseMethodDescriptor y.desc).map (fun d => d.parameters.length) = some k) (hrc : rm.cells = mc) (hrs : rm.slots = ms) (hR : rm.frames + 1 ≤ R.frames ∧ 8 + (maxL + 11) + rm.locals ≤ R.locals) : CallB R s args own idx y cc maxL r (Cond.code y cc maxL r :: lw_gd) rm mc ms k :=
  callB_of k hts (kg_C hc) rfl hrc hrs (hts _ hi) (hts _ hl) hd hR
theorem kg_N {own host : String} {idx : Nat} {y : MethodName} {cc : ByteArray} {maxL k : Nat} {r : Option FieldType} {rm R : Room} {mc ms : Nat} {s : State} {args : Array Value} (hts : ∀ w ∈ lw_gd, w.before args s = true) (hc : Cond.code y cc maxL r ∈ lw_gd) (hl : va_Nw (.methodLinkNest own idx y host) s) (hi : Cond.initialized y.cls ∈ lw_gd)
    (hd : y.cls ≠ "java/lang/invoke/MethodHandle" ∧ y.cls ≠ "java/lang/invoke/VarHandle" ∧ (parseMethodDescriptor y.desc).map (fun d => d.parameters.length) = some k) (hrc : rm.cells = mc) (hrs : rm.slots = ms) (hR : rm.frames + 1 ≤ R.frames ∧ 8 + (maxL + 11) + rm.locals ≤ R.locals) : va_CN R s args own idx y host cc maxL r (Cond.code y cc maxL r :: lw_gd) rm mc ms k :=
  va_cnB k hts (kg_C hc) rfl hrc hrs hl (hts _ hi) hd hR
/-- the classes of arrays -/
abbrev tyL (k : Nat → ClassId) : kx_T := [(k 0, .int), (k 1, .object RX1), (k 2, .boolean), (k 3, .byte)]
/-- worlds that are the same but at some places -/
def kx_fr (ws ws' : va_W) (P : Nat → Prop) : Prop := ∀ k, ¬ P k → ws'[k]? = ws[k]?
theorem kx_fr_rf (ws : va_W) (P : Nat → Prop) : kx_fr ws ws P := fun _ _ => rfl
theorem kx_fr_tr {ws ws' ws'' : va_W} {P : Nat → Prop} (h : kx_fr ws ws' P) (k : kx_fr ws' ws'' P) : kx_fr ws ws'' P := fun i hi => (k i hi).trans (h i hi)
theorem kx_fr_mono {ws ws' : va_W} {P P' : Nat → Prop} (h : kx_fr ws ws' P) (hp : ∀ k, P k → P' k) : kx_fr ws ws' P' := fun i hi => h i fun q => hi (hp i q)
theorem kx_fr_set {ws : va_W} {q : Nat} {x : Nat × va_E} {P : Nat → Prop} (hq : P q) : kx_fr ws (ws.set q x) P := fun i hi => by
  rw [List.getElem?_set_ne (fun e => hi (by rw [← e]; exact hq))]
theorem kx_set_self {ws : va_W} {q : Nat} {x y : Nat × va_E} (h : ws[q]? = some y) : (ws.set q x)[q]? = some x := by
  rw [List.getElem?_set_self (List.getElem?_eq_some_iff.mp h).1]
theorem kx_set_ne {ws : va_W} {q r : Nat} {x y : Nat × va_E} (h : ws[r]? = some y) (hn : q ≠ r) : (ws.set q x)[r]? = some y := by
  rw [List.getElem?_set_ne hn]; exact h
end
section
/-! NUMBERS AS INTS, BITS -/
theorem kb_and (a b : Nat) : nI a &&& nI b = nI (a &&& b) := by
  apply Int32.toBitVec_inj.1
  show BitVec.ofNat 32 a &&& BitVec.ofNat 32 b = BitVec.ofNat 32 (a &&& b)
  apply BitVec.eq_of_getLsbD_eq
  intro i hi
  simp [hi]
theorem kb_xor (a b : Nat) : nI a ^^^ nI b = nI (a ^^^ b) := by
  apply Int32.toBitVec_inj.1
  show BitVec.ofNat 32 a ^^^ BitVec.ofNat 32 b = BitVec.ofNat 32 (a ^^^ b)
  apply BitVec.eq_of_getLsbD_eq
  intro i hi
  simp [hi]
theorem kb_or (a b : Nat) : nI a ||| nI b = nI (a ||| b) := by
  apply Int32.toBitVec_inj.1
  show BitVec.ofNat 32 a ||| BitVec.ofNat 32 b = BitVec.ofNat 32 (a ||| b)
  apply BitVec.eq_of_getLsbD_eq
  intro i hi
  simp [hi]
theorem kb_sl : ∀ n, n < 32 → ((nI n &&& 31).toBitVec.smod 32).toNat = n := by decide +kernel
theorem kb_shl {n e : Nat} (he : e < 32) (h : n * 2 ^ e < 2 ^ 32) : nI n <<< (nI e &&& 31) = nI (n * 2 ^ e) := pk_shlN _ e (kb_sl e he) h
theorem kb_one {e : Nat} (he : e < 31) : (1 : Int32) <<< (nI e &&& 31) = nI (2 ^ e) := by
  have h : 2 ^ e < 2 ^ 31 := Nat.pow_lt_pow_right (by omega) he
  have := kb_shl (n := 1) (e := e) (by omega) (by omega)
  rw [Nat.one_mul] at this
  exact this
theorem kb_shr {n e : Nat} (hn : n < 2 ^ 31) (he : e < 32) : nI n >>> (nI e &&& 31) = nI (n / 2 ^ e) := pk_shrN hn _ e (kb_sl e he)
theorem kb_has {S e : Nat} (hS : S < 2 ^ 31) (he : e < 32) : (nI S >>> (nI e &&& 31)) &&& 1 = nI (if S.testBit e = true then 1 else 0) := by
  rw [kb_shr hS he]
  show nI (S / 2 ^ e) &&& nI 1 = _
  rw [kb_and, Nat.and_one_is_mod, Nat.testBit_eq_decide_div_mod_eq]
  generalize S / 2 ^ e = z
  by_cases c : z % 2 = 1
  · simp [c]
  · have : z % 2 = 0 := by omega
    simp [this]
theorem kb_all {c : Nat} (hc : c ≤ 30) : ((1 : Int32) <<< (nI c &&& 31)) - 1 = nI (cf_full c) := by
  rw [kb_one (by omega)]
  have h : 1 ≤ 2 ^ c := Nat.one_le_two_pow
  exact pk_sub h
theorem kb_m1 : (-1 : Int32) = nI (2 ^ 32 - 1) := by decide +kernel
theorem kb_not {U e : Nat} (hU : U < 2 ^ 31) : nI U &&& (nI (2 ^ e) ^^^ (-1)) = nI (cf_diff U (2 ^ e)) := by
  rw [kb_m1, kb_xor, kb_and]
  congr 1
  refine Nat.eq_of_testBit_eq fun i => ?_
  rw [Nat.testBit_and, Nat.testBit_xor, cf_diff_bit, cf_one_bit, Nat.testBit_two_pow_sub_one]
  by_cases c : i < 32
  · simp [c]
  · rw [Nat.testBit_lt_two_pow (Nat.lt_of_lt_of_le hU (Nat.pow_le_pow_right (by omega) (show 31 ≤ i by omega)))]
    rfl
theorem kb_min {a b : Nat} (ha : a < 2 ^ 31) (hb : b < 2 ^ 31) : (if nI b < nI a then nI b else nI a) = nI (if b < a then b else a) := by
  by_cases c : b < a
  · rw [if_pos c, if_pos ((nI_ltI hb ha).mpr c)]
  · rw [if_neg c, if_neg fun q => c ((nI_ltI hb ha).mp q)]
theorem kb_eq0 {a : Nat} (ha : a < 2 ^ 31) : nI a = 0 ↔ a = 0 := by rw [← nI_0, nI_eq ha (by omega)]
theorem kb_bool (b : Bool) : nI (if b = true then 1 else 0) = 0 ↔ b = false := by cases b <;> decide
/-! ARRAYS OF NUMBERS AND OF INTS BY A NUMBER'S PLACE -/
theorem kx_updN (g : Nat → Nat) (i x : Nat) : upd (fun j => nI (g j)) i (nI x) = fun j => nI (fo_up g i x j) := by
  funext j
  unfold upd fo_up
  by_cases c : j = i
  · simp [c]
  · simp [c]
section KXA
variable {p : Program} {l : Launch} {e : Env} {R : Room} {s : State} {m : MethodId} {args : Array Value} {below : List Frame} {meth : Method} {c : Code} {H : Heap} {locs : List Loc} {cells slots : Nat} {Q : State → Prop}
variable {pc : Nat} {ls : Array Slot} {rest : List Value} {A : Nat → Prop} {H0 : Heap} {D : va_G} {tys : kx_T} {ws : va_W} {cc : ByteArray} {a : Nat} {cI : ClassId} {n : Nat}
theorem kx_nald (hx : p.tables.exec = Jvm.exec) (hb : c.code = cc) (hK : va_K D vwCl tys s) (hP : va_P D vwCl ws H) (q0 : Nat) {g : Nat → Nat} (ha : ws[q0]? = some (a, .inl (cI, n, .inl (fun j => nI (g j))))) (ht : tys[0]? = some (cI, .int)) {i : Nat} (hi : i < n) (hn : n < 2 ^ 31) (hdg : decode cc pc = .ok (.iaload, 1))
    (kk : W p l e R s m args below meth c H locs cells slots Q (F0 m (pc + 1) ls (.int (nI (g i)) :: rest))) : W p l e R s m args below meth c H locs cells slots Q (F0 m pc ls (.int (nI i) :: .ref a :: rest)) := by
  refine va_iald hx hb hK hP q0 0 ha ht (vp_in_nI hi hn) hdg ?_
  rw [nI_clamp (Nat.lt_trans hi hn)]
  exact kk
theorem kx_iald (hx : p.tables.exec = Jvm.exec) (hb : c.code = cc) (hK : va_K D vwCl tys s) (hP : va_P D vwCl ws H) (q0 : Nat) {f : Nat → Int32} (ha : ws[q0]? = some (a, .inl (cI, n, .inl f))) (ht : tys[0]? = some (cI, .int)) {i : Nat} (hi : i < n) (hn : n < 2 ^ 31) (hdg : decode cc pc = .ok (.iaload, 1))
    (kk : W p l e R s m args below meth c H locs cells slots Q (F0 m (pc + 1) ls (.int (f i) :: rest))) : W p l e R s m args below meth c H locs cells slots Q (F0 m pc ls (.int (nI i) :: .ref a :: rest)) := by
  refine va_iald hx hb hK hP q0 0 ha ht (vp_in_nI hi hn) hdg ?_
  rw [nI_clamp (Nat.lt_trans hi hn)]
  exact kk
theorem kx_nast (hx : p.tables.exec = Jvm.exec) (hb : c.code = cc) (hK : va_K D vwCl tys s) (hP : va_P D vwCl ws H) (hD : va_D A ws) (hS : va_S A H0 H locs) (q0 : Nat) {g : Nat → Nat} (ha : ws[q0]? = some (a, .inl (cI, n, .inl (fun j => nI (g j))))) (ht : tys[0]? = some (cI, .int)) {i x : Nat} (hi : i < n) (hn : n < 2 ^ 31) (hdg : decode cc pc = .ok (.iastore, 1))
    (kk : ∀ (H1 : Heap) (locs1 : List Loc), va_P D vwCl (ws.set q0 (a, .inl (cI, n, .inl (fun j => nI (fo_up g i x j))))) H1 → va_D A (ws.set q0 (a, .inl (cI, n, .inl (fun j => nI (fo_up g i x j))))) → va_S A H0 H1 locs1 → W p l e R s m args below meth c H1 locs1 cells slots Q (F0 m (pc + 1) ls rest)) : W p l e R s m args below meth c H locs cells slots Q (F0 m pc ls (.int (nI x) :: .int (nI i) :: .ref a :: rest)) := by
  refine va_iast hx hb hK hP hD hS q0 0 ha ht (vp_in_nI hi hn) hdg ?_
  rw [nI_clamp (Nat.lt_trans hi hn), kx_updN]
  exact kk
theorem kx_iast (hx : p.tables.exec = Jvm.exec) (hb : c.code = cc) (hK : va_K D vwCl tys s) (hP : va_P D vwCl ws H) (hD : va_D A ws) (hS : va_S A H0 H locs) (q0 : Nat) {f : Nat → Int32} (ha : ws[q0]? = some (a, .inl (cI, n, .inl f))) (ht : tys[0]? = some (cI, .int)) {i : Nat} {x : Int32} (hi : i < n) (hn : n < 2 ^ 31) (hdg : decode cc pc = .ok (.iastore, 1))
    (kk : ∀ (H1 : Heap) (locs1 : List Loc), va_P D vwCl (ws.set q0 (a, .inl (cI, n, .inl (upd f i x)))) H1 → va_D A (ws.set q0 (a, .inl (cI, n, .inl (upd f i x)))) → va_S A H0 H1 locs1 → W p l e R s m args below meth c H1 locs1 cells slots Q (F0 m (pc + 1) ls rest)) : W p l e R s m args below meth c H locs cells slots Q (F0 m pc ls (.int x :: .int (nI i) :: .ref a :: rest)) := by
  refine va_iast hx hb hK hP hD hS q0 0 ha ht (vp_in_nI hi hn) hdg ?_
  rw [nI_clamp (Nat.lt_trans hi hn)]
  exact kk
theorem kx_qald (hx : p.tables.exec = Jvm.exec) (hb : c.code = cc) (hK : va_K D vwCl tys s) (hP : va_P D vwCl ws H) (q0 t0 : Nat) {C : String} {f : Nat → Option Nat} (ha : ws[q0]? = some (a, .inl (cI, n, .inr (.inr (.inr (.inr f)))))) (ht : tys[t0]? = some (cI, .object C)) {i r : Nat} (hi : i < n) (hn : n < 2 ^ 31) (hf : f i = some r) (hdg : decode cc pc = .ok (.aaload, 1))
    (kk : W p l e R s m args below meth c H locs cells slots Q (F0 m (pc + 1) ls (.ref r :: rest))) : W p l e R s m args below meth c H locs cells slots Q (F0 m pc ls (.int (nI i) :: .ref a :: rest)) := by
  refine va_aldq hx hb hK hP q0 t0 ha ht (vp_in_nI hi hn) hdg ?_
  rw [nI_clamp (Nat.lt_trans hi hn), hf]
  exact kk
end KXA
end
section
/-! WHERE THE FORESTS AND THE GRAPHS LIE -/
/-- a forest at place q: its object, its rows, its parts -/
def atF (w : va_W) (q : Nat) (k0 : Nat → ClassId) (f r t : Nat) (rows parts : Nat → Nat) (k : Nat) : Prop :=
  w[q]? = some (f, .inr (0, [.ref r, .ref t, .int (nI k)])) ∧ w[q + 1]? = some (r, .inl (k0 0, 12, .inl (fun j => nI (rows j)))) ∧ w[q + 2]? = some (t, .inl (k0 0, 12, .inl (fun j => nI (parts j))))
/-- a graph at place q: its object, its lines, its weights -/
def atG (w : va_W) (q : Nat) (k0 : Nat → ClassId) (g a b : Nat) (L : Nat → Nat) (f : Nat → Int32) (n : Nat) (v o : Int32) : Prop :=
  w[q]? = some (g, .inr (1, [.ref a, .ref b, .int (nI n), .int v, .int o])) ∧ w[q + 1]? = some (a, .inl (k0 0, 12, .inl (fun j => nI (L j)))) ∧ w[q + 2]? = some (b, .inl (k0 0, 12, .inl f))
theorem atF_fr {w u : va_W} {q : Nat} {k0 : Nat → ClassId} {f r t : Nat} {rows parts : Nat → Nat} {k : Nat} {P : Nat → Prop} (h : atF w q k0 f r t rows parts k) (hf : kx_fr w u P) (hp : ¬ P q ∧ ¬ P (q + 1) ∧ ¬ P (q + 2)) : atF u q k0 f r t rows parts k :=
  ⟨by rw [hf _ hp.1]; exact h.1, by rw [hf _ hp.2.1]; exact h.2.1, by rw [hf _ hp.2.2]; exact h.2.2⟩
theorem atG_fr {w u : va_W} {q : Nat} {k0 : Nat → ClassId} {g a b : Nat} {L : Nat → Nat} {f : Nat → Int32} {n : Nat} {v o : Int32} {P : Nat → Prop} (h : atG w q k0 g a b L f n v o) (hf : kx_fr w u P) (hp : ¬ P q ∧ ¬ P (q + 1) ∧ ¬ P (q + 2)) : atG u q k0 g a b L f n v o :=
  ⟨by rw [hf _ hp.1]; exact h.1, by rw [hf _ hp.2.1]; exact h.2.1, by rw [hf _ hp.2.2]; exact h.2.2⟩
/-- bounds of rests and ways -/
theorem fo_rest_lt {rows : Nat → Nat} {v k : Nat} (hv : v < 2 ^ 24) (h : ∀ i, i < k → rows i < 2 ^ 24) : ∀ i, i ≤ k → fo_rest rows v i < 2 ^ 24 := by
  intro i
  induction i with
  | zero => intro _; exact hv
  | succ i ih =>
    intro hi
    have h1 := ih (by omega)
    show fo_step _ _ < _
    unfold fo_step
    split
    · exact Nat.xor_lt_two_pow h1 (h i (by omega))
    · exact h1
theorem fo_way_lt {rows parts : Nat → Nat} {v k : Nat} (h : ∀ i, i < k → parts i < 2 ^ 12) : ∀ i, i ≤ k → fo_way rows parts v i < 2 ^ 12 := by
  intro i
  induction i with
  | zero => intro _; exact Nat.two_pow_pos 12
  | succ i ih =>
    intro hi
    have h1 := ih (by omega)
    simp only [fo_way]
    split
    · exact Nat.xor_lt_two_pow h1 (h i (by omega))
    · exact h1
end
section
theorem fo_fill_row {L : Nat → Nat} {n S : Nat} {rows parts : Nat → Nat} (hL : ∀ e, e < n → L e < 2 ^ 24) : ∀ m, m ≤ n → ∀ i, i < (fo_fill L S rows parts m).2.2 → (fo_fill L S rows parts m).1 i < 2 ^ 24 := by
  intro m
  induction m with
  | zero => intro _ i hi; exact absurd hi (Nat.not_lt_zero i)
  | succ m ih =>
    intro hm
    have h1 := ih (by omega)
    simp only [fo_fill]
    split
    · unfold fo_takes
      split
      · exact h1
      · intro i hi
        dsimp only at hi ⊢
        rcases Nat.lt_or_ge i (fo_fill L S rows parts m).2.2 with q | q
        · rw [fo_up_lt _ _ q]; exact h1 i q
        · have : i = (fo_fill L S rows parts m).2.2 := by omega
          rw [this, fo_up_self]
          exact fo_rest_lt (hL m (by omega)) h1 _ (Nat.le_refl _)
    · exact h1
theorem fo_fill_bd {L : Nat → Nat} {n S : Nat} {rows parts : Nat → Nat} (hn : n ≤ 12) (hL : ∀ e, e < n → L e < 2 ^ 24) (m : Nat) (hm : m ≤ n) : (fo_fill L S rows parts m).2.2 ≤ 12 ∧ (∀ j, j < (fo_fill L S rows parts m).2.2 → (fo_fill L S rows parts m).1 j < 2 ^ 24) ∧ (m < n → fo_rest (fo_fill L S rows parts m).1 (L m) (fo_fill L S rows parts m).2.2 ≠ 0 → (fo_fill L S rows parts m).2.2 < 12) := by
  obtain ⟨B, h1, _, _, _⟩ := fo_fill_ok (L := L) (n := n) (S := S) (rows := rows) (parts := parts) m hm
  refine ⟨?_, fo_fill_row hL m hm, fun h h0 => ?_⟩
  · have := cf_card_le n B
    rw [h1.2.2.1] at this; omega
  · have := fo_room h1 h h0
    omega
theorem fo_fill_in {L : Nat → Nat} {S : Nat} {rows parts : Nat → Nat} {m : Nat} (h : S.testBit m = true) : fo_fill L S rows parts (m + 1) = fo_takes L m (fo_fill L S rows parts m) := by
  simp only [fo_fill]; rw [if_pos h]
theorem fo_fill_out {L : Nat → Nat} {S : Nat} {rows parts : Nat → Nat} {m : Nat} (h : S.testBit m = false) : fo_fill L S rows parts (m + 1) = fo_fill L S rows parts m := by
  simp only [fo_fill]; rw [if_neg (by rw [h]; simp)]
theorem fo_takes_no {L : Nat → Nat} {e : Nat} {q : fo_St} (h : fo_rest q.1 (L e) q.2.2 = 0) : fo_takes L e q = q := by unfold fo_takes; rw [if_pos h]
theorem fo_takes_yes {L : Nat → Nat} {e : Nat} {q : fo_St} (h : fo_rest q.1 (L e) q.2.2 ≠ 0) : fo_takes L e q = (fo_up q.1 q.2.2 (fo_rest q.1 (L e) q.2.2), fo_up q.2.1 q.2.2 (fo_way q.1 q.2.1 (L e) q.2.2 ^^^ 2 ^ e), q.2.2 + 1) := by unfold fo_takes; rw [if_neg h]
end
section
theorem tw_min : Cond.code Lib.Math.min.name Lib.Math.min.code 2 (some .int) ∈ lw_gd := List.mem_filter.mpr ⟨List.mem_of_getElem? (i := 154) (by decide +kernel), by decide +kernel⟩
theorem tw_obj : Cond.code Lib.objectInit ⟨#[0xb1]⟩ 1 none ∈ lw_gd := List.mem_filter.mpr ⟨List.mem_of_getElem? (i := 32) (by decide +kernel), by decide +kernel⟩

set_option maxHeartbeats 4000000 in
set_option maxRecDepth 100000 in
/-- has(set, e): is the edge in the set -/
theorem c_has (l : Launch) (D : va_G) (k0 : Nat → ClassId) (w0 : va_W) (sz : Nat) (S e9 : Nat) (hSb : S < 2 ^ 31) (he : e9 < 32) : kx_i l yX2_has wsX2_has ({ frames := 0, cells := 0, slots := 0, locals := 0 } : Room) D (tyL k0) w0 sz [.int (nI S), .int (nI e9)] (fun (r : Int32) (u : va_W) => r = nI (if S.testBit e9 = true then 1 else 0) ∧ u = w0) 0 0 := by
  refine kx_of (Qf := fun A => va_Qi (fun (r : Int32) (u : va_W) => r = nI (if S.testBit e9 = true then 1 else 0) ∧ u = w0) (kx_B D (tyL k0) A) A) (cc := cX2_has) (maxL := 2) (ret := (some .boolean)) (by decide +kernel) (Nat.le_of_ble_eq_true rfl) ?_
  intro p e s m below meth c A ls hx hb hml hown hts hr hlocks hnm hN hK hP hD hS hA hl
  have hown : s.vm.findClass RX2 = some m.cls := hown
  have hl : lv_has ls 2 [(0, .int (nI S)), (1, .int (nI e9))] := hl
  skip
  refine lv_iload_n hx hb dX2_has_0 rfl (lv_at hl 0 rfl) ?_
  refine lv_iload_n hx hb dX2_has_1 rfl (lv_at hl 1 rfl) ?_
  refine lv_ishr hx hb dX2_has_2 ?_
  refine lv_iconst (v := 1) hx hb dX2_has_3 (by decide +kernel) ?_
  refine lv_iand hx hb dX2_has_4 ?_
  refine lv_topi (fun z_1 ez_1 => ?_)
  have ez_1 : z_1 = nI (if S.testBit e9 = true then 1 else 0) := by rw [ez_1]; exact kb_has hSb he
  subst ez_1
  refine lv_if_eq (tgt := 12) hx hb dX2_has_5 (by decide) (fun c_5 => ?_) (fun c_5 => ?_)
  · skip
    have hc : S.testBit e9 = false := (kb_bool _).mp c_5
    refine lv_iconst (v := nI 0) hx hb dX2_has_12 (by decide +kernel) ?_
    exact kx_iret (v := nI 0) hx hb hr rfl hlocks hK hP hD hS dX2_has_13 (⟨by rw [hc]; rfl, rfl⟩)
  · skip
    have hc : S.testBit e9 = true := by
      cases hq : S.testBit e9 with
      | true => rfl
      | false => exact absurd ((kb_bool _).mpr hq) c_5
    refine lv_iconst (v := nI 1) hx hb dX2_has_8 (by decide +kernel) ?_
    refine lv_goto (tgt := 13) hx hb dX2_has_9 (by decide) ?_
    exact kx_iret (v := nI 1) hx hb hr rfl hlocks hK hP hD hS dX2_has_13 (⟨by rw [hc]; rfl, rfl⟩)

set_option maxHeartbeats 4000000 in
set_option maxRecDepth 100000 in
/-- all(count) -/
theorem c_all (l : Launch) (D : va_G) (k0 : Nat → ClassId) (w0 : va_W) (sz : Nat) (n : Nat) (hn : n ≤ 12) : kx_i l yX2_all wsX2_all ({ frames := 0, cells := 0, slots := 0, locals := 0 } : Room) D (tyL k0) w0 sz [.int (nI n)] (fun (r : Int32) (u : va_W) => r = nI (cf_full n) ∧ u = w0) 0 0 := by
  refine kx_of (Qf := fun A => va_Qi (fun (r : Int32) (u : va_W) => r = nI (cf_full n) ∧ u = w0) (kx_B D (tyL k0) A) A) (cc := cX2_all) (maxL := 1) (ret := (some .int)) (by decide +kernel) (Nat.le_of_ble_eq_true rfl) ?_
  intro p e s m below meth c A ls hx hb hml hown hts hr hlocks hnm hN hK hP hD hS hA hl
  have hown : s.vm.findClass RX2 = some m.cls := hown
  have hl : lv_has ls 1 [(0, .int (nI n))] := hl
  skip
  refine lv_iconst (v := 1) hx hb dX2_all_0 (by decide +kernel) ?_
  refine lv_iload_n hx hb dX2_all_1 rfl (lv_at hl 0 rfl) ?_
  refine lv_ishl hx hb dX2_all_2 ?_
  refine lv_iconst (v := 1) hx hb dX2_all_3 (by decide +kernel) ?_
  refine lv_isub hx hb dX2_all_4 ?_
  refine lv_topi (fun z_1 ez_1 => ?_)
  have ez_1 : z_1 = nI (cf_full n) := by rw [ez_1]; exact kb_all (by omega)
  subst ez_1
  exact kx_iret (v := nI (cf_full n)) hx hb hr rfl hlocks hK hP hD hS dX2_all_5 (⟨rfl, rfl⟩)

set_option maxHeartbeats 4000000 in
set_option maxRecDepth 100000 in
/-- isGraph(g) -/
theorem c_isGraph (l : Launch) (D : va_G) (k0 : Nat → ClassId) (w0 : va_W) (sz : Nat) (x : Int32) : kx_i l yX2_isGraph wsX2_isGraph ({ frames := 0, cells := 0, slots := 0, locals := 0 } : Room) D (tyL k0) w0 sz [.int x] (fun (r : Int32) (u : va_W) => ((r = 1 ∧ ∃ i, i < 8 ∧ x = nI i) ∨ (r = 0 ∧ ¬ ∃ i, i < 8 ∧ x = nI i)) ∧ u = w0) 0 0 := by
  refine kx_of (Qf := fun A => va_Qi (fun (r : Int32) (u : va_W) => ((r = 1 ∧ ∃ i, i < 8 ∧ x = nI i) ∨ (r = 0 ∧ ¬ ∃ i, i < 8 ∧ x = nI i)) ∧ u = w0) (kx_B D (tyL k0) A) A) (cc := cX2_isGraph) (maxL := 1) (ret := (some .boolean)) (by decide +kernel) (Nat.le_of_ble_eq_true rfl) ?_
  intro p e s m below meth c A ls hx hb hml hown hts hr hlocks hnm hN hK hP hD hS hA hl
  have hown : s.vm.findClass RX2 = some m.cls := hown
  have hl : lv_has ls 1 [(0, .int x)] := hl
  skip
  refine lv_iload_n hx hb dX2_isGraph_0 rfl (lv_at hl 0 rfl) ?_
  refine lv_if_lt (tgt := 14) hx hb dX2_isGraph_1 (by decide) (fun c_1 => ?_) (fun c_1 => ?_)
  · skip
    have hno : ¬ ∃ i, i < 8 ∧ x = nI i := fun ⟨i, h1, h2⟩ => nI_pos (n := i) (by omega) (by rw [← h2]; exact c_1)
    refine lv_iconst (v := 0) hx hb dX2_isGraph_14 (by decide +kernel) ?_
    exact kx_iret (v := 0) hx hb hr rfl hlocks hK hP hD hS dX2_isGraph_15 (⟨by first | exact Or.inl ⟨rfl, hyes⟩ | exact Or.inr ⟨rfl, hno⟩, rfl⟩)
  · skip
    refine lv_iload_n hx hb dX2_isGraph_4 rfl (lv_at hl 0 rfl) ?_
    refine lv_bipush (v := nI 8) hx hb dX2_isGraph_5 (by decide +kernel) ?_
    refine lv_icmp_ge (tgt := 14) hx hb dX2_isGraph_7 (by decide) (fun c_7 => ?_) (fun c_7 => ?_)
    · skip
      have hno : ¬ ∃ i, i < 8 ∧ x = nI i := fun ⟨i, h1, h2⟩ => nI_ge (a := i) (b := 8) (by omega) (by decide) (by rw [← h2]; exact c_7)
      refine lv_iconst (v := 0) hx hb dX2_isGraph_14 (by decide +kernel) ?_
      exact kx_iret (v := 0) hx hb hr rfl hlocks hK hP hD hS dX2_isGraph_15 (⟨by first | exact Or.inl ⟨rfl, hyes⟩ | exact Or.inr ⟨rfl, hno⟩, rfl⟩)
    · skip
      have hyes : ∃ i, i < 8 ∧ x = nI i := by
        rcases pk_ix x (n := 8) (by decide) with h | h | h
        · exact absurd h c_1
        · exact absurd h c_7
        · exact h
      refine lv_iconst (v := 1) hx hb dX2_isGraph_10 (by decide +kernel) ?_
      refine lv_goto (tgt := 15) hx hb dX2_isGraph_11 (by decide) ?_
      exact kx_iret (v := 1) hx hb hr rfl hlocks hK hP hD hS dX2_isGraph_15 (⟨by first | exact Or.inl ⟨rfl, hyes⟩ | exact Or.inr ⟨rfl, hno⟩, rfl⟩)

set_option maxHeartbeats 4000000 in
set_option maxRecDepth 100000 in
/-- Forest.clear() -/
theorem c_clear (l : Launch) (D : va_G) (k0 : Nat → ClassId) (w0 : va_W) (sz : Nat) (q f ra pa : Nat) (rows parts : Nat → Nat) (k : Nat) (hF : w0[q]? = some (f, .inr (0, [.ref ra, .ref pa, .int (nI k)]))) (hR : w0[q + 1]? = some (ra, .inl (k0 0, 12, .inl (fun j => nI (rows j))))) (hT : w0[q + 2]? = some (pa, .inl (k0 0, 12, .inl (fun j => nI (parts j))))) : kx_v l yX0_clear wsX0_clear ({ frames := 0, cells := 0, slots := 0, locals := 0 } : Room) D (tyL k0) w0 sz [.ref f] (fun (u : va_W) => atF u q k0 f ra pa rows parts 0 ∧ kx_fr w0 u (fun j => j = q ∨ j = q + 1 ∨ j = q + 2)) 0 0 := by
  refine kx_of (Qf := fun A => va_Qv (fun (u : va_W) => atF u q k0 f ra pa rows parts 0 ∧ kx_fr w0 u (fun j => j = q ∨ j = q + 1 ∨ j = q + 2)) (kx_B D (tyL k0) A) A) (cc := cX0_clear) (maxL := 1) (ret := none) (by decide +kernel) (Nat.le_of_ble_eq_true rfl) ?_
  intro p e s m below meth c A ls hx hb hml hown hts hr hlocks hnm hN hK hP hD hS hA hl
  have hown : s.vm.findClass RX0 = some m.cls := hown
  have hl : lv_has ls 1 [(0, .ref f)] := hl
  have hfr : kx_fr w0 w0 (fun j => j = q ∨ j = q + 1 ∨ j = q + 2) := kx_fr_rf _ _
  refine lv_aload_n hx hb dX0_clear_0 rfl (lv_at hl 0 rfl) ?_
  refine lv_iconst (v := nI 0) hx hb dX0_clear_1 (by decide +kernel) ?_
  refine va_put (D := D) (ci := 0) (v := .int (nI 0)) (ty := .int) (C := RX0) (T := TX0) (N := 3) hx hb hts inX0 tyX0 tyX0_ok nmX0 hown hK hP hD hS q hF rfl 2 (by decide) (hts _ tw_43) (fun _ h9 => h9) rfl (by decide +kernel) rfl rfl (Nat.le_of_ble_eq_true rfl) dX0_clear_2 (fun H locs hP hD hS => ?_)
  obtain ⟨w_1, ew_1⟩ : ∃ w, w = w0.set q (f, .inr (0, [.ref ra, .ref pa, .int (nI 0)])) := ⟨_, rfl⟩
  have hP : va_P D vwCl w_1 H := by rw [ew_1]; exact hP
  have hD : va_D A w_1 := by rw [ew_1]; exact hD
  have f_2 : w_1[q]? = some (f, .inr (0, [.ref ra, .ref pa, .int (nI 0)])) := by rw [ew_1]; exact kx_set_self hF
  have f_3 : w_1[q + 1]? = some (ra, .inl (k0 0, 12, .inl (fun j => nI (rows j)))) := by rw [ew_1]; exact kx_set_ne hR (by omega)
  have f_4 : w_1[q + 2]? = some (pa, .inl (k0 0, 12, .inl (fun j => nI (parts j)))) := by rw [ew_1]; exact kx_set_ne hT (by omega)
  have hfr : kx_fr w0 w_1 (fun j => j = q ∨ j = q + 1 ∨ j = q + 2) := kx_fr_tr hfr (by rw [ew_1]; exact kx_fr_set (by omega))
  exact kx_vret hx hb hr hlocks hK hP hD hS dX0_clear_5 (⟨⟨f_2, f_3, f_4⟩, hfr⟩)

set_option maxHeartbeats 4000000 in
set_option maxRecDepth 100000 in
/-- Forest.rest(line) -/
theorem c_rest (l : Launch) (D : va_G) (k0 : Nat → ClassId) (w0 : va_W) (sz : Nat) (q f ra pa : Nat) (rows parts : Nat → Nat) (k : Nat) (hF : w0[q]? = some (f, .inr (0, [.ref ra, .ref pa, .int (nI k)]))) (hR : w0[q + 1]? = some (ra, .inl (k0 0, 12, .inl (fun j => nI (rows j))))) (hT : w0[q + 2]? = some (pa, .inl (k0 0, 12, .inl (fun j => nI (parts j))))) (hk : k ≤ 12) (hrow : ∀ j, j < k → rows j < 2 ^ 24) (v : Nat) (hv : v < 2 ^ 24) : kx_i l yX0_rest wsX0_rest ({ frames := 1, cells := 0, slots := 0, locals := 16 } : Room) D (tyL k0) w0 sz [.ref f, .int (nI v)] (fun (r : Int32) (u : va_W) => r = nI (fo_rest rows v k) ∧ u = w0) 0 0 := by
  refine kx_of (Qf := fun A => va_Qi (fun (r : Int32) (u : va_W) => r = nI (fo_rest rows v k) ∧ u = w0) (kx_B D (tyL k0) A) A) (cc := cX0_rest) (maxL := 4) (ret := (some .int)) (by decide +kernel) (Nat.le_of_ble_eq_true rfl) ?_
  intro p e s m below meth c A ls hx hb hml hown hts hr hlocks hnm hN hK hP hD hS hA hl
  have hown : s.vm.findClass RX0 = some m.cls := hown
  have hl : lv_has ls 4 [(0, .ref f), (1, .int (nI v))] := hl
  skip
  refine lv_iload_n hx hb dX0_rest_0 rfl (lv_at hl 1 rfl) ?_
  refine lv_istore_n (lv' := [(2, .int (nI v)), (0, .ref f), (1, .int (nI v))]) hx hb dX0_rest_1 rfl hl (by decide) rfl (fun ls hl => ?_)
  refine lv_iconst (v := nI 0) hx hb dX0_rest_2 (by decide +kernel) ?_
  refine lv_istore_n (lv' := [(3, .int (nI 0)), (2, .int (nI v)), (0, .ref f), (1, .int (nI v))]) hx hb dX0_rest_3 rfl hl (by decide) rfl (fun ls hl => ?_)
  have loop_4 : ∀ (n4 : Nat) (i : Nat), (i ≤ k) → (k + 1 ≤ i + n4) → ∀ (H : Heap) (locs : List Loc), va_P D vwCl w0 H → va_D A w0 → va_S A s.heap H locs → ∀ (ls : Array Slot), lv_has ls 4 [(3, .int (nI i)), (2, .int (nI (fo_rest rows v i))), (0, .ref f), (1, .int (nI v))] → W p l e ({ frames := 1, cells := 0, slots := 0, locals := 16 } : Room) s m ([.ref f, .int (nI v)] : List Value).toArray below meth c H locs 0 0 (MQ below (va_Qi (fun (r : Int32) (u : va_W) => r = nI (fo_rest rows v k) ∧ u = w0) (kx_B D (tyL k0) A) A) ([.ref f, .int (nI v)] : List Value).toArray s 0 0 A) (F0 m 4 ls []) := by
    intro n4
    induction n4 with
    | zero =>
      intro i hi hme
      exact absurd hme (by omega)
    | succ n4 ih4 =>
      intro i hi hme  H locs hP hD hS ls hl
      refine lv_iload_n hx hb dX0_rest_4 rfl (lv_at hl 0 rfl) ?_
      refine lv_aload_n hx hb dX0_rest_5 rfl (lv_at hl 2 rfl) ?_
      refine va_get (D := D) (ci := 0) (v := .int (nI k)) (C := RX0) (T := TX0) (N := 3) hx hb hts inX0 hown hK hP q hF rfl 2 (by decide) (hts _ tw_43) (fun _ h9 => h9) rfl dX0_rest_6 ?_
      refine lv_icmp_ge (tgt := 31) hx hb dX0_rest_9 (by decide) (fun c_9 => ?_) (fun c_9 => ?_)
      · skip
        have hik : i = k := by
          have := (nI_leI (by omega) (by omega)).mp c_9
          omega
        subst hik
        refine lv_iload_n hx hb dX0_rest_31 rfl (lv_at hl 1 rfl) ?_
        exact kx_iret (v := nI (fo_rest rows v i)) hx hb hr rfl hlocks hK hP hD hS dX0_rest_32 (⟨rfl, rfl⟩)
      · skip
        have hik : i < k := by
          rcases Nat.lt_or_ge i k with h | h
          · exact h
          · exact absurd ((nI_leI (by omega) (by omega)).mpr h) c_9
        have hb1 := fo_rest_lt hv hrow i hi
        have hb2 : fo_rest rows v i ^^^ rows i < 2 ^ 24 := Nat.xor_lt_two_pow hb1 (hrow i hik)
        refine lv_iload_n hx hb dX0_rest_12 rfl (lv_at hl 1 rfl) ?_
        refine lv_iload_n hx hb dX0_rest_13 rfl (lv_at hl 1 rfl) ?_
        refine lv_aload_n hx hb dX0_rest_14 rfl (lv_at hl 2 rfl) ?_
        refine va_get (D := D) (ci := 0) (v := .ref ra) (C := RX0) (T := TX0) (N := 3) hx hb hts inX0 hown hK hP q hF rfl 0 (by decide) (hts _ tw_41) (fun _ h9 => h9) rfl dX0_rest_15 ?_
        refine lv_iload_n hx hb dX0_rest_18 rfl (lv_at hl 0 rfl) ?_
        refine kx_nald hx hb hK hP (q + 1) hR rfl (i := i) (by omega) (by decide) dX0_rest_19 ?_
        refine lv_ixor hx hb dX0_rest_20 ?_
        refine lv_topi (fun z_1 ez_1 => ?_)
        have ez_1 : z_1 = nI (fo_rest rows v i ^^^ rows i) := by rw [ez_1]; exact kb_xor _ _
        subst ez_1
        refine va_mmin hx hb (by rw [hml]; exact hl.1.symm) hown (hts _ tw_152) (hts _ tw_153) (hts _ tw_23) (hts _ tw_min) (Nat.le_of_ble_eq_true rfl) (Nat.le_of_ble_eq_true rfl) (Nat.le_of_ble_eq_true rfl) (Nat.le_of_ble_eq_true rfl) dX0_rest_21 ?_
        refine lv_topi (fun z_2 ez_2 => ?_)
        have ez_2 : z_2 = nI (fo_rest rows v (i + 1)) := by rw [ez_2]; rw [kb_min (by omega) (by omega)]; rfl
        subst ez_2
        refine lv_istore_n (lv' := [(2, .int (nI (fo_rest rows v (i + 1)))), (3, .int (nI i)), (0, .ref f), (1, .int (nI v))]) hx hb dX0_rest_24 rfl hl (by decide) rfl (fun ls hl => ?_)
        refine lv_iinc (v := nI (i + 1)) (lv' := [(3, .int (nI (i + 1))), (2, .int (nI (fo_rest rows v (i + 1)))), (0, .ref f), (1, .int (nI v))]) hx hb dX0_rest_25 hl (k := 1) rfl (nI_1 _) (by decide) rfl (fun ls hl => ?_)
        refine lv_goto (tgt := 4) hx hb dX0_rest_28 (by decide) ?_
        exact ih4 (i + 1) (by omega) (by omega) _ _ hP hD hS _ (lv_sub hl [0, 1, 2, 3] rfl)
  exact loop_4 (k + 1) 0 (Nat.zero_le k) (by omega) _ _ hP hD hS _ (lv_sub hl [0, 1, 2, 3] rfl)

set_option maxHeartbeats 4000000 in
set_option maxRecDepth 100000 in
/-- Forest.way(line) -/
theorem c_way (l : Launch) (D : va_G) (k0 : Nat → ClassId) (w0 : va_W) (sz : Nat) (q f ra pa : Nat) (rows parts : Nat → Nat) (k : Nat) (hF : w0[q]? = some (f, .inr (0, [.ref ra, .ref pa, .int (nI k)]))) (hR : w0[q + 1]? = some (ra, .inl (k0 0, 12, .inl (fun j => nI (rows j))))) (hT : w0[q + 2]? = some (pa, .inl (k0 0, 12, .inl (fun j => nI (parts j))))) (hk : k ≤ 12) (hrow : ∀ j, j < k → rows j < 2 ^ 24) (v : Nat) (hv : v < 2 ^ 24) : kx_i l yX0_way wsX0_way ({ frames := 0, cells := 0, slots := 0, locals := 0 } : Room) D (tyL k0) w0 sz [.ref f, .int (nI v)] (fun (r : Int32) (u : va_W) => r = nI (fo_way rows parts v k) ∧ u = w0) 0 0 := by
  refine kx_of (Qf := fun A => va_Qi (fun (r : Int32) (u : va_W) => r = nI (fo_way rows parts v k) ∧ u = w0) (kx_B D (tyL k0) A) A) (cc := cX0_way) (maxL := 5) (ret := (some .int)) (by decide +kernel) (Nat.le_of_ble_eq_true rfl) ?_
  intro p e s m below meth c A ls hx hb hml hown hts hr hlocks hnm hN hK hP hD hS hA hl
  have hown : s.vm.findClass RX0 = some m.cls := hown
  have hl : lv_has ls 5 [(0, .ref f), (1, .int (nI v))] := hl
  skip
  refine lv_iload_n hx hb dX0_way_0 rfl (lv_at hl 1 rfl) ?_
  refine lv_istore_n (lv' := [(2, .int (nI v)), (0, .ref f), (1, .int (nI v))]) hx hb dX0_way_1 rfl hl (by decide) rfl (fun ls hl => ?_)
  refine lv_iconst (v := nI 0) hx hb dX0_way_2 (by decide +kernel) ?_
  refine lv_istore_n (lv' := [(3, .int (nI 0)), (2, .int (nI v)), (0, .ref f), (1, .int (nI v))]) hx hb dX0_way_3 rfl hl (by decide) rfl (fun ls hl => ?_)
  refine lv_iconst (v := nI 0) hx hb dX0_way_4 (by decide +kernel) ?_
  refine lv_istore (lv' := [(4, .int (nI 0)), (3, .int (nI 0)), (2, .int (nI v)), (0, .ref f), (1, .int (nI v))]) hx hb dX0_way_5 hl (by decide) rfl (fun ls hl => ?_)
  have loop_7 : ∀ (n7 : Nat) (i : Nat), (i ≤ k) → (k + 1 ≤ i + n7) → ∀ (H : Heap) (locs : List Loc), va_P D vwCl w0 H → va_D A w0 → va_S A s.heap H locs → ∀ (ls : Array Slot), lv_has ls 5 [(4, .int (nI i)), (3, .int (nI (fo_way rows parts v i))), (2, .int (nI (fo_rest rows v i))), (0, .ref f), (1, .int (nI v))] → W p l e ({ frames := 0, cells := 0, slots := 0, locals := 0 } : Room) s m ([.ref f, .int (nI v)] : List Value).toArray below meth c H locs 0 0 (MQ below (va_Qi (fun (r : Int32) (u : va_W) => r = nI (fo_way rows parts v k) ∧ u = w0) (kx_B D (tyL k0) A) A) ([.ref f, .int (nI v)] : List Value).toArray s 0 0 A) (F0 m 7 ls []) := by
    intro n7
    induction n7 with
    | zero =>
      intro i hi hme
      exact absurd hme (by omega)
    | succ n7 ih7 =>
      intro i hi hme  H locs hP hD hS ls hl
      refine lv_iload hx hb dX0_way_7 (lv_at hl 0 rfl) ?_
      refine lv_aload_n hx hb dX0_way_9 rfl (lv_at hl 3 rfl) ?_
      refine va_get (D := D) (ci := 0) (v := .int (nI k)) (C := RX0) (T := TX0) (N := 3) hx hb hts inX0 hown hK hP q hF rfl 2 (by decide) (hts _ tw_43) (fun _ h9 => h9) rfl dX0_way_10 ?_
      refine lv_icmp_ge (tgt := 55) hx hb dX0_way_13 (by decide) (fun c_13 => ?_) (fun c_13 => ?_)
      · skip
        have hik : i = k := by
          have := (nI_leI (by omega) (by omega)).mp c_13
          omega
        subst hik
        refine lv_iload_n hx hb dX0_way_55 rfl (lv_at hl 1 rfl) ?_
        exact kx_iret (v := nI (fo_way rows parts v i)) hx hb hr rfl hlocks hK hP hD hS dX0_way_56 (⟨rfl, rfl⟩)
      · skip
        have hik : i < k := by
          rcases Nat.lt_or_ge (i) (k) with h | h
          · exact h
          · exact absurd ((nI_leI (by omega) (by omega)).mpr h) c_13
        have hb1 := fo_rest_lt hv hrow i hi
        have hb2 : fo_rest rows v i ^^^ rows i < 2 ^ 24 := Nat.xor_lt_two_pow hb1 (hrow i hik)
        refine lv_iload_n hx hb dX0_way_16 rfl (lv_at hl 2 rfl) ?_
        refine lv_aload_n hx hb dX0_way_17 rfl (lv_at hl 3 rfl) ?_
        refine va_get (D := D) (ci := 0) (v := .ref ra) (C := RX0) (T := TX0) (N := 3) hx hb hts inX0 hown hK hP q hF rfl 0 (by decide) (hts _ tw_41) (fun _ h9 => h9) rfl dX0_way_18 ?_
        refine lv_iload hx hb dX0_way_21 (lv_at hl 0 rfl) ?_
        refine kx_nald hx hb hK hP (q + 1) hR rfl (i := i) (by omega) (by decide) dX0_way_23 ?_
        refine lv_ixor hx hb dX0_way_24 ?_
        refine lv_topi (fun z_1 ez_1 => ?_)
        have ez_1 : z_1 = nI (fo_rest rows v i ^^^ rows i) := by rw [ez_1]; exact kb_xor _ _
        subst ez_1
        refine lv_iload_n hx hb dX0_way_25 rfl (lv_at hl 2 rfl) ?_
        refine lv_icmp_ge (tgt := 49) hx hb dX0_way_26 (by decide) (fun c_26 => ?_) (fun c_26 => ?_)
        · skip
          have hlt : ¬ fo_rest rows v i ^^^ rows i < fo_rest rows v i := by
            have := (nI_leI (by omega) (by omega)).mp c_26
            omega
          have er : fo_rest rows v i = fo_rest rows v (i + 1) := by show _ = fo_step _ _; unfold fo_step; rw [if_neg hlt]
          have ew : fo_way rows parts v i = fo_way rows parts v (i + 1) := by show _ = ite _ _ _; rw [if_neg hlt]
          rw [er, ew] at hl
          refine lv_iinc (v := nI (i + 1)) (lv' := [(4, .int (nI (i + 1))), (3, .int (nI (fo_way rows parts v (i + 1)))), (2, .int (nI (fo_rest rows v (i + 1)))), (0, .ref f), (1, .int (nI v))]) hx hb dX0_way_49 hl (k := 0) rfl (nI_1 _) (by decide) rfl (fun ls hl => ?_)
          refine lv_goto (tgt := 7) hx hb dX0_way_52 (by decide) ?_
          exact ih7 (i + 1) (by omega) (by omega) _ _ hP hD hS _ (lv_sub hl [0, 1, 2, 3, 4] rfl)
        · skip
          have hlt : fo_rest rows v i ^^^ rows i < fo_rest rows v i := by
            rcases Nat.lt_or_ge (fo_rest rows v i ^^^ rows i) (fo_rest rows v i) with h | h
            · exact h
            · exact absurd ((nI_leI (by omega) (by omega)).mpr h) c_26
          refine lv_iload_n hx hb dX0_way_29 rfl (lv_at hl 2 rfl) ?_
          refine lv_aload_n hx hb dX0_way_30 rfl (lv_at hl 3 rfl) ?_
          refine va_get (D := D) (ci := 0) (v := .ref ra) (C := RX0) (T := TX0) (N := 3) hx hb hts inX0 hown hK hP q hF rfl 0 (by decide) (hts _ tw_41) (fun _ h9 => h9) rfl dX0_way_31 ?_
          refine lv_iload hx hb dX0_way_34 (lv_at hl 0 rfl) ?_
          refine kx_nald hx hb hK hP (q + 1) hR rfl (i := i) (by omega) (by decide) dX0_way_36 ?_
          refine lv_ixor hx hb dX0_way_37 ?_
          refine lv_topi (fun z_2 ez_2 => ?_)
          have ez_2 : z_2 = nI (fo_rest rows v (i + 1)) := by rw [ez_2]; rw [kb_xor]; show _ = nI (fo_step _ _); unfold fo_step; rw [if_pos hlt]
          subst ez_2
          refine lv_istore_n (lv' := [(2, .int (nI (fo_rest rows v (i + 1)))), (4, .int (nI i)), (3, .int (nI (fo_way rows parts v i))), (0, .ref f), (1, .int (nI v))]) hx hb dX0_way_38 rfl hl (by decide) rfl (fun ls hl => ?_)
          refine lv_iload_n hx hb dX0_way_39 rfl (lv_at hl 2 rfl) ?_
          refine lv_aload_n hx hb dX0_way_40 rfl (lv_at hl 3 rfl) ?_
          refine va_get (D := D) (ci := 0) (v := .ref pa) (C := RX0) (T := TX0) (N := 3) hx hb hts inX0 hown hK hP q hF rfl 1 (by decide) (hts _ tw_42) (fun _ h9 => h9) rfl dX0_way_41 ?_
          refine lv_iload hx hb dX0_way_44 (lv_at hl 1 rfl) ?_
          refine kx_nald hx hb hK hP (q + 2) hT rfl (i := i) (by omega) (by decide) dX0_way_46 ?_
          refine lv_ixor hx hb dX0_way_47 ?_
          refine lv_topi (fun z_3 ez_3 => ?_)
          have ez_3 : z_3 = nI (fo_way rows parts v (i + 1)) := by rw [ez_3]; rw [kb_xor]; show _ = nI (ite _ _ _); rw [if_pos hlt]
          subst ez_3
          refine lv_istore_n (lv' := [(3, .int (nI (fo_way rows parts v (i + 1)))), (2, .int (nI (fo_rest rows v (i + 1)))), (4, .int (nI i)), (0, .ref f), (1, .int (nI v))]) hx hb dX0_way_48 rfl hl (by decide) rfl (fun ls hl => ?_)
          refine lv_iinc (v := nI (i + 1)) (lv' := [(4, .int (nI (i + 1))), (3, .int (nI (fo_way rows parts v (i + 1)))), (2, .int (nI (fo_rest rows v (i + 1)))), (0, .ref f), (1, .int (nI v))]) hx hb dX0_way_49 hl (k := 2) rfl (nI_1 _) (by decide) rfl (fun ls hl => ?_)
          refine lv_goto (tgt := 7) hx hb dX0_way_52 (by decide) ?_
          exact ih7 (i + 1) (by omega) (by omega) _ _ hP hD hS _ (lv_sub hl [0, 1, 2, 3, 4] rfl)
  exact loop_7 (k + 1) 0 (Nat.zero_le k) (by omega) _ _ hP hD hS _ (lv_sub hl [0, 1, 2, 3, 4] rfl)

set_option maxHeartbeats 4000000 in
set_option maxRecDepth 100000 in
/-- Forest.drop() -/
theorem c_drop (l : Launch) (D : va_G) (k0 : Nat → ClassId) (w0 : va_W) (sz : Nat) (q f ra pa : Nat) (rows parts : Nat → Nat) (k : Nat) (hF : w0[q]? = some (f, .inr (0, [.ref ra, .ref pa, .int (nI k)]))) (hR : w0[q + 1]? = some (ra, .inl (k0 0, 12, .inl (fun j => nI (rows j))))) (hT : w0[q + 2]? = some (pa, .inl (k0 0, 12, .inl (fun j => nI (parts j))))) (hk : 0 < k) (hk2 : k ≤ 12) : kx_v l yX0_drop wsX0_drop ({ frames := 0, cells := 0, slots := 0, locals := 0 } : Room) D (tyL k0) w0 sz [.ref f] (fun (u : va_W) => atF u q k0 f ra pa rows parts (k - 1) ∧ kx_fr w0 u (fun j => j = q ∨ j = q + 1 ∨ j = q + 2)) 0 0 := by
  refine kx_of (Qf := fun A => va_Qv (fun (u : va_W) => atF u q k0 f ra pa rows parts (k - 1) ∧ kx_fr w0 u (fun j => j = q ∨ j = q + 1 ∨ j = q + 2)) (kx_B D (tyL k0) A) A) (cc := cX0_drop) (maxL := 1) (ret := none) (by decide +kernel) (Nat.le_of_ble_eq_true rfl) ?_
  intro p e s m below meth c A ls hx hb hml hown hts hr hlocks hnm hN hK hP hD hS hA hl
  have hown : s.vm.findClass RX0 = some m.cls := hown
  have hl : lv_has ls 1 [(0, .ref f)] := hl
  have hfr : kx_fr w0 w0 (fun j => j = q ∨ j = q + 1 ∨ j = q + 2) := kx_fr_rf _ _
  refine lv_aload_n hx hb dX0_drop_0 rfl (lv_at hl 0 rfl) ?_
  refine va_get (D := D) (ci := 0) (v := .int (nI k)) (C := RX0) (T := TX0) (N := 3) hx hb hts inX0 hown hK hP q hF rfl 2 (by decide) (hts _ tw_43) (fun _ h9 => h9) rfl dX0_drop_1 ?_
  refine lv_if_le (tgt := 17) hx hb dX0_drop_4 (by decide) (fun c_4 => ?_) (fun c_4 => ?_)
  · skip
    exact absurd c_4 (nI_nle hk (by omega))
  · skip
    refine lv_aload_n hx hb dX0_drop_7 rfl (lv_at hl 0 rfl) ?_
    refine lv_dup hx hb dX0_drop_8 rfl ?_
    refine va_get (D := D) (ci := 0) (v := .int (nI k)) (C := RX0) (T := TX0) (N := 3) hx hb hts inX0 hown hK hP q hF rfl 2 (by decide) (hts _ tw_43) (fun _ h9 => h9) rfl dX0_drop_9 ?_
    refine lv_iconst (v := 1) hx hb dX0_drop_12 (by decide +kernel) ?_
    refine lv_isub hx hb dX0_drop_13 ?_
    refine lv_topi (fun z_1 ez_1 => ?_)
    have ez_1 : z_1 = nI (k - 1) := by rw [ez_1]; exact pk_sub (a := k) (b := 1) hk
    subst ez_1
    refine va_put (D := D) (ci := 0) (v := .int (nI (k - 1))) (ty := .int) (C := RX0) (T := TX0) (N := 3) hx hb hts inX0 tyX0 tyX0_ok nmX0 hown hK hP hD hS q hF rfl 2 (by decide) (hts _ tw_43) (fun _ h9 => h9) rfl (by decide +kernel) rfl rfl (Nat.le_of_ble_eq_true rfl) dX0_drop_14 (fun H locs hP hD hS => ?_)
    obtain ⟨w_2, ew_2⟩ : ∃ w, w = w0.set q (f, .inr (0, [.ref ra, .ref pa, .int (nI (k - 1))])) := ⟨_, rfl⟩
    have hP : va_P D vwCl w_2 H := by rw [ew_2]; exact hP
    have hD : va_D A w_2 := by rw [ew_2]; exact hD
    have f_3 : w_2[q]? = some (f, .inr (0, [.ref ra, .ref pa, .int (nI (k - 1))])) := by rw [ew_2]; exact kx_set_self hF
    have f_4 : w_2[q + 1]? = some (ra, .inl (k0 0, 12, .inl (fun j => nI (rows j)))) := by rw [ew_2]; exact kx_set_ne hR (by omega)
    have f_5 : w_2[q + 2]? = some (pa, .inl (k0 0, 12, .inl (fun j => nI (parts j)))) := by rw [ew_2]; exact kx_set_ne hT (by omega)
    have hfr : kx_fr w0 w_2 (fun j => j = q ∨ j = q + 1 ∨ j = q + 2) := kx_fr_tr hfr (by rw [ew_2]; exact kx_fr_set (by omega))
    exact kx_vret hx hb hr hlocks hK hP hD hS dX0_drop_17 (⟨⟨f_3, f_4, f_5⟩, hfr⟩)

set_option maxHeartbeats 4000000 in
set_option maxRecDepth 100000 in
/-- Forest.takes(e, line) -/
theorem c_takes (l : Launch) (D : va_G) (k0 : Nat → ClassId) (w0 : va_W) (sz : Nat) (q f ra pa : Nat) (rows parts : Nat → Nat) (k : Nat) (hF : w0[q]? = some (f, .inr (0, [.ref ra, .ref pa, .int (nI k)]))) (hR : w0[q + 1]? = some (ra, .inl (k0 0, 12, .inl (fun j => nI (rows j))))) (hT : w0[q + 2]? = some (pa, .inl (k0 0, 12, .inl (fun j => nI (parts j))))) (hk : k ≤ 12) (hrow : ∀ j, j < k → rows j < 2 ^ 24) (e9 v : Nat) (he : e9 < 31) (hv : v < 2 ^ 24) (hroom : fo_rest rows v k ≠ 0 → k < 12) : kx_i l yX0_takes wsX0_takes ({ frames := 2, cells := 0, slots := 0, locals := 48 } : Room) D (tyL k0) w0 sz [.ref f, .int (nI e9), .int (nI v)] (fun (r : Int32) (u : va_W) => (fo_rest rows v k = 0 ∧ r = 0 ∧ u = w0) ∨ (fo_rest rows v k ≠ 0 ∧ r = 1 ∧ atF u q k0 f ra pa (fo_up rows k (fo_rest rows v k)) (fo_up parts k (fo_way rows parts v k ^^^ 2 ^ e9)) (k + 1) ∧ kx_fr w0 u (fun j => j = q ∨ j = q + 1 ∨ j = q + 2))) 0 0 := by
  refine kx_of (Qf := fun A => va_Qi (fun (r : Int32) (u : va_W) => (fo_rest rows v k = 0 ∧ r = 0 ∧ u = w0) ∨ (fo_rest rows v k ≠ 0 ∧ r = 1 ∧ atF u q k0 f ra pa (fo_up rows k (fo_rest rows v k)) (fo_up parts k (fo_way rows parts v k ^^^ 2 ^ e9)) (k + 1) ∧ kx_fr w0 u (fun j => j = q ∨ j = q + 1 ∨ j = q + 2))) (kx_B D (tyL k0) A) A) (cc := cX0_takes) (maxL := 4) (ret := (some .boolean)) (by decide +kernel) (Nat.le_of_ble_eq_true rfl) ?_
  intro p e s m below meth c A ls hx hb hml hown hts hr hlocks hnm hN hK hP hD hS hA hl
  have hown : s.vm.findClass RX0 = some m.cls := hown
  have hl : lv_has ls 4 [(0, .ref f), (1, .int (nI e9)), (2, .int (nI v))] := hl
  have hfr : kx_fr w0 w0 (fun j => j = q ∨ j = q + 1 ∨ j = q + 2) := kx_fr_rf _ _
  refine lv_aload_n hx hb dX0_takes_0 rfl (lv_at hl 0 rfl) ?_
  refine lv_iload_n hx hb dX0_takes_1 rfl (lv_at hl 2 rfl) ?_
  refine kx_goi (va_runV (As := [.int (nI v)]) (rest := []) ⟨hx, hb, hml, hown, hts⟩ (c_rest l D k0 w0 _ q f ra pa rows parts k hF hR hT hk hrow v hv) ⟨(kg_B (k := 1) hts tw_151 tw_148 tw_20 (by decide +kernel) rfl rfl ⟨Nat.le_of_ble_eq_true rfl, Nat.le_of_ble_eq_true rfl⟩), hts _ tw_149, hts _ tw_150⟩ (kx_preV hN hK hP hD rfl hF) rfl rfl hl.1 rfl (lv_room (Nat.le_of_ble_eq_true rfl)) dX0_takes_2 ⟨Nat.le_of_ble_eq_true rfl, Nat.le_of_ble_eq_true rfl⟩) hD hS hA (fun r_2 u_3 H locs hp_1 hP hD hS => ?_)
  obtain ⟨er_2, eu_3⟩ := hp_1
  rw [eu_3] at hP hD; subst er_2
  refine lv_istore_n (lv' := [(3, .int (nI (fo_rest rows v k))), (0, .ref f), (1, .int (nI e9)), (2, .int (nI v))]) hx hb dX0_takes_5 rfl hl (by decide) rfl (fun ls hl => ?_)
  refine lv_iload_n hx hb dX0_takes_6 rfl (lv_at hl 0 rfl) ?_
  refine lv_if_eq (tgt := 19) hx hb dX0_takes_7 (by decide) (fun c_7 => ?_) (fun c_7 => ?_)
  · skip
    have h0 : fo_rest rows v k = 0 := (kb_eq0 (Nat.lt_trans (fo_rest_lt hv hrow k (Nat.le_refl k)) (by decide))).mp c_7
    refine lv_iconst (v := 0) hx hb dX0_takes_19 (by decide +kernel) ?_
    exact kx_iret (v := 0) hx hb hr rfl hlocks hK hP hD hS dX0_takes_20 (Or.inl ⟨h0, rfl, rfl⟩)
  · skip
    have h0 : fo_rest rows v k ≠ 0 := fun h => c_7 ((kb_eq0 (Nat.lt_trans (fo_rest_lt hv hrow k (Nat.le_refl k)) (by decide))).mpr h)
    have hk12 := hroom h0
    refine lv_aload_n hx hb dX0_takes_10 rfl (lv_at hl 1 rfl) ?_
    refine va_get (D := D) (ci := 0) (v := .int (nI k)) (C := RX0) (T := TX0) (N := 3) hx hb hts inX0 hown hK hP q hF rfl 2 (by decide) (hts _ tw_43) (fun _ h9 => h9) rfl dX0_takes_11 ?_
    refine lv_bipush (v := nI 12) hx hb dX0_takes_14 (by decide +kernel) ?_
    refine lv_icmp_lt (tgt := 21) hx hb dX0_takes_16 (by decide) (fun c_16 => ?_) (fun c_16 => ?_)
    · skip
      refine lv_aload_n hx hb dX0_takes_21 rfl (lv_at hl 1 rfl) ?_
      refine va_get (D := D) (ci := 0) (v := .ref pa) (C := RX0) (T := TX0) (N := 3) hx hb hts inX0 hown hK hP q hF rfl 1 (by decide) (hts _ tw_42) (fun _ h9 => h9) rfl dX0_takes_22 ?_
      refine lv_aload_n hx hb dX0_takes_25 rfl (lv_at hl 1 rfl) ?_
      refine va_get (D := D) (ci := 0) (v := .int (nI k)) (C := RX0) (T := TX0) (N := 3) hx hb hts inX0 hown hK hP q hF rfl 2 (by decide) (hts _ tw_43) (fun _ h9 => h9) rfl dX0_takes_26 ?_
      refine lv_aload_n hx hb dX0_takes_29 rfl (lv_at hl 1 rfl) ?_
      refine lv_iload_n hx hb dX0_takes_30 rfl (lv_at hl 3 rfl) ?_
      refine kx_goi (va_runV (As := [.int (nI v)]) (rest := [.int (nI k), .ref pa]) ⟨hx, hb, hml, hown, hts⟩ (c_way l D k0 w0 _ q f ra pa rows parts k hF hR hT hk hrow v hv) ⟨(kg_B (k := 1) hts tw_158 tw_155 tw_20 (by decide +kernel) rfl rfl ⟨Nat.le_of_ble_eq_true rfl, Nat.le_of_ble_eq_true rfl⟩), hts _ tw_156, hts _ tw_157⟩ (kx_preV hN hK hP hD rfl hF) rfl rfl hl.1 rfl (lv_room (Nat.le_of_ble_eq_true rfl)) dX0_takes_31 ⟨Nat.le_of_ble_eq_true rfl, Nat.le_of_ble_eq_true rfl⟩) hD hS hA (fun r_5 u_6 H locs hp_4 hP hD hS => ?_)
      obtain ⟨er_5, eu_6⟩ := hp_4
      rw [eu_6] at hP hD; subst er_5
      refine lv_iconst (v := 1) hx hb dX0_takes_34 (by decide +kernel) ?_
      refine lv_iload_n hx hb dX0_takes_35 rfl (lv_at hl 2 rfl) ?_
      refine lv_ishl hx hb dX0_takes_36 ?_
      refine lv_topi (fun z_7 ez_7 => ?_)
      have ez_7 : z_7 = nI (2 ^ e9) := by rw [ez_7]; exact kb_one he
      subst ez_7
      refine lv_ixor hx hb dX0_takes_37 ?_
      refine lv_topi (fun z_8 ez_8 => ?_)
      have ez_8 : z_8 = nI (fo_way rows parts v k ^^^ 2 ^ e9) := by rw [ez_8]; exact kb_xor _ _
      subst ez_8
      refine kx_nast hx hb hK hP hD hS (q + 2) hT rfl (i := k) (x := (fo_way rows parts v k ^^^ 2 ^ e9)) (by omega) (by decide) dX0_takes_38 (fun H locs hP hD hS => ?_)
      obtain ⟨w_9, ew_9⟩ : ∃ w, w = w0.set (q + 2) (pa, .inl (k0 0, 12, .inl (fun j => nI ((fo_up parts k (fo_way rows parts v k ^^^ 2 ^ e9)) j)))) := ⟨_, rfl⟩
      have hP : va_P D vwCl w_9 H := by rw [ew_9]; exact hP
      have hD : va_D A w_9 := by rw [ew_9]; exact hD
      have f_10 : w_9[q]? = some (f, .inr (0, [.ref ra, .ref pa, .int (nI k)])) := by rw [ew_9]; exact kx_set_ne hF (by omega)
      have f_11 : w_9[q + 1]? = some (ra, .inl (k0 0, 12, .inl (fun j => nI (rows j)))) := by rw [ew_9]; exact kx_set_ne hR (by omega)
      have f_12 : w_9[q + 2]? = some (pa, .inl (k0 0, 12, .inl (fun j => nI ((fo_up parts k (fo_way rows parts v k ^^^ 2 ^ e9)) j)))) := by rw [ew_9]; exact kx_set_self hT
      have hfr : kx_fr w0 w_9 (fun j => j = q ∨ j = q + 1 ∨ j = q + 2) := kx_fr_tr hfr (by rw [ew_9]; exact kx_fr_set (by omega))
      refine lv_aload_n hx hb dX0_takes_39 rfl (lv_at hl 1 rfl) ?_
      refine va_get (D := D) (ci := 0) (v := .ref ra) (C := RX0) (T := TX0) (N := 3) hx hb hts inX0 hown hK hP q f_10 rfl 0 (by decide) (hts _ tw_41) (fun _ h9 => h9) rfl dX0_takes_40 ?_
      refine lv_aload_n hx hb dX0_takes_43 rfl (lv_at hl 1 rfl) ?_
      refine va_get (D := D) (ci := 0) (v := .int (nI k)) (C := RX0) (T := TX0) (N := 3) hx hb hts inX0 hown hK hP q f_10 rfl 2 (by decide) (hts _ tw_43) (fun _ h9 => h9) rfl dX0_takes_44 ?_
      refine lv_iload_n hx hb dX0_takes_47 rfl (lv_at hl 0 rfl) ?_
      refine kx_nast hx hb hK hP hD hS (q + 1) f_11 rfl (i := k) (x := (fo_rest rows v k)) (by omega) (by decide) dX0_takes_48 (fun H locs hP hD hS => ?_)
      obtain ⟨w_13, ew_13⟩ : ∃ w, w = w_9.set (q + 1) (ra, .inl (k0 0, 12, .inl (fun j => nI ((fo_up rows k (fo_rest rows v k)) j)))) := ⟨_, rfl⟩
      have hP : va_P D vwCl w_13 H := by rw [ew_13]; exact hP
      have hD : va_D A w_13 := by rw [ew_13]; exact hD
      have f_14 : w_13[q]? = some (f, .inr (0, [.ref ra, .ref pa, .int (nI k)])) := by rw [ew_13]; exact kx_set_ne f_10 (by omega)
      have f_15 : w_13[q + 1]? = some (ra, .inl (k0 0, 12, .inl (fun j => nI ((fo_up rows k (fo_rest rows v k)) j)))) := by rw [ew_13]; exact kx_set_self f_11
      have f_16 : w_13[q + 2]? = some (pa, .inl (k0 0, 12, .inl (fun j => nI ((fo_up parts k (fo_way rows parts v k ^^^ 2 ^ e9)) j)))) := by rw [ew_13]; exact kx_set_ne f_12 (by omega)
      have hfr : kx_fr w0 w_13 (fun j => j = q ∨ j = q + 1 ∨ j = q + 2) := kx_fr_tr hfr (by rw [ew_13]; exact kx_fr_set (by omega))
      refine lv_aload_n hx hb dX0_takes_49 rfl (lv_at hl 1 rfl) ?_
      refine lv_dup hx hb dX0_takes_50 rfl ?_
      refine va_get (D := D) (ci := 0) (v := .int (nI k)) (C := RX0) (T := TX0) (N := 3) hx hb hts inX0 hown hK hP q f_14 rfl 2 (by decide) (hts _ tw_43) (fun _ h9 => h9) rfl dX0_takes_51 ?_
      refine lv_iconst (v := nI 1) hx hb dX0_takes_54 (by decide +kernel) ?_
      refine lv_iadd hx hb dX0_takes_55 ?_
      refine lv_topi (fun z_17 ez_17 => ?_)
      have ez_17 : z_17 = nI (k + 1) := by rw [ez_17]; exact nI_1 _
      subst ez_17
      refine va_put (D := D) (ci := 0) (v := .int (nI (k + 1))) (ty := .int) (C := RX0) (T := TX0) (N := 3) hx hb hts inX0 tyX0 tyX0_ok nmX0 hown hK hP hD hS q f_14 rfl 2 (by decide) (hts _ tw_43) (fun _ h9 => h9) rfl (by decide +kernel) rfl rfl (Nat.le_of_ble_eq_true rfl) dX0_takes_56 (fun H locs hP hD hS => ?_)
      obtain ⟨w_18, ew_18⟩ : ∃ w, w = w_13.set q (f, .inr (0, [.ref ra, .ref pa, .int (nI (k + 1))])) := ⟨_, rfl⟩
      have hP : va_P D vwCl w_18 H := by rw [ew_18]; exact hP
      have hD : va_D A w_18 := by rw [ew_18]; exact hD
      have f_19 : w_18[q]? = some (f, .inr (0, [.ref ra, .ref pa, .int (nI (k + 1))])) := by rw [ew_18]; exact kx_set_self f_14
      have f_20 : w_18[q + 1]? = some (ra, .inl (k0 0, 12, .inl (fun j => nI ((fo_up rows k (fo_rest rows v k)) j)))) := by rw [ew_18]; exact kx_set_ne f_15 (by omega)
      have f_21 : w_18[q + 2]? = some (pa, .inl (k0 0, 12, .inl (fun j => nI ((fo_up parts k (fo_way rows parts v k ^^^ 2 ^ e9)) j)))) := by rw [ew_18]; exact kx_set_ne f_16 (by omega)
      have hfr : kx_fr w0 w_18 (fun j => j = q ∨ j = q + 1 ∨ j = q + 2) := kx_fr_tr hfr (by rw [ew_18]; exact kx_fr_set (by omega))
      refine lv_iconst (v := 1) hx hb dX0_takes_59 (by decide +kernel) ?_
      exact kx_iret (v := 1) hx hb hr rfl hlocks hK hP hD hS dX0_takes_60 (Or.inr ⟨h0, rfl, ⟨f_19, f_20, f_21⟩, hfr⟩)
    · skip
      exact absurd ((nI_ltI (by omega) (by omega)).mpr hk12) c_16
end
section
set_option maxHeartbeats 4000000 in
set_option maxRecDepth 100000 in
/-- Forest.fill(graph, set) -/
theorem c_fill (l : Launch) (D : va_G) (k0 : Nat → ClassId) (w0 : va_W) (sz : Nat) (q f ra pa : Nat) (rows parts : Nat → Nat) (k : Nat) (hF : w0[q]? = some (f, .inr (0, [.ref ra, .ref pa, .int (nI k)]))) (hR : w0[q + 1]? = some (ra, .inl (k0 0, 12, .inl (fun j => nI (rows j))))) (hT : w0[q + 2]? = some (pa, .inl (k0 0, 12, .inl (fun j => nI (parts j))))) (qg g ga gb : Nat) (L : Nat → Nat) (wt : Nat → Int32) (n : Nat) (vv oo : Int32) (hG : w0[qg]? = some (g, .inr (1, [.ref ga, .ref gb, .int (nI n), .int vv, .int oo]))) (hL : w0[qg + 1]? = some (ga, .inl (k0 0, 12, .inl (fun j => nI (L j))))) (hW : w0[qg + 2]? = some (gb, .inl (k0 0, 12, .inl wt))) (hap : q + 3 ≤ qg ∨ qg + 3 ≤ q) (hn : n ≤ 12) (hLb : ∀ j, j < n → L j < 2 ^ 24) (S : Nat) (hSb : S < 2 ^ 31) : kx_i l yX0_fill wsX0_fill ({ frames := 3, cells := 0, slots := 0, locals := 80 } : Room) D (tyL k0) w0 sz [.ref f, .ref g, .int (nI S)] (fun (r : Int32) (u : va_W) => r = nI (fo_fill L S rows parts n).2.2 ∧ atF u q k0 f ra pa (fo_fill L S rows parts n).1 (fo_fill L S rows parts n).2.1 (fo_fill L S rows parts n).2.2 ∧ kx_fr w0 u (fun j => j = q ∨ j = q + 1 ∨ j = q + 2)) 0 0 := by
  refine kx_of (Qf := fun A => va_Qi (fun (r : Int32) (u : va_W) => r = nI (fo_fill L S rows parts n).2.2 ∧ atF u q k0 f ra pa (fo_fill L S rows parts n).1 (fo_fill L S rows parts n).2.1 (fo_fill L S rows parts n).2.2 ∧ kx_fr w0 u (fun j => j = q ∨ j = q + 1 ∨ j = q + 2)) (kx_B D (tyL k0) A) A) (cc := cX0_fill) (maxL := 4) (ret := (some .int)) (by decide +kernel) (Nat.le_of_ble_eq_true rfl) ?_
  intro p e s m below meth c A ls hx hb hml hown hts hr hlocks hnm hN hK hP hD hS hA hl
  have hown : s.vm.findClass RX0 = some m.cls := hown
  have hl : lv_has ls 4 [(0, .ref f), (1, .ref g), (2, .int (nI S))] := hl
  have hfr : kx_fr w0 w0 (fun j => j = q ∨ j = q + 1 ∨ j = q + 2) := kx_fr_rf _ _
  refine lv_aload_n hx hb dX0_fill_0 rfl (lv_at hl 0 rfl) ?_
  refine kx_gov (va_runV (As := []) (rest := []) ⟨hx, hb, hml, hown, hts⟩ (c_clear l D k0 w0 _ q f ra pa rows parts k hF hR hT) ⟨(kg_B (k := 0) hts tw_140 tw_137 tw_20 (by decide +kernel) rfl rfl ⟨Nat.le_of_ble_eq_true rfl, Nat.le_of_ble_eq_true rfl⟩), hts _ tw_138, hts _ tw_139⟩ (kx_preV hN hK hP hD rfl hF) rfl rfl hl.1 rfl (lv_room (Nat.le_of_ble_eq_true rfl)) dX0_fill_1 ⟨Nat.le_of_ble_eq_true rfl, Nat.le_of_ble_eq_true rfl⟩) hD hS hA (fun u_3 H locs hp_1 hP hD hS => ?_)
  obtain ⟨⟨hF1, hR1, hT1⟩, hq⟩ := hp_1
  have f_4 : u_3[q]? = some (f, .inr (0, [.ref ra, .ref pa, .int (nI 0)])) := hF1
  have f_5 : u_3[q + 1]? = some (ra, .inl (k0 0, 12, .inl (fun j => nI (rows j)))) := hR1
  have f_6 : u_3[q + 2]? = some (pa, .inl (k0 0, 12, .inl (fun j => nI (parts j)))) := hT1
  have f_7 : u_3[qg]? = some (g, .inr (1, [.ref ga, .ref gb, .int (nI n), .int vv, .int oo])) := by rw [hq _ (by omega)]; exact hG
  have f_8 : u_3[qg + 1]? = some (ga, .inl (k0 0, 12, .inl (fun j => nI (L j)))) := by rw [hq _ (by omega)]; exact hL
  have f_9 : u_3[qg + 2]? = some (gb, .inl (k0 0, 12, .inl wt)) := by rw [hq _ (by omega)]; exact hW
  have hfr : kx_fr w0 u_3 (fun j => j = q ∨ j = q + 1 ∨ j = q + 2) := kx_fr_tr hfr (kx_fr_mono hq (fun j h => h))
  refine lv_iconst (v := nI 0) hx hb dX0_fill_4 (by decide +kernel) ?_
  refine lv_istore_n (lv' := [(3, .int (nI 0)), (0, .ref f), (1, .ref g), (2, .int (nI S))]) hx hb dX0_fill_5 rfl hl (by decide) rfl (fun ls hl => ?_)
  have loop_6 : ∀ (n6 : Nat) (e9 : Nat), (e9 ≤ n) → (n + 1 ≤ e9 + n6) → ∀ (w1 : va_W), w1[q]? = some (f, .inr (0, [.ref ra, .ref pa, .int (nI (fo_fill L S rows parts e9).2.2)])) → w1[q + 1]? = some (ra, .inl (k0 0, 12, .inl (fun j => nI (((fo_fill L S rows parts e9).1) j)))) → w1[q + 2]? = some (pa, .inl (k0 0, 12, .inl (fun j => nI (((fo_fill L S rows parts e9).2.1) j)))) → w1[qg]? = some (g, .inr (1, [.ref ga, .ref gb, .int (nI n), .int vv, .int oo])) → w1[qg + 1]? = some (ga, .inl (k0 0, 12, .inl (fun j => nI (L j)))) → w1[qg + 2]? = some (gb, .inl (k0 0, 12, .inl wt)) → kx_fr w0 w1 (fun j => j = q ∨ j = q + 1 ∨ j = q + 2) → ∀ (H : Heap) (locs : List Loc), va_P D vwCl w1 H → va_D A w1 → va_S A s.heap H locs → ∀ (ls : Array Slot), lv_has ls 4 [(3, .int (nI e9)), (0, .ref f), (1, .ref g), (2, .int (nI S))] → W p l e ({ frames := 3, cells := 0, slots := 0, locals := 80 } : Room) s m ([.ref f, .ref g, .int (nI S)] : List Value).toArray below meth c H locs 0 0 (MQ below (va_Qi (fun (r : Int32) (u : va_W) => r = nI (fo_fill L S rows parts n).2.2 ∧ atF u q k0 f ra pa (fo_fill L S rows parts n).1 (fo_fill L S rows parts n).2.1 (fo_fill L S rows parts n).2.2 ∧ kx_fr w0 u (fun j => j = q ∨ j = q + 1 ∨ j = q + 2)) (kx_B D (tyL k0) A) A) ([.ref f, .ref g, .int (nI S)] : List Value).toArray s 0 0 A) (F0 m 6 ls []) := by
    intro n6
    induction n6 with
    | zero =>
      intro e9 he hme
      exact absurd hme (by omega)
    | succ n6 ih6 =>
      intro e9 he hme w1 F6_0 F6_1 F6_2 F6_3 F6_4 F6_5 hfr H locs hP hD hS ls hl
      refine lv_iload_n hx hb dX0_fill_6 rfl (lv_at hl 0 rfl) ?_
      refine lv_aload_n hx hb dX0_fill_7 rfl (lv_at hl 2 rfl) ?_
      refine va_get (D := D) (ci := 1) (v := .int (nI n)) (C := RX1) (T := TX1) (N := 5) hx hb hts inX1 hown hK hP qg F6_3 rfl 2 (by decide) (hts _ tw_63) (fun _ h9 => h9) rfl dX0_fill_8 ?_
      refine lv_icmp_ge (tgt := 40) hx hb dX0_fill_11 (by decide) (fun c_11 => ?_) (fun c_11 => ?_)
      · skip
        have hik : e9 = n := by
          have := (nI_leI (by omega) (by omega)).mp c_11
          omega
        subst hik
        refine lv_aload_n hx hb dX0_fill_40 rfl (lv_at hl 1 rfl) ?_
        refine va_get (D := D) (ci := 0) (v := .int (nI (fo_fill L S rows parts e9).2.2)) (C := RX0) (T := TX0) (N := 3) hx hb hts inX0 hown hK hP q F6_0 rfl 2 (by decide) (hts _ tw_43) (fun _ h9 => h9) rfl dX0_fill_41 ?_
        exact kx_iret (v := nI (fo_fill L S rows parts e9).2.2) hx hb hr rfl hlocks hK hP hD hS dX0_fill_44 (⟨rfl, ⟨F6_0, F6_1, F6_2⟩, hfr⟩)
      · skip
        have hik : e9 < n := by
          rcases Nat.lt_or_ge (e9) (n) with h | h
          · exact h
          · exact absurd ((nI_leI (by omega) (by omega)).mpr h) c_11
        refine lv_iload_n hx hb dX0_fill_14 rfl (lv_at hl 3 rfl) ?_
        refine lv_iload_n hx hb dX0_fill_15 rfl (lv_at hl 0 rfl) ?_
        refine kx_goi (va_runSN (As := [.int (nI S), .int (nI e9)]) (rest := []) ⟨hx, hb, hml, hown, hts⟩ (c_has l D k0 w1 _ S e9 hSb (by omega)) ⟨(kg_N (k := 2) hts tw_143 hN.2.2.1 tw_19 (by decide +kernel) rfl rfl ⟨Nat.le_of_ble_eq_true rfl, Nat.le_of_ble_eq_true rfl⟩), hts _ tw_142, trivial⟩ (kx_preS hN hK hP hD) rfl rfl hl.1 rfl (lv_room (Nat.le_of_ble_eq_true rfl)) dX0_fill_16 ⟨Nat.le_of_ble_eq_true rfl, Nat.le_of_ble_eq_true rfl⟩) hD hS hA (fun r_11 u_12 H locs hp_10 hP hD hS => ?_)
        obtain ⟨er_11, eu_12⟩ := hp_10
        rw [eu_12] at hP hD; subst er_11
        refine lv_if_eq (tgt := 34) hx hb dX0_fill_19 (by decide) (fun c_19 => ?_) (fun c_19 => ?_)
        · skip
          have hS1 : S.testBit e9 = false := (kb_bool _).mp c_19
          have e9f : (fo_fill L S rows parts (e9 + 1)) = (fo_fill L S rows parts e9) := fo_fill_out hS1
          have f_13 : w1[q]? = some (f, .inr (0, [.ref ra, .ref pa, .int (nI (fo_fill L S rows parts (e9 + 1)).2.2)])) := by rw [e9f]; exact F6_0
          have f_14 : w1[q + 1]? = some (ra, .inl (k0 0, 12, .inl (fun j => nI (((fo_fill L S rows parts (e9 + 1)).1) j)))) := by rw [e9f]; exact F6_1
          have f_15 : w1[q + 2]? = some (pa, .inl (k0 0, 12, .inl (fun j => nI (((fo_fill L S rows parts (e9 + 1)).2.1) j)))) := by rw [e9f]; exact F6_2
          refine lv_iinc (v := nI (e9 + 1)) (lv' := [(3, .int (nI (e9 + 1))), (0, .ref f), (1, .ref g), (2, .int (nI S))]) hx hb dX0_fill_34 hl (k := 0) rfl (nI_1 _) (by decide) rfl (fun ls hl => ?_)
          refine lv_goto (tgt := 6) hx hb dX0_fill_37 (by decide) ?_
          exact ih6 (e9 + 1) (by omega) (by omega) w1 f_13 f_14 f_15 F6_3 F6_4 F6_5 hfr _ _ hP hD hS _ (lv_sub hl [0, 1, 2, 3] rfl)
        · skip
          have hS1 : S.testBit e9 = true := by
            cases hq9 : S.testBit e9 with
            | true => rfl
            | false => exact absurd ((kb_bool _).mpr hq9) c_19
          obtain ⟨hk1, hk2, hk3⟩ := fo_fill_bd (S := S) (rows := rows) (parts := parts) hn hLb e9 he
          refine lv_aload_n hx hb dX0_fill_22 rfl (lv_at hl 1 rfl) ?_
          refine lv_iload_n hx hb dX0_fill_23 rfl (lv_at hl 0 rfl) ?_
          refine lv_aload_n hx hb dX0_fill_24 rfl (lv_at hl 2 rfl) ?_
          refine va_get (D := D) (ci := 1) (v := .ref ga) (C := RX1) (T := TX1) (N := 5) hx hb hts inX1 hown hK hP qg F6_3 rfl 0 (by decide) (hts _ tw_58) (fun _ h9 => h9) rfl dX0_fill_25 ?_
          refine lv_iload_n hx hb dX0_fill_28 rfl (lv_at hl 0 rfl) ?_
          refine kx_nald hx hb hK hP (qg + 1) F6_4 rfl (i := e9) (by omega) (by decide) dX0_fill_29 ?_
          refine kx_goi (va_runV (As := [.int (nI e9), .int (nI (L e9))]) (rest := []) ⟨hx, hb, hml, hown, hts⟩ (c_takes l D k0 w1 _ q f ra pa (fo_fill L S rows parts e9).1 (fo_fill L S rows parts e9).2.1 (fo_fill L S rows parts e9).2.2 F6_0 F6_1 F6_2 hk1 hk2 e9 (L e9) (by omega) (hLb e9 hik) (hk3 hik)) ⟨(kg_B (k := 2) hts tw_147 tw_144 tw_20 (by decide +kernel) rfl rfl ⟨Nat.le_of_ble_eq_true rfl, Nat.le_of_ble_eq_true rfl⟩), hts _ tw_145, hts _ tw_146⟩ (kx_preV hN hK hP hD rfl F6_0) rfl rfl hl.1 rfl (lv_room (Nat.le_of_ble_eq_true rfl)) dX0_fill_30 ⟨Nat.le_of_ble_eq_true rfl, Nat.le_of_ble_eq_true rfl⟩) hD hS hA (fun r_17 u_18 H locs hp_16 hP hD hS => ?_)
          have hq2 : atF u_18 q k0 f ra pa (fo_fill L S rows parts (e9 + 1)).1 (fo_fill L S rows parts (e9 + 1)).2.1 (fo_fill L S rows parts (e9 + 1)).2.2 ∧ kx_fr w1 u_18 (fun j => j = q ∨ j = q + 1 ∨ j = q + 2) := by
            rw [fo_fill_in hS1]
            rcases hp_16 with ⟨h0, _, hu⟩ | ⟨h0, _, hu, hu2⟩
            · rw [fo_takes_no h0, hu]; exact ⟨⟨F6_0, F6_1, F6_2⟩, kx_fr_rf _ _⟩
            · rw [fo_takes_yes h0]; exact ⟨hu, hu2⟩
          obtain ⟨⟨hF1, hR1, hT1⟩, hq⟩ := hq2
          have f_19 : u_18[q]? = some (f, .inr (0, [.ref ra, .ref pa, .int (nI (fo_fill L S rows parts (e9 + 1)).2.2)])) := hF1
          have f_20 : u_18[q + 1]? = some (ra, .inl (k0 0, 12, .inl (fun j => nI (((fo_fill L S rows parts (e9 + 1)).1) j)))) := hR1
          have f_21 : u_18[q + 2]? = some (pa, .inl (k0 0, 12, .inl (fun j => nI (((fo_fill L S rows parts (e9 + 1)).2.1) j)))) := hT1
          have f_22 : u_18[qg]? = some (g, .inr (1, [.ref ga, .ref gb, .int (nI n), .int vv, .int oo])) := by rw [hq _ (by omega)]; exact F6_3
          have f_23 : u_18[qg + 1]? = some (ga, .inl (k0 0, 12, .inl (fun j => nI (L j)))) := by rw [hq _ (by omega)]; exact F6_4
          have f_24 : u_18[qg + 2]? = some (gb, .inl (k0 0, 12, .inl wt)) := by rw [hq _ (by omega)]; exact F6_5
          have hfr : kx_fr w0 u_18 (fun j => j = q ∨ j = q + 1 ∨ j = q + 2) := kx_fr_tr hfr (kx_fr_mono hq (fun j h => h))
          refine lv_pop hx hb dX0_fill_33 rfl ?_
          refine lv_iinc (v := nI (e9 + 1)) (lv' := [(3, .int (nI (e9 + 1))), (0, .ref f), (1, .ref g), (2, .int (nI S))]) hx hb dX0_fill_34 hl (k := 0) rfl (nI_1 _) (by decide) rfl (fun ls hl => ?_)
          refine lv_goto (tgt := 6) hx hb dX0_fill_37 (by decide) ?_
          exact ih6 (e9 + 1) (by omega) (by omega) u_18 f_19 f_20 f_21 f_22 f_23 f_24 hfr _ _ hP hD hS _ (lv_sub hl [0, 1, 2, 3] rfl)
  exact loop_6 (n + 1) 0 (Nat.zero_le n) (by omega) u_3 f_4 f_5 f_6 f_7 f_8 f_9 hfr _ _ hP hD hS _ (lv_sub hl [0, 1, 2, 3] rfl)
end
section
def me_of (L : Nat → Nat) : Nat → Nat
  | 0 => 0
  | e + 1 => me_of L e ||| L e

set_option maxHeartbeats 4000000 in
set_option maxRecDepth 100000 in
/-- Graph.restart(vertices) -/
theorem c_restart (l : Launch) (D : va_G) (k0 : Nat → ClassId) (w0 : va_W) (sz : Nat) (qg g ga gb : Nat) (L : Nat → Nat) (wt : Nat → Int32) (n : Nat) (vv oo : Int32) (hG : w0[qg]? = some (g, .inr (1, [.ref ga, .ref gb, .int (nI n), .int vv, .int oo]))) (hL : w0[qg + 1]? = some (ga, .inl (k0 0, 12, .inl (fun j => nI (L j))))) (hW : w0[qg + 2]? = some (gb, .inl (k0 0, 12, .inl wt))) (x : Int32) : kx_v l yX1_restart wsX1_restart ({ frames := 0, cells := 0, slots := 0, locals := 0 } : Room) D (tyL k0) w0 sz [.ref g, .int x] (fun (u : va_W) => atG u qg k0 g ga gb L wt 0 x 1 ∧ kx_fr w0 u (fun j => j = qg ∨ j = qg + 1 ∨ j = qg + 2)) 0 0 := by
  refine kx_of (Qf := fun A => va_Qv (fun (u : va_W) => atG u qg k0 g ga gb L wt 0 x 1 ∧ kx_fr w0 u (fun j => j = qg ∨ j = qg + 1 ∨ j = qg + 2)) (kx_B D (tyL k0) A) A) (cc := cX1_restart) (maxL := 2) (ret := none) (by decide +kernel) (Nat.le_of_ble_eq_true rfl) ?_
  intro p e s m below meth c A ls hx hb hml hown hts hr hlocks hnm hN hK hP hD hS hA hl
  have hown : s.vm.findClass RX1 = some m.cls := hown
  have hl : lv_has ls 2 [(0, .ref g), (1, .int x)] := hl
  have hfr : kx_fr w0 w0 (fun j => j = qg ∨ j = qg + 1 ∨ j = qg + 2) := kx_fr_rf _ _
  refine lv_aload_n hx hb dX1_restart_0 rfl (lv_at hl 0 rfl) ?_
  refine lv_iconst (v := 1) hx hb dX1_restart_1 (by decide +kernel) ?_
  refine va_put (D := D) (ci := 1) (v := .int 1) (ty := .boolean) (C := RX1) (T := TX1) (N := 5) hx hb hts inX1 tyX1 tyX1_ok nmX1 hown hK hP hD hS qg hG rfl 4 (by decide) (hts _ tw_66) (fun _ h9 => h9) rfl (by decide +kernel) rfl rfl (Nat.le_of_ble_eq_true rfl) dX1_restart_2 (fun H locs hP hD hS => ?_)
  obtain ⟨w_1, ew_1⟩ : ∃ w, w = w0.set qg (g, .inr (1, [.ref ga, .ref gb, .int (nI n), .int vv, .int 1])) := ⟨_, rfl⟩
  have hP : va_P D vwCl w_1 H := by rw [ew_1]; exact hP
  have hD : va_D A w_1 := by rw [ew_1]; exact hD
  have f_2 : w_1[qg]? = some (g, .inr (1, [.ref ga, .ref gb, .int (nI n), .int vv, .int 1])) := by rw [ew_1]; exact kx_set_self hG
  have f_3 : w_1[qg + 1]? = some (ga, .inl (k0 0, 12, .inl (fun j => nI (L j)))) := by rw [ew_1]; exact kx_set_ne hL (by omega)
  have f_4 : w_1[qg + 2]? = some (gb, .inl (k0 0, 12, .inl wt)) := by rw [ew_1]; exact kx_set_ne hW (by omega)
  have hfr : kx_fr w0 w_1 (fun j => j = qg ∨ j = qg + 1 ∨ j = qg + 2) := kx_fr_tr hfr (by rw [ew_1]; exact kx_fr_set (by omega))
  refine lv_aload_n hx hb dX1_restart_5 rfl (lv_at hl 0 rfl) ?_
  refine lv_iload_n hx hb dX1_restart_6 rfl (lv_at hl 1 rfl) ?_
  refine va_put (D := D) (ci := 1) (v := .int x) (ty := .int) (C := RX1) (T := TX1) (N := 5) hx hb hts inX1 tyX1 tyX1_ok nmX1 hown hK hP hD hS qg f_2 rfl 3 (by decide) (hts _ tw_65) (fun _ h9 => h9) rfl (by decide +kernel) rfl rfl (Nat.le_of_ble_eq_true rfl) dX1_restart_7 (fun H locs hP hD hS => ?_)
  obtain ⟨w_5, ew_5⟩ : ∃ w, w = w_1.set qg (g, .inr (1, [.ref ga, .ref gb, .int (nI n), .int x, .int 1])) := ⟨_, rfl⟩
  have hP : va_P D vwCl w_5 H := by rw [ew_5]; exact hP
  have hD : va_D A w_5 := by rw [ew_5]; exact hD
  have f_6 : w_5[qg]? = some (g, .inr (1, [.ref ga, .ref gb, .int (nI n), .int x, .int 1])) := by rw [ew_5]; exact kx_set_self f_2
  have f_7 : w_5[qg + 1]? = some (ga, .inl (k0 0, 12, .inl (fun j => nI (L j)))) := by rw [ew_5]; exact kx_set_ne f_3 (by omega)
  have f_8 : w_5[qg + 2]? = some (gb, .inl (k0 0, 12, .inl wt)) := by rw [ew_5]; exact kx_set_ne f_4 (by omega)
  have hfr : kx_fr w0 w_5 (fun j => j = qg ∨ j = qg + 1 ∨ j = qg + 2) := kx_fr_tr hfr (by rw [ew_5]; exact kx_fr_set (by omega))
  refine lv_aload_n hx hb dX1_restart_10 rfl (lv_at hl 0 rfl) ?_
  refine lv_iconst (v := nI 0) hx hb dX1_restart_11 (by decide +kernel) ?_
  refine va_put (D := D) (ci := 1) (v := .int (nI 0)) (ty := .int) (C := RX1) (T := TX1) (N := 5) hx hb hts inX1 tyX1 tyX1_ok nmX1 hown hK hP hD hS qg f_6 rfl 2 (by decide) (hts _ tw_62) (fun _ h9 => h9) rfl (by decide +kernel) rfl rfl (Nat.le_of_ble_eq_true rfl) dX1_restart_12 (fun H locs hP hD hS => ?_)
  obtain ⟨w_9, ew_9⟩ : ∃ w, w = w_5.set qg (g, .inr (1, [.ref ga, .ref gb, .int (nI 0), .int x, .int 1])) := ⟨_, rfl⟩
  have hP : va_P D vwCl w_9 H := by rw [ew_9]; exact hP
  have hD : va_D A w_9 := by rw [ew_9]; exact hD
  have f_10 : w_9[qg]? = some (g, .inr (1, [.ref ga, .ref gb, .int (nI 0), .int x, .int 1])) := by rw [ew_9]; exact kx_set_self f_6
  have f_11 : w_9[qg + 1]? = some (ga, .inl (k0 0, 12, .inl (fun j => nI (L j)))) := by rw [ew_9]; exact kx_set_ne f_7 (by omega)
  have f_12 : w_9[qg + 2]? = some (gb, .inl (k0 0, 12, .inl wt)) := by rw [ew_9]; exact kx_set_ne f_8 (by omega)
  have hfr : kx_fr w0 w_9 (fun j => j = qg ∨ j = qg + 1 ∨ j = qg + 2) := kx_fr_tr hfr (by rw [ew_9]; exact kx_fr_set (by omega))
  exact kx_vret hx hb hr hlocks hK hP hD hS dX1_restart_15 (⟨⟨f_10, f_11, f_12⟩, hfr⟩)

set_option maxHeartbeats 4000000 in
set_option maxRecDepth 100000 in
/-- Graph.canMeet(vertex) -/
theorem c_canMeet (l : Launch) (D : va_G) (k0 : Nat → ClassId) (w0 : va_W) (sz : Nat) (qg g ga gb : Nat) (L : Nat → Nat) (wt : Nat → Int32) (n : Nat) (V : Nat) (oo : Int32) (hG : w0[qg]? = some (g, .inr (1, [.ref ga, .ref gb, .int (nI n), .int (nI V), .int oo]))) (hL : w0[qg + 1]? = some (ga, .inl (k0 0, 12, .inl (fun j => nI (L j))))) (hW : w0[qg + 2]? = some (gb, .inl (k0 0, 12, .inl wt))) (hV : V < 2 ^ 31) (x : Int32) : kx_i l yX1_canMeet wsX1_canMeet ({ frames := 0, cells := 0, slots := 0, locals := 0 } : Room) D (tyL k0) w0 sz [.ref g, .int x] (fun (r : Int32) (u : va_W) => ((r = 1 ∧ oo ≠ 0 ∧ ∃ i, i < V ∧ x = nI i) ∨ (r = 0 ∧ ¬ (oo ≠ 0 ∧ ∃ i, i < V ∧ x = nI i))) ∧ u = w0) 0 0 := by
  refine kx_of (Qf := fun A => va_Qi (fun (r : Int32) (u : va_W) => ((r = 1 ∧ oo ≠ 0 ∧ ∃ i, i < V ∧ x = nI i) ∨ (r = 0 ∧ ¬ (oo ≠ 0 ∧ ∃ i, i < V ∧ x = nI i))) ∧ u = w0) (kx_B D (tyL k0) A) A) (cc := cX1_canMeet) (maxL := 2) (ret := (some .boolean)) (by decide +kernel) (Nat.le_of_ble_eq_true rfl) ?_
  intro p e s m below meth c A ls hx hb hml hown hts hr hlocks hnm hN hK hP hD hS hA hl
  have hown : s.vm.findClass RX1 = some m.cls := hown
  have hl : lv_has ls 2 [(0, .ref g), (1, .int x)] := hl
  skip
  refine lv_aload_n hx hb dX1_canMeet_0 rfl (lv_at hl 0 rfl) ?_
  refine va_get (D := D) (ci := 1) (v := .int oo) (C := RX1) (T := TX1) (N := 5) hx hb hts inX1 hown hK hP qg hG rfl 4 (by decide) (hts _ tw_66) (fun _ h9 => h9) rfl dX1_canMeet_1 ?_
  refine lv_if_eq (tgt := 23) hx hb dX1_canMeet_4 (by decide) (fun c_4 => ?_) (fun c_4 => ?_)
  · skip
    have hno : ¬ (oo ≠ 0 ∧ ∃ i, i < V ∧ x = nI i) := fun h => h.1 c_4
    refine lv_iconst (v := 0) hx hb dX1_canMeet_23 (by decide +kernel) ?_
    exact kx_iret (v := 0) hx hb hr rfl hlocks hK hP hD hS dX1_canMeet_24 (⟨by first | exact Or.inl ⟨rfl, c_4, hyes⟩ | exact Or.inr ⟨rfl, hno⟩, rfl⟩)
  · skip
    refine lv_iload_n hx hb dX1_canMeet_7 rfl (lv_at hl 1 rfl) ?_
    refine lv_if_lt (tgt := 23) hx hb dX1_canMeet_8 (by decide) (fun c_8 => ?_) (fun c_8 => ?_)
    · skip
      have hno : ¬ (oo ≠ 0 ∧ ∃ i, i < V ∧ x = nI i) := fun ⟨_, i, h1, h2⟩ => nI_pos (n := i) (by omega) (by rw [← h2]; exact c_8)
      refine lv_iconst (v := 0) hx hb dX1_canMeet_23 (by decide +kernel) ?_
      exact kx_iret (v := 0) hx hb hr rfl hlocks hK hP hD hS dX1_canMeet_24 (⟨by first | exact Or.inl ⟨rfl, c_4, hyes⟩ | exact Or.inr ⟨rfl, hno⟩, rfl⟩)
    · skip
      refine lv_iload_n hx hb dX1_canMeet_11 rfl (lv_at hl 1 rfl) ?_
      refine lv_aload_n hx hb dX1_canMeet_12 rfl (lv_at hl 0 rfl) ?_
      refine va_get (D := D) (ci := 1) (v := .int (nI V)) (C := RX1) (T := TX1) (N := 5) hx hb hts inX1 hown hK hP qg hG rfl 3 (by decide) (hts _ tw_65) (fun _ h9 => h9) rfl dX1_canMeet_13 ?_
      refine lv_icmp_ge (tgt := 23) hx hb dX1_canMeet_16 (by decide) (fun c_16 => ?_) (fun c_16 => ?_)
      · skip
        have hno : ¬ (oo ≠ 0 ∧ ∃ i, i < V ∧ x = nI i) := fun ⟨_, i, h1, h2⟩ => nI_ge (a := i) (b := V) h1 hV (by rw [← h2]; exact c_16)
        refine lv_iconst (v := 0) hx hb dX1_canMeet_23 (by decide +kernel) ?_
        exact kx_iret (v := 0) hx hb hr rfl hlocks hK hP hD hS dX1_canMeet_24 (⟨by first | exact Or.inl ⟨rfl, c_4, hyes⟩ | exact Or.inr ⟨rfl, hno⟩, rfl⟩)
      · skip
        have hyes : ∃ i, i < V ∧ x = nI i := by
          rcases pk_ix x hV with h | h | h
          · exact absurd h c_8
          · exact absurd h c_16
          · exact h
        refine lv_iconst (v := 1) hx hb dX1_canMeet_19 (by decide +kernel) ?_
        refine lv_goto (tgt := 24) hx hb dX1_canMeet_20 (by decide) ?_
        exact kx_iret (v := 1) hx hb hr rfl hlocks hK hP hD hS dX1_canMeet_24 (⟨by first | exact Or.inl ⟨rfl, c_4, hyes⟩ | exact Or.inr ⟨rfl, hno⟩, rfl⟩)

set_option maxHeartbeats 4000000 in
set_option maxRecDepth 100000 in
/-- Graph.append(line) -/
theorem c_append (l : Launch) (D : va_G) (k0 : Nat → ClassId) (w0 : va_W) (sz : Nat) (qg g ga gb : Nat) (L : Nat → Nat) (wt : Nat → Int32) (n : Nat) (vv oo : Int32) (hG : w0[qg]? = some (g, .inr (1, [.ref ga, .ref gb, .int (nI n), .int vv, .int oo]))) (hL : w0[qg + 1]? = some (ga, .inl (k0 0, 12, .inl (fun j => nI (L j))))) (hW : w0[qg + 2]? = some (gb, .inl (k0 0, 12, .inl wt))) (hn : n ≤ 12) (x : Nat) : kx_i l yX1_append wsX1_append ({ frames := 0, cells := 0, slots := 0, locals := 0 } : Room) D (tyL k0) w0 sz [.ref g, .int (nI x)] (fun (r : Int32) (u : va_W) => (12 ≤ n ∧ r = -1 ∧ u = w0) ∨ (n < 12 ∧ r = nI n ∧ atG u qg k0 g ga gb (fo_up L n x) (upd wt n 0) (n + 1) vv oo ∧ kx_fr w0 u (fun j => j = qg ∨ j = qg + 1 ∨ j = qg + 2))) 0 0 := by
  refine kx_of (Qf := fun A => va_Qi (fun (r : Int32) (u : va_W) => (12 ≤ n ∧ r = -1 ∧ u = w0) ∨ (n < 12 ∧ r = nI n ∧ atG u qg k0 g ga gb (fo_up L n x) (upd wt n 0) (n + 1) vv oo ∧ kx_fr w0 u (fun j => j = qg ∨ j = qg + 1 ∨ j = qg + 2))) (kx_B D (tyL k0) A) A) (cc := cX1_append) (maxL := 2) (ret := (some .int)) (by decide +kernel) (Nat.le_of_ble_eq_true rfl) ?_
  intro p e s m below meth c A ls hx hb hml hown hts hr hlocks hnm hN hK hP hD hS hA hl
  have hown : s.vm.findClass RX1 = some m.cls := hown
  have hl : lv_has ls 2 [(0, .ref g), (1, .int (nI x))] := hl
  have hfr : kx_fr w0 w0 (fun j => j = qg ∨ j = qg + 1 ∨ j = qg + 2) := kx_fr_rf _ _
  refine lv_aload_n hx hb dX1_append_0 rfl (lv_at hl 0 rfl) ?_
  refine va_get (D := D) (ci := 1) (v := .int (nI n)) (C := RX1) (T := TX1) (N := 5) hx hb hts inX1 hown hK hP qg hG rfl 2 (by decide) (hts _ tw_62) (fun _ h9 => h9) rfl dX1_append_1 ?_
  refine lv_bipush (v := nI 12) hx hb dX1_append_4 (by decide +kernel) ?_
  refine lv_icmp_lt (tgt := 11) hx hb dX1_append_6 (by decide) (fun c_6 => ?_) (fun c_6 => ?_)
  · skip
    have h12 : n < 12 := (nI_ltI (by omega) (by omega)).mp c_6
    refine lv_aload_n hx hb dX1_append_11 rfl (lv_at hl 0 rfl) ?_
    refine va_get (D := D) (ci := 1) (v := .ref ga) (C := RX1) (T := TX1) (N := 5) hx hb hts inX1 hown hK hP qg hG rfl 0 (by decide) (hts _ tw_57) (fun _ h9 => h9) rfl dX1_append_12 ?_
    refine lv_aload_n hx hb dX1_append_15 rfl (lv_at hl 0 rfl) ?_
    refine va_get (D := D) (ci := 1) (v := .int (nI n)) (C := RX1) (T := TX1) (N := 5) hx hb hts inX1 hown hK hP qg hG rfl 2 (by decide) (hts _ tw_62) (fun _ h9 => h9) rfl dX1_append_16 ?_
    refine lv_iload_n hx hb dX1_append_19 rfl (lv_at hl 1 rfl) ?_
    refine kx_nast hx hb hK hP hD hS (qg + 1) hL rfl (i := n) (x := x) (by omega) (by decide) dX1_append_20 (fun H locs hP hD hS => ?_)
    obtain ⟨w_1, ew_1⟩ : ∃ w, w = w0.set (qg + 1) (ga, .inl (k0 0, 12, .inl (fun j => nI ((fo_up L n x) j)))) := ⟨_, rfl⟩
    have hP : va_P D vwCl w_1 H := by rw [ew_1]; exact hP
    have hD : va_D A w_1 := by rw [ew_1]; exact hD
    have f_2 : w_1[qg]? = some (g, .inr (1, [.ref ga, .ref gb, .int (nI n), .int vv, .int oo])) := by rw [ew_1]; exact kx_set_ne hG (by omega)
    have f_3 : w_1[qg + 1]? = some (ga, .inl (k0 0, 12, .inl (fun j => nI ((fo_up L n x) j)))) := by rw [ew_1]; exact kx_set_self hL
    have f_4 : w_1[qg + 2]? = some (gb, .inl (k0 0, 12, .inl wt)) := by rw [ew_1]; exact kx_set_ne hW (by omega)
    have hfr : kx_fr w0 w_1 (fun j => j = qg ∨ j = qg + 1 ∨ j = qg + 2) := kx_fr_tr hfr (by rw [ew_1]; exact kx_fr_set (by omega))
    refine lv_aload_n hx hb dX1_append_21 rfl (lv_at hl 0 rfl) ?_
    refine va_get (D := D) (ci := 1) (v := .ref gb) (C := RX1) (T := TX1) (N := 5) hx hb hts inX1 hown hK hP qg f_2 rfl 1 (by decide) (hts _ tw_60) (fun _ h9 => h9) rfl dX1_append_22 ?_
    refine lv_aload_n hx hb dX1_append_25 rfl (lv_at hl 0 rfl) ?_
    refine va_get (D := D) (ci := 1) (v := .int (nI n)) (C := RX1) (T := TX1) (N := 5) hx hb hts inX1 hown hK hP qg f_2 rfl 2 (by decide) (hts _ tw_62) (fun _ h9 => h9) rfl dX1_append_26 ?_
    refine lv_iconst (v := 0) hx hb dX1_append_29 (by decide +kernel) ?_
    refine kx_iast hx hb hK hP hD hS (qg + 2) f_4 rfl (i := n) (x := 0) (by omega) (by decide) dX1_append_30 (fun H locs hP hD hS => ?_)
    obtain ⟨w_5, ew_5⟩ : ∃ w, w = w_1.set (qg + 2) (gb, .inl (k0 0, 12, .inl (upd wt n 0))) := ⟨_, rfl⟩
    have hP : va_P D vwCl w_5 H := by rw [ew_5]; exact hP
    have hD : va_D A w_5 := by rw [ew_5]; exact hD
    have f_6 : w_5[qg]? = some (g, .inr (1, [.ref ga, .ref gb, .int (nI n), .int vv, .int oo])) := by rw [ew_5]; exact kx_set_ne f_2 (by omega)
    have f_7 : w_5[qg + 1]? = some (ga, .inl (k0 0, 12, .inl (fun j => nI ((fo_up L n x) j)))) := by rw [ew_5]; exact kx_set_ne f_3 (by omega)
    have f_8 : w_5[qg + 2]? = some (gb, .inl (k0 0, 12, .inl (upd wt n 0))) := by rw [ew_5]; exact kx_set_self f_4
    have hfr : kx_fr w0 w_5 (fun j => j = qg ∨ j = qg + 1 ∨ j = qg + 2) := kx_fr_tr hfr (by rw [ew_5]; exact kx_fr_set (by omega))
    refine lv_aload_n hx hb dX1_append_31 rfl (lv_at hl 0 rfl) ?_
    refine lv_dup hx hb dX1_append_32 rfl ?_
    refine va_get (D := D) (ci := 1) (v := .int (nI n)) (C := RX1) (T := TX1) (N := 5) hx hb hts inX1 hown hK hP qg f_6 rfl 2 (by decide) (hts _ tw_62) (fun _ h9 => h9) rfl dX1_append_33 ?_
    refine lv_iconst (v := 1) hx hb dX1_append_36 (by decide +kernel) ?_
    refine lv_iadd hx hb dX1_append_37 ?_
    refine lv_topi (fun z_9 ez_9 => ?_)
    have ez_9 : z_9 = nI (n + 1) := by rw [ez_9]; exact nI_1 _
    subst ez_9
    refine va_put (D := D) (ci := 1) (v := .int (nI (n + 1))) (ty := .int) (C := RX1) (T := TX1) (N := 5) hx hb hts inX1 tyX1 tyX1_ok nmX1 hown hK hP hD hS qg f_6 rfl 2 (by decide) (hts _ tw_62) (fun _ h9 => h9) rfl (by decide +kernel) rfl rfl (Nat.le_of_ble_eq_true rfl) dX1_append_38 (fun H locs hP hD hS => ?_)
    obtain ⟨w_10, ew_10⟩ : ∃ w, w = w_5.set qg (g, .inr (1, [.ref ga, .ref gb, .int (nI (n + 1)), .int vv, .int oo])) := ⟨_, rfl⟩
    have hP : va_P D vwCl w_10 H := by rw [ew_10]; exact hP
    have hD : va_D A w_10 := by rw [ew_10]; exact hD
    have f_11 : w_10[qg]? = some (g, .inr (1, [.ref ga, .ref gb, .int (nI (n + 1)), .int vv, .int oo])) := by rw [ew_10]; exact kx_set_self f_6
    have f_12 : w_10[qg + 1]? = some (ga, .inl (k0 0, 12, .inl (fun j => nI ((fo_up L n x) j)))) := by rw [ew_10]; exact kx_set_ne f_7 (by omega)
    have f_13 : w_10[qg + 2]? = some (gb, .inl (k0 0, 12, .inl (upd wt n 0))) := by rw [ew_10]; exact kx_set_ne f_8 (by omega)
    have hfr : kx_fr w0 w_10 (fun j => j = qg ∨ j = qg + 1 ∨ j = qg + 2) := kx_fr_tr hfr (by rw [ew_10]; exact kx_fr_set (by omega))
    refine lv_aload_n hx hb dX1_append_41 rfl (lv_at hl 0 rfl) ?_
    refine va_get (D := D) (ci := 1) (v := .int (nI (n + 1))) (C := RX1) (T := TX1) (N := 5) hx hb hts inX1 hown hK hP qg f_11 rfl 2 (by decide) (hts _ tw_62) (fun _ h9 => h9) rfl dX1_append_42 ?_
    refine lv_iconst (v := 1) hx hb dX1_append_45 (by decide +kernel) ?_
    refine lv_isub hx hb dX1_append_46 ?_
    refine lv_topi (fun z_14 ez_14 => ?_)
    have ez_14 : z_14 = nI n := by rw [ez_14]; exact nI_pred _
    subst ez_14
    exact kx_iret (v := nI n) hx hb hr rfl hlocks hK hP hD hS dX1_append_47 (Or.inr ⟨h12, rfl, ⟨f_11, f_12, f_13⟩, hfr⟩)
  · skip
    have h12 : 12 ≤ n := by
      rcases Nat.lt_or_ge n 12 with h | h
      · exact absurd ((nI_ltI (by omega) (by omega)).mpr h) c_6
      · exact h
    refine lv_iconst (v := -1) hx hb dX1_append_9 (by decide +kernel) ?_
    exact kx_iret (v := -1) hx hb hr rfl hlocks hK hP hD hS dX1_append_10 (Or.inl ⟨h12, rfl, rfl⟩)

set_option maxHeartbeats 4000000 in
set_option maxRecDepth 100000 in
/-- Graph.become(lines, count) -/
theorem c_become (l : Launch) (D : va_G) (k0 : Nat → ClassId) (w0 : va_W) (sz : Nat) (qg g ga gb : Nat) (L : Nat → Nat) (wt : Nat → Int32) (n : Nat) (vv oo : Int32) (hG : w0[qg]? = some (g, .inr (1, [.ref ga, .ref gb, .int (nI n), .int vv, .int oo]))) (hL : w0[qg + 1]? = some (ga, .inl (k0 0, 12, .inl (fun j => nI (L j))))) (hW : w0[qg + 2]? = some (gb, .inl (k0 0, 12, .inl wt))) (qd da : Nat) (d : Nat → Nat) (hd : w0[qd]? = some (da, .inl (k0 0, 12, .inl (fun j => nI (d j))))) (hap : qd < qg ∨ qg + 3 ≤ qd) (m9 : Nat) (hm : m9 ≤ 12) : kx_v l yX1_become wsX1_become ({ frames := 1, cells := 0, slots := 0, locals := 24 } : Room) D (tyL k0) w0 sz [.ref g, .ref da, .int (nI m9)] (fun (u : va_W) => ∃ (L9 : Nat → Nat) (wt9 : Nat → Int32), atG u qg k0 g ga gb L9 wt9 m9 vv 0 ∧ (∀ j, j < m9 → L9 j = d j) ∧ (∀ j, j < m9 → wt9 j = 0) ∧ kx_fr w0 u (fun j => j = qg ∨ j = qg + 1 ∨ j = qg + 2)) 0 0 := by
  refine kx_of (Qf := fun A => va_Qv (fun (u : va_W) => ∃ (L9 : Nat → Nat) (wt9 : Nat → Int32), atG u qg k0 g ga gb L9 wt9 m9 vv 0 ∧ (∀ j, j < m9 → L9 j = d j) ∧ (∀ j, j < m9 → wt9 j = 0) ∧ kx_fr w0 u (fun j => j = qg ∨ j = qg + 1 ∨ j = qg + 2)) (kx_B D (tyL k0) A) A) (cc := cX1_become) (maxL := 4) (ret := none) (by decide +kernel) (Nat.le_of_ble_eq_true rfl) ?_
  intro p e s m below meth c A ls hx hb hml hown hts hr hlocks hnm hN hK hP hD hS hA hl
  have hown : s.vm.findClass RX1 = some m.cls := hown
  have hl : lv_has ls 4 [(0, .ref g), (1, .ref da), (2, .int (nI m9))] := hl
  have hfr : kx_fr w0 w0 (fun j => j = qg ∨ j = qg + 1 ∨ j = qg + 2) := kx_fr_rf _ _
  refine lv_aload_n hx hb dX1_become_0 rfl (lv_at hl 0 rfl) ?_
  refine lv_iconst (v := 0) hx hb dX1_become_1 (by decide +kernel) ?_
  refine va_put (D := D) (ci := 1) (v := .int 0) (ty := .boolean) (C := RX1) (T := TX1) (N := 5) hx hb hts inX1 tyX1 tyX1_ok nmX1 hown hK hP hD hS qg hG rfl 4 (by decide) (hts _ tw_66) (fun _ h9 => h9) rfl (by decide +kernel) rfl rfl (Nat.le_of_ble_eq_true rfl) dX1_become_2 (fun H locs hP hD hS => ?_)
  obtain ⟨w_1, ew_1⟩ : ∃ w, w = w0.set qg (g, .inr (1, [.ref ga, .ref gb, .int (nI n), .int vv, .int 0])) := ⟨_, rfl⟩
  have hP : va_P D vwCl w_1 H := by rw [ew_1]; exact hP
  have hD : va_D A w_1 := by rw [ew_1]; exact hD
  have f_2 : w_1[qg]? = some (g, .inr (1, [.ref ga, .ref gb, .int (nI n), .int vv, .int 0])) := by rw [ew_1]; exact kx_set_self hG
  have f_3 : w_1[qg + 1]? = some (ga, .inl (k0 0, 12, .inl (fun j => nI (L j)))) := by rw [ew_1]; exact kx_set_ne hL (by omega)
  have f_4 : w_1[qg + 2]? = some (gb, .inl (k0 0, 12, .inl wt)) := by rw [ew_1]; exact kx_set_ne hW (by omega)
  have f_5 : w_1[qd]? = some (da, .inl (k0 0, 12, .inl (fun j => nI (d j)))) := by rw [ew_1]; exact kx_set_ne hd (by omega)
  have hfr : kx_fr w0 w_1 (fun j => j = qg ∨ j = qg + 1 ∨ j = qg + 2) := kx_fr_tr hfr (by rw [ew_1]; exact kx_fr_set (by omega))
  refine lv_aload_n hx hb dX1_become_5 rfl (lv_at hl 0 rfl) ?_
  refine lv_iconst (v := nI 0) hx hb dX1_become_6 (by decide +kernel) ?_
  refine va_put (D := D) (ci := 1) (v := .int (nI 0)) (ty := .int) (C := RX1) (T := TX1) (N := 5) hx hb hts inX1 tyX1 tyX1_ok nmX1 hown hK hP hD hS qg f_2 rfl 2 (by decide) (hts _ tw_62) (fun _ h9 => h9) rfl (by decide +kernel) rfl rfl (Nat.le_of_ble_eq_true rfl) dX1_become_7 (fun H locs hP hD hS => ?_)
  obtain ⟨w_6, ew_6⟩ : ∃ w, w = w_1.set qg (g, .inr (1, [.ref ga, .ref gb, .int (nI 0), .int vv, .int 0])) := ⟨_, rfl⟩
  have hP : va_P D vwCl w_6 H := by rw [ew_6]; exact hP
  have hD : va_D A w_6 := by rw [ew_6]; exact hD
  have f_7 : w_6[qg]? = some (g, .inr (1, [.ref ga, .ref gb, .int (nI 0), .int vv, .int 0])) := by rw [ew_6]; exact kx_set_self f_2
  have f_8 : w_6[qg + 1]? = some (ga, .inl (k0 0, 12, .inl (fun j => nI (L j)))) := by rw [ew_6]; exact kx_set_ne f_3 (by omega)
  have f_9 : w_6[qg + 2]? = some (gb, .inl (k0 0, 12, .inl wt)) := by rw [ew_6]; exact kx_set_ne f_4 (by omega)
  have f_10 : w_6[qd]? = some (da, .inl (k0 0, 12, .inl (fun j => nI (d j)))) := by rw [ew_6]; exact kx_set_ne f_5 (by omega)
  have hfr : kx_fr w0 w_6 (fun j => j = qg ∨ j = qg + 1 ∨ j = qg + 2) := kx_fr_tr hfr (by rw [ew_6]; exact kx_fr_set (by omega))
  refine lv_iconst (v := nI 0) hx hb dX1_become_10 (by decide +kernel) ?_
  refine lv_istore_n (lv' := [(3, .int (nI 0)), (0, .ref g), (1, .ref da), (2, .int (nI m9))]) hx hb dX1_become_11 rfl hl (by decide) rfl (fun ls hl => ?_)
  have loop_12 : ∀ (n12 : Nat) (e9 : Nat) (L1 : Nat → Nat) (wt1 : Nat → Int32), (e9 ≤ m9) → (∀ j, j < e9 → L1 j = d j) → (∀ j, j < e9 → wt1 j = 0) → (m9 + 1 ≤ e9 + n12) → ∀ (w1 : va_W), w1[qg]? = some (g, .inr (1, [.ref ga, .ref gb, .int (nI e9), .int vv, .int 0])) → w1[qg + 1]? = some (ga, .inl (k0 0, 12, .inl (fun j => nI (L1 j)))) → w1[qg + 2]? = some (gb, .inl (k0 0, 12, .inl wt1)) → w1[qd]? = some (da, .inl (k0 0, 12, .inl (fun j => nI (d j)))) → kx_fr w0 w1 (fun j => j = qg ∨ j = qg + 1 ∨ j = qg + 2) → ∀ (H : Heap) (locs : List Loc), va_P D vwCl w1 H → va_D A w1 → va_S A s.heap H locs → ∀ (ls : Array Slot), lv_has ls 4 [(3, .int (nI e9)), (0, .ref g), (1, .ref da), (2, .int (nI m9))] → W p l e ({ frames := 1, cells := 0, slots := 0, locals := 24 } : Room) s m ([.ref g, .ref da, .int (nI m9)] : List Value).toArray below meth c H locs 0 0 (MQ below (va_Qv (fun (u : va_W) => ∃ (L9 : Nat → Nat) (wt9 : Nat → Int32), atG u qg k0 g ga gb L9 wt9 m9 vv 0 ∧ (∀ j, j < m9 → L9 j = d j) ∧ (∀ j, j < m9 → wt9 j = 0) ∧ kx_fr w0 u (fun j => j = qg ∨ j = qg + 1 ∨ j = qg + 2)) (kx_B D (tyL k0) A) A) ([.ref g, .ref da, .int (nI m9)] : List Value).toArray s 0 0 A) (F0 m 12 ls []) := by
    intro n12
    induction n12 with
    | zero =>
      intro e9 L1 wt1 he hl1 hw1 hme
      exact absurd hme (by omega)
    | succ n12 ih12 =>
      intro e9 L1 wt1 he hl1 hw1 hme w1 F12_0 F12_1 F12_2 F12_3 hfr H locs hP hD hS ls hl
      refine lv_iload_n hx hb dX1_become_12 rfl (lv_at hl 0 rfl) ?_
      refine lv_iload_n hx hb dX1_become_13 rfl (lv_at hl 3 rfl) ?_
      refine lv_icmp_ge (tgt := 37) hx hb dX1_become_14 (by decide) (fun c_14 => ?_) (fun c_14 => ?_)
      · skip
        have hik : e9 = m9 := by
          have := (nI_leI (by omega) (by omega)).mp c_14
          omega
        subst hik
        exact kx_vret hx hb hr hlocks hK hP hD hS dX1_become_37 (⟨L1, wt1, ⟨F12_0, F12_1, F12_2⟩, hl1, hw1, hfr⟩)
      · skip
        have hik : e9 < m9 := by
          rcases Nat.lt_or_ge (e9) (m9) with h | h
          · exact h
          · exact absurd ((nI_leI (by omega) (by omega)).mpr h) c_14
        refine lv_iload_n hx hb dX1_become_17 rfl (lv_at hl 0 rfl) ?_
        refine lv_aload_n hx hb dX1_become_18 rfl (lv_at hl 2 rfl) ?_
        refine va_alen hx hb hK hP qd 0 F12_3 rfl (v := nI 12) rfl dX1_become_19 ?_
        refine lv_icmp_ge (tgt := 37) hx hb dX1_become_20 (by decide) (fun c_20 => ?_) (fun c_20 => ?_)
        · skip
          exact absurd c_20 (nI_ge (by omega) (by omega))
        · skip
          refine lv_aload_n hx hb dX1_become_23 rfl (lv_at hl 1 rfl) ?_
          refine lv_aload_n hx hb dX1_become_24 rfl (lv_at hl 2 rfl) ?_
          refine lv_iload_n hx hb dX1_become_25 rfl (lv_at hl 0 rfl) ?_
          refine kx_nald hx hb hK hP qd F12_3 rfl (i := e9) (by omega) (by decide) dX1_become_26 ?_
          refine kx_goi (va_runV (As := [.int (nI (d e9))]) (rest := []) ⟨hx, hb, hml, hown, hts⟩ (c_append l D k0 w1 _ qg g ga gb L1 wt1 e9 vv 0 F12_0 F12_1 F12_2 (by omega) (d e9)) ⟨(kg_B (k := 1) hts tw_113 tw_165 tw_21 (by decide +kernel) rfl rfl ⟨Nat.le_of_ble_eq_true rfl, Nat.le_of_ble_eq_true rfl⟩), hts _ tw_111, hts _ tw_112⟩ (kx_preV hN hK hP hD rfl F12_0) rfl rfl hl.1 rfl (lv_room (Nat.le_of_ble_eq_true rfl)) dX1_become_27 ⟨Nat.le_of_ble_eq_true rfl, Nat.le_of_ble_eq_true rfl⟩) hD hS hA (fun r_12 u_13 H locs hp_11 hP hD hS => ?_)
          obtain ⟨_, _, ⟨hG1, hL1, hW1⟩, hq⟩ : e9 < 12 ∧ r_12 = nI e9 ∧ atG u_13 qg k0 g ga gb (fo_up L1 e9 (d e9)) (upd wt1 e9 0) (e9 + 1) vv 0 ∧ kx_fr w1 u_13 (fun j => j = qg ∨ j = qg + 1 ∨ j = qg + 2) := by
            rcases hp_11 with ⟨h0, _, _⟩ | h0
            · omega
            · exact h0
          have hz : True := trivial
          obtain hz9 := hz
          have f_14 : u_13[qg]? = some (g, .inr (1, [.ref ga, .ref gb, .int (nI (e9 + 1)), .int vv, .int 0])) := hG1
          have f_15 : u_13[qg + 1]? = some (ga, .inl (k0 0, 12, .inl (fun j => nI ((fo_up L1 e9 (d e9)) j)))) := hL1
          have f_16 : u_13[qg + 2]? = some (gb, .inl (k0 0, 12, .inl (upd wt1 e9 0))) := hW1
          have f_17 : u_13[qd]? = some (da, .inl (k0 0, 12, .inl (fun j => nI (d j)))) := by rw [hq _ (by omega)]; exact F12_3
          have hfr : kx_fr w0 u_13 (fun j => j = qg ∨ j = qg + 1 ∨ j = qg + 2) := kx_fr_tr hfr (kx_fr_mono hq (fun j h => h))
          refine lv_pop hx hb dX1_become_30 rfl ?_
          refine lv_iinc (v := nI (e9 + 1)) (lv' := [(3, .int (nI (e9 + 1))), (0, .ref g), (1, .ref da), (2, .int (nI m9))]) hx hb dX1_become_31 hl (k := 0) rfl (nI_1 _) (by decide) rfl (fun ls hl => ?_)
          refine lv_goto (tgt := 12) hx hb dX1_become_34 (by decide) ?_
          exact ih12 (e9 + 1) (fo_up L1 e9 (d e9)) (upd wt1 e9 0) (by omega) (fun j h => by
              rcases Nat.lt_or_ge j e9 with h2 | h2
              · rw [fo_up_lt _ _ h2]; exact hl1 j h2
              · rw [show j = e9 by omega, fo_up_self]) (fun j h => by
              by_cases h2 : j = e9
              · simp [upd, h2]
              · simp only [upd, if_neg h2]; exact hw1 j (by omega)) (by omega) u_13 f_14 f_15 f_16 f_17 hfr _ _ hP hD hS _ (lv_sub hl [0, 1, 2, 3] rfl)
  exact loop_12 (m9 + 1) 0 L wt (Nat.zero_le m9) (fun j h => absurd h (Nat.not_lt_zero j)) (fun j h => absurd h (Nat.not_lt_zero j)) (by omega) w_6 f_7 f_8 f_9 f_10 hfr _ _ hP hD hS _ (lv_sub hl [0, 1, 2, 3] rfl)

set_option maxHeartbeats 4000000 in
set_option maxRecDepth 100000 in
/-- Graph.met() -/
theorem c_met (l : Launch) (D : va_G) (k0 : Nat → ClassId) (w0 : va_W) (sz : Nat) (qg g ga gb : Nat) (L : Nat → Nat) (wt : Nat → Int32) (n : Nat) (vv oo : Int32) (hG : w0[qg]? = some (g, .inr (1, [.ref ga, .ref gb, .int (nI n), .int vv, .int oo]))) (hL : w0[qg + 1]? = some (ga, .inl (k0 0, 12, .inl (fun j => nI (L j))))) (hW : w0[qg + 2]? = some (gb, .inl (k0 0, 12, .inl wt))) (hn : n ≤ 12) : kx_i l yX1_met wsX1_met ({ frames := 0, cells := 0, slots := 0, locals := 0 } : Room) D (tyL k0) w0 sz [.ref g] (fun (r : Int32) (u : va_W) => r = nI (me_of L n) ∧ u = w0) 0 0 := by
  refine kx_of (Qf := fun A => va_Qi (fun (r : Int32) (u : va_W) => r = nI (me_of L n) ∧ u = w0) (kx_B D (tyL k0) A) A) (cc := cX1_met) (maxL := 3) (ret := (some .int)) (by decide +kernel) (Nat.le_of_ble_eq_true rfl) ?_
  intro p e s m below meth c A ls hx hb hml hown hts hr hlocks hnm hN hK hP hD hS hA hl
  have hown : s.vm.findClass RX1 = some m.cls := hown
  have hl : lv_has ls 3 [(0, .ref g)] := hl
  skip
  refine lv_iconst (v := nI 0) hx hb dX1_met_0 (by decide +kernel) ?_
  refine lv_istore_n (lv' := [(1, .int (nI 0)), (0, .ref g)]) hx hb dX1_met_1 rfl hl (by decide) rfl (fun ls hl => ?_)
  refine lv_iconst (v := nI 0) hx hb dX1_met_2 (by decide +kernel) ?_
  refine lv_istore_n (lv' := [(2, .int (nI 0)), (1, .int (nI 0)), (0, .ref g)]) hx hb dX1_met_3 rfl hl (by decide) rfl (fun ls hl => ?_)
  have loop_4 : ∀ (n4 : Nat) (e9 : Nat), (e9 ≤ n) → (n + 1 ≤ e9 + n4) → ∀ (H : Heap) (locs : List Loc), va_P D vwCl w0 H → va_D A w0 → va_S A s.heap H locs → ∀ (ls : Array Slot), lv_has ls 3 [(2, .int (nI e9)), (1, .int (nI (me_of L e9))), (0, .ref g)] → W p l e ({ frames := 0, cells := 0, slots := 0, locals := 0 } : Room) s m ([.ref g] : List Value).toArray below meth c H locs 0 0 (MQ below (va_Qi (fun (r : Int32) (u : va_W) => r = nI (me_of L n) ∧ u = w0) (kx_B D (tyL k0) A) A) ([.ref g] : List Value).toArray s 0 0 A) (F0 m 4 ls []) := by
    intro n4
    induction n4 with
    | zero =>
      intro e9 he hme
      exact absurd hme (by omega)
    | succ n4 ih4 =>
      intro e9 he hme  H locs hP hD hS ls hl
      refine lv_iload_n hx hb dX1_met_4 rfl (lv_at hl 0 rfl) ?_
      refine lv_aload_n hx hb dX1_met_5 rfl (lv_at hl 2 rfl) ?_
      refine va_get (D := D) (ci := 1) (v := .int (nI n)) (C := RX1) (T := TX1) (N := 5) hx hb hts inX1 hown hK hP qg hG rfl 2 (by decide) (hts _ tw_62) (fun _ h9 => h9) rfl dX1_met_6 ?_
      refine lv_icmp_ge (tgt := 27) hx hb dX1_met_9 (by decide) (fun c_9 => ?_) (fun c_9 => ?_)
      · skip
        have hik : e9 = n := by
          have := (nI_leI (by omega) (by omega)).mp c_9
          omega
        subst hik
        refine lv_iload_n hx hb dX1_met_27 rfl (lv_at hl 1 rfl) ?_
        exact kx_iret (v := nI (me_of L e9)) hx hb hr rfl hlocks hK hP hD hS dX1_met_28 (⟨rfl, rfl⟩)
      · skip
        have hik : e9 < n := by
          rcases Nat.lt_or_ge (e9) (n) with h | h
          · exact h
          · exact absurd ((nI_leI (by omega) (by omega)).mpr h) c_9
        refine lv_iload_n hx hb dX1_met_12 rfl (lv_at hl 1 rfl) ?_
        refine lv_aload_n hx hb dX1_met_13 rfl (lv_at hl 2 rfl) ?_
        refine va_get (D := D) (ci := 1) (v := .ref ga) (C := RX1) (T := TX1) (N := 5) hx hb hts inX1 hown hK hP qg hG rfl 0 (by decide) (hts _ tw_57) (fun _ h9 => h9) rfl dX1_met_14 ?_
        refine lv_iload_n hx hb dX1_met_17 rfl (lv_at hl 0 rfl) ?_
        refine kx_nald hx hb hK hP (qg + 1) hL rfl (i := e9) (by omega) (by decide) dX1_met_18 ?_
        refine lv_ior hx hb dX1_met_19 ?_
        refine lv_topi (fun z_1 ez_1 => ?_)
        have ez_1 : z_1 = nI (me_of L (e9 + 1)) := by rw [ez_1]; exact kb_or _ _
        subst ez_1
        refine lv_istore_n (lv' := [(1, .int (nI (me_of L (e9 + 1)))), (2, .int (nI e9)), (0, .ref g)]) hx hb dX1_met_20 rfl hl (by decide) rfl (fun ls hl => ?_)
        refine lv_iinc (v := nI (e9 + 1)) (lv' := [(2, .int (nI (e9 + 1))), (1, .int (nI (me_of L (e9 + 1)))), (0, .ref g)]) hx hb dX1_met_21 hl (k := 1) rfl (nI_1 _) (by decide) rfl (fun ls hl => ?_)
        refine lv_goto (tgt := 4) hx hb dX1_met_24 (by decide) ?_
        exact ih4 (e9 + 1) (by omega) (by omega) _ _ hP hD hS _ (lv_sub hl [0, 1, 2] rfl)
  exact loop_4 (n + 1) 0 (Nat.zero_le n) (by omega) _ _ hP hD hS _ (lv_sub hl [0, 1, 2] rfl)

set_option maxHeartbeats 4000000 in
set_option maxRecDepth 100000 in
/-- Graph.heaviest(set) -/
theorem c_heaviest (l : Launch) (D : va_G) (k0 : Nat → ClassId) (w0 : va_W) (sz : Nat) (qg g ga gb : Nat) (L : Nat → Nat) (wt : Nat → Int32) (n : Nat) (vv oo : Int32) (hG : w0[qg]? = some (g, .inr (1, [.ref ga, .ref gb, .int (nI n), .int vv, .int oo]))) (hL : w0[qg + 1]? = some (ga, .inl (k0 0, 12, .inl (fun j => nI (L j))))) (hW : w0[qg + 2]? = some (gb, .inl (k0 0, 12, .inl wt))) (hn : n ≤ 12) (S : Nat) (hSb : S < 2 ^ 31) : kx_i l yX1_heaviest wsX1_heaviest ({ frames := 1, cells := 0, slots := 0, locals := 24 } : Room) D (tyL k0) w0 sz [.ref g, .int (nI S)] (fun (r : Int32) (u : va_W) => r = nI (gy_hv wt S n).2 ∧ u = w0) 0 0 := by
  refine kx_of (Qf := fun A => va_Qi (fun (r : Int32) (u : va_W) => r = nI (gy_hv wt S n).2 ∧ u = w0) (kx_B D (tyL k0) A) A) (cc := cX1_heaviest) (maxL := 5) (ret := (some .int)) (by decide +kernel) (Nat.le_of_ble_eq_true rfl) ?_
  intro p e s m below meth c A ls hx hb hml hown hts hr hlocks hnm hN hK hP hD hS hA hl
  have hown : s.vm.findClass RX1 = some m.cls := hown
  have hl : lv_has ls 5 [(0, .ref g), (1, .int (nI S))] := hl
  skip
  refine lv_sipush (v := -1000) hx hb dX1_heaviest_0 (by decide +kernel) ?_
  refine lv_istore_n (lv' := [(2, .int (-1000)), (0, .ref g), (1, .int (nI S))]) hx hb dX1_heaviest_3 rfl hl (by decide) rfl (fun ls hl => ?_)
  refine lv_iconst (v := nI 0) hx hb dX1_heaviest_4 (by decide +kernel) ?_
  refine lv_istore_n (lv' := [(3, .int (nI 0)), (2, .int (-1000)), (0, .ref g), (1, .int (nI S))]) hx hb dX1_heaviest_5 rfl hl (by decide) rfl (fun ls hl => ?_)
  refine lv_iconst (v := nI 0) hx hb dX1_heaviest_6 (by decide +kernel) ?_
  refine lv_istore (lv' := [(4, .int (nI 0)), (3, .int (nI 0)), (2, .int (-1000)), (0, .ref g), (1, .int (nI S))]) hx hb dX1_heaviest_7 hl (by decide) rfl (fun ls hl => ?_)
  have loop_9 : ∀ (n9 : Nat) (e9 : Nat), (e9 ≤ n) → (n + 1 ≤ e9 + n9) → ∀ (H : Heap) (locs : List Loc), va_P D vwCl w0 H → va_D A w0 → va_S A s.heap H locs → ∀ (ls : Array Slot), lv_has ls 5 [(4, .int (nI e9)), (3, .int (nI (gy_hv wt S e9).2)), (2, .int ((gy_hv wt S e9).1)), (0, .ref g), (1, .int (nI S))] → W p l e ({ frames := 1, cells := 0, slots := 0, locals := 24 } : Room) s m ([.ref g, .int (nI S)] : List Value).toArray below meth c H locs 0 0 (MQ below (va_Qi (fun (r : Int32) (u : va_W) => r = nI (gy_hv wt S n).2 ∧ u = w0) (kx_B D (tyL k0) A) A) ([.ref g, .int (nI S)] : List Value).toArray s 0 0 A) (F0 m 9 ls []) := by
    intro n9
    induction n9 with
    | zero =>
      intro e9 he hme
      exact absurd hme (by omega)
    | succ n9 ih9 =>
      intro e9 he hme  H locs hP hD hS ls hl
      refine lv_iload hx hb dX1_heaviest_9 (lv_at hl 0 rfl) ?_
      refine lv_aload_n hx hb dX1_heaviest_11 rfl (lv_at hl 3 rfl) ?_
      refine va_get (D := D) (ci := 1) (v := .int (nI n)) (C := RX1) (T := TX1) (N := 5) hx hb hts inX1 hown hK hP qg hG rfl 2 (by decide) (hts _ tw_62) (fun _ h9 => h9) rfl dX1_heaviest_12 ?_
      refine lv_icmp_ge (tgt := 55) hx hb dX1_heaviest_15 (by decide) (fun c_15 => ?_) (fun c_15 => ?_)
      · skip
        have hik : e9 = n := by
          have := (nI_leI (by omega) (by omega)).mp c_15
          omega
        subst hik
        refine lv_iload_n hx hb dX1_heaviest_55 rfl (lv_at hl 1 rfl) ?_
        exact kx_iret (v := nI (gy_hv wt S e9).2) hx hb hr rfl hlocks hK hP hD hS dX1_heaviest_56 (⟨rfl, rfl⟩)
      · skip
        have hik : e9 < n := by
          rcases Nat.lt_or_ge (e9) (n) with h | h
          · exact h
          · exact absurd ((nI_leI (by omega) (by omega)).mpr h) c_15
        refine lv_iload_n hx hb dX1_heaviest_18 rfl (lv_at hl 4 rfl) ?_
        refine lv_iload hx hb dX1_heaviest_19 (lv_at hl 0 rfl) ?_
        refine kx_goi (va_runSN (As := [.int (nI S), .int (nI e9)]) (rest := []) ⟨hx, hb, hml, hown, hts⟩ (c_has l D k0 w0 _ S e9 hSb (by omega)) ⟨(kg_N (k := 2) hts tw_143 hN.2.2.2.1 tw_19 (by decide +kernel) rfl rfl ⟨Nat.le_of_ble_eq_true rfl, Nat.le_of_ble_eq_true rfl⟩), hts _ tw_142, trivial⟩ (kx_preS hN hK hP hD) rfl rfl hl.1 rfl (lv_room (Nat.le_of_ble_eq_true rfl)) dX1_heaviest_21 ⟨Nat.le_of_ble_eq_true rfl, Nat.le_of_ble_eq_true rfl⟩) hD hS hA (fun r_2 u_3 H locs hp_1 hP hD hS => ?_)
        obtain ⟨er_2, eu_3⟩ := hp_1
        rw [eu_3] at hP hD; subst er_2
        refine lv_if_eq (tgt := 49) hx hb dX1_heaviest_24 (by decide) (fun c_24 => ?_) (fun c_24 => ?_)
        · skip
          have ehv : gy_hv wt S (e9 + 1) = gy_hv wt S e9 := by
            show ite _ _ _ = _
            rw [if_neg (fun hq => absurd hq.1 (by rw [(kb_bool _).mp c_24]; exact Bool.false_ne_true))]
          rw [← ehv] at hl
          refine lv_iinc (v := nI (e9 + 1)) (lv' := [(4, .int (nI (e9 + 1))), (3, .int (nI (gy_hv wt S (e9 + 1)).2)), (2, .int ((gy_hv wt S (e9 + 1)).1)), (0, .ref g), (1, .int (nI S))]) hx hb dX1_heaviest_49 hl (k := 0) rfl (nI_1 _) (by decide) rfl (fun ls hl => ?_)
          refine lv_goto (tgt := 9) hx hb dX1_heaviest_52 (by decide) ?_
          exact ih9 (e9 + 1) (by omega) (by omega) _ _ hP hD hS _ (lv_sub hl [0, 1, 2, 3, 4] rfl)
        · skip
          have hS1 : S.testBit e9 = true := by
            cases hq9 : S.testBit e9 with
            | true => rfl
            | false => exact absurd ((kb_bool _).mpr hq9) c_24
          refine lv_aload_n hx hb dX1_heaviest_27 rfl (lv_at hl 3 rfl) ?_
          refine va_get (D := D) (ci := 1) (v := .ref gb) (C := RX1) (T := TX1) (N := 5) hx hb hts inX1 hown hK hP qg hG rfl 1 (by decide) (hts _ tw_60) (fun _ h9 => h9) rfl dX1_heaviest_28 ?_
          refine lv_iload hx hb dX1_heaviest_31 (lv_at hl 0 rfl) ?_
          refine kx_iald hx hb hK hP (qg + 2) hW rfl (i := e9) (by omega) (by decide) dX1_heaviest_33 ?_
          refine lv_iload_n hx hb dX1_heaviest_34 rfl (lv_at hl 2 rfl) ?_
          refine lv_icmp_le (tgt := 49) hx hb dX1_heaviest_35 (by decide) (fun c_35 => ?_) (fun c_35 => ?_)
          · skip
            have ehv : gy_hv wt S (e9 + 1) = gy_hv wt S e9 := by
              show ite _ _ _ = _
              rw [if_neg (fun hq => absurd hq.2 (Int32.not_lt.mpr c_35))]
            rw [← ehv] at hl
            refine lv_iinc (v := nI (e9 + 1)) (lv' := [(4, .int (nI (e9 + 1))), (3, .int (nI (gy_hv wt S (e9 + 1)).2)), (2, .int ((gy_hv wt S (e9 + 1)).1)), (0, .ref g), (1, .int (nI S))]) hx hb dX1_heaviest_49 hl (k := 0) rfl (nI_1 _) (by decide) rfl (fun ls hl => ?_)
            refine lv_goto (tgt := 9) hx hb dX1_heaviest_52 (by decide) ?_
            exact ih9 (e9 + 1) (by omega) (by omega) _ _ hP hD hS _ (lv_sub hl [0, 1, 2, 3, 4] rfl)
          · skip
            have ehv : gy_hv wt S (e9 + 1) = (wt e9, e9) := by
              show ite _ _ _ = _
              rw [if_pos ⟨hS1, Int32.not_le.mp c_35⟩]
            refine lv_aload_n hx hb dX1_heaviest_38 rfl (lv_at hl 3 rfl) ?_
            refine va_get (D := D) (ci := 1) (v := .ref gb) (C := RX1) (T := TX1) (N := 5) hx hb hts inX1 hown hK hP qg hG rfl 1 (by decide) (hts _ tw_60) (fun _ h9 => h9) rfl dX1_heaviest_39 ?_
            refine lv_iload hx hb dX1_heaviest_42 (lv_at hl 0 rfl) ?_
            refine kx_iald hx hb hK hP (qg + 2) hW rfl (i := e9) (by omega) (by decide) dX1_heaviest_44 ?_
            refine lv_topi (fun z_4 ez_4 => ?_)
            have ez_4 : z_4 = (gy_hv wt S (e9 + 1)).1 := by rw [ez_4]; rw [ehv]
            subst ez_4
            refine lv_istore_n (lv' := [(2, .int ((gy_hv wt S (e9 + 1)).1)), (4, .int (nI e9)), (3, .int (nI (gy_hv wt S e9).2)), (0, .ref g), (1, .int (nI S))]) hx hb dX1_heaviest_45 rfl hl (by decide) rfl (fun ls hl => ?_)
            refine lv_iload hx hb dX1_heaviest_46 (lv_at hl 1 rfl) ?_
            refine lv_topi (fun z_5 ez_5 => ?_)
            have ez_5 : z_5 = nI (gy_hv wt S (e9 + 1)).2 := by rw [ez_5]; rw [ehv]
            subst ez_5
            refine lv_istore_n (lv' := [(3, .int (nI (gy_hv wt S (e9 + 1)).2)), (2, .int ((gy_hv wt S (e9 + 1)).1)), (4, .int (nI e9)), (0, .ref g), (1, .int (nI S))]) hx hb dX1_heaviest_48 rfl hl (by decide) rfl (fun ls hl => ?_)
            refine lv_iinc (v := nI (e9 + 1)) (lv' := [(4, .int (nI (e9 + 1))), (3, .int (nI (gy_hv wt S (e9 + 1)).2)), (2, .int ((gy_hv wt S (e9 + 1)).1)), (0, .ref g), (1, .int (nI S))]) hx hb dX1_heaviest_49 hl (k := 2) rfl (nI_1 _) (by decide) rfl (fun ls hl => ?_)
            refine lv_goto (tgt := 9) hx hb dX1_heaviest_52 (by decide) ?_
            exact ih9 (e9 + 1) (by omega) (by omega) _ _ hP hD hS _ (lv_sub hl [0, 1, 2, 3, 4] rfl)
  exact loop_9 (n + 1) 0 (Nat.zero_le n) (by omega) _ _ hP hD hS _ (lv_sub hl [0, 1, 2, 3, 4] rfl)
end
section
/-! NEW CELLS: they come behind the others -/
theorem kx_push_old {ws : va_W} {x y : Nat × va_E} {r : Nat} (h : ws[r]? = some y) : (ws ++ [x])[r]? = some y := by
  rw [List.getElem?_append_left (List.getElem?_eq_some_iff.mp h).1]; exact h
theorem kx_push_new {ws : va_W} {x : Nat × va_E} {n : Nat} (h : ws.length = n) : (ws ++ [x])[n]? = some x := by
  subst h; simp
theorem kx_push_len {ws : va_W} {x : Nat × va_E} {n : Nat} (h : ws.length = n) : (ws ++ [x]).length = n + 1 := by
  subst h; simp
theorem kx_set_len {ws : va_W} {x : Nat × va_E} {q n : Nat} (h : ws.length = n) : (ws.set q x).length = n := by
  rw [List.length_set]; exact h
theorem kx_fr_push {ws : va_W} {x : Nat × va_E} {P : Nat → Prop} (h : P ws.length) : kx_fr ws (ws ++ [x]) P := fun k hk => by
  rcases Nat.lt_trichotomy k ws.length with q | q | q
  · rw [List.getElem?_append_left q]
  · rw [q] at hk; exact absurd h hk
  · rw [List.getElem?_eq_none (by simp; omega), List.getElem?_eq_none (by omega)]
section KXN
variable {p : Program} {l : Launch} {e : Env} {R : Room} {s : State} {m : MethodId} {args : Array Value} {below : List Frame} {meth : Method} {c : Code} {H : Heap} {locs : List Loc} {cells slots : Nat} {Q : State → Prop}
variable {pc : Nat} {ls : Array Slot} {rest : List Value} {A : Nat → Prop} {H0 : Heap} {D : va_G} {k0 : Nat → ClassId} {ws : va_W} {cc : ByteArray} {a : Nat} {n : Nat}
theorem kx_newi (hx : p.tables.exec = Jvm.exec) (hb : c.code = cc) (harr : (Cond.arrayClass .int).before args s = true) (hK : va_K D vwCl (tyL k0) s) (hP : va_P D vwCl ws H) (hD : va_D A ws) (hS : va_S A H0 H locs) (hA : ∀ q, H0.size ≤ q → A q) (hn : n < 2 ^ 20) (hcells : cells + 1 ≤ R.cells) (hslots : slots + n ≤ R.slots) (hdg : decode cc pc = .ok (.newarray .int, 2))
    (kk : ∀ (q : Nat) (H1 : Heap), va_P D vwCl (ws ++ [(q, .inl (k0 0, n, .inl (fun _ => nI 0)))]) H1 → va_D A (ws ++ [(q, .inl (k0 0, n, .inl (fun _ => nI 0)))]) → va_S A H0 H1 locs → W p l e R s m args below meth c H1 locs (cells + 1) (slots + n) Q (F0 m (pc + 2) ls (.ref q :: rest))) : W p l e R s m args below meth c H locs cells slots Q (F0 m pc ls (.int (nI n) :: rest)) := by
  refine va_newa (atype := .int) (ty := .int) (N' := n) (a0 := (n, .inl (fun _ => nI 0))) hx hb harr rfl hK hP hD hS hA (fun cA => rfl) (nI_pos (by omega)) (nI_clamp (by omega)) (by show n * 4 ≤ _; omega) hcells hslots hdg (fun q cA H1 hK1 hP1 hD1 hS1 => ?_)
  have e1 := (hK1.2 4 (cA, .int) rfl).2
  have e2 := (hK.2 0 (k0 0, .int) rfl).2
  have e3 : cA = k0 0 := Option.some.inj (e1.symm.trans e2)
  subst e3
  exact kk q H1 hP1 hD1 hS1
theorem kx_newz (hx : p.tables.exec = Jvm.exec) (hb : c.code = cc) (harr : (Cond.arrayClass .boolean).before args s = true) (hK : va_K D vwCl (tyL k0) s) (hP : va_P D vwCl ws H) (hD : va_D A ws) (hS : va_S A H0 H locs) (hA : ∀ q, H0.size ≤ q → A q) (hn : n < 2 ^ 20) (hcells : cells + 1 ≤ R.cells) (hslots : slots + n ≤ R.slots) (hdg : decode cc pc = .ok (.newarray .boolean, 2))
    (kk : ∀ (q : Nat) (H1 : Heap), va_P D vwCl (ws ++ [(q, .inl (k0 2, n, .inl (fun _ => nI 0)))]) H1 → va_D A (ws ++ [(q, .inl (k0 2, n, .inl (fun _ => nI 0)))]) → va_S A H0 H1 locs → W p l e R s m args below meth c H1 locs (cells + 1) (slots + n) Q (F0 m (pc + 2) ls (.ref q :: rest))) : W p l e R s m args below meth c H locs cells slots Q (F0 m pc ls (.int (nI n) :: rest)) := by
  refine va_newa (atype := .boolean) (ty := .boolean) (N' := n) (a0 := (n, .inl (fun _ => nI 0))) hx hb harr rfl hK hP hD hS hA (fun cA => rfl) (nI_pos (by omega)) (nI_clamp (by omega)) (by show n * 1 ≤ _; omega) hcells hslots hdg (fun q cA H1 hK1 hP1 hD1 hS1 => ?_)
  have e1 := (hK1.2 4 (cA, .boolean) rfl).2
  have e2 := (hK.2 2 (k0 2, .boolean) rfl).2
  have e3 : cA = k0 2 := Option.some.inj (e1.symm.trans e2)
  subst e3
  exact kk q H1 hP1 hD1 hS1
theorem kx_newb (hx : p.tables.exec = Jvm.exec) (hb : c.code = cc) (harr : (Cond.arrayClass .byte).before args s = true) (hK : va_K D vwCl (tyL k0) s) (hP : va_P D vwCl ws H) (hD : va_D A ws) (hS : va_S A H0 H locs) (hA : ∀ q, H0.size ≤ q → A q) (hn : n < 2 ^ 20) (hcells : cells + 1 ≤ R.cells) (hslots : slots + n ≤ R.slots) (hdg : decode cc pc = .ok (.newarray .byte, 2))
    (kk : ∀ (q : Nat) (H1 : Heap), va_P D vwCl (ws ++ [(q, .inl (k0 3, n, .inl (fun _ => nI 0)))]) H1 → va_D A (ws ++ [(q, .inl (k0 3, n, .inl (fun _ => nI 0)))]) → va_S A H0 H1 locs → W p l e R s m args below meth c H1 locs (cells + 1) (slots + n) Q (F0 m (pc + 2) ls (.ref q :: rest))) : W p l e R s m args below meth c H locs cells slots Q (F0 m pc ls (.int (nI n) :: rest)) := by
  refine va_newa (atype := .byte) (ty := .byte) (N' := n) (a0 := (n, .inl (fun _ => nI 0))) hx hb harr rfl hK hP hD hS hA (fun cA => rfl) (nI_pos (by omega)) (nI_clamp (by omega)) (by show n * 1 ≤ _; omega) hcells hslots hdg (fun q cA H1 hK1 hP1 hD1 hS1 => ?_)
  have e1 := (hK1.2 4 (cA, .byte) rfl).2
  have e2 := (hK.2 3 (k0 3, .byte) rfl).2
  have e3 : cA = k0 3 := Option.some.inj (e1.symm.trans e2)
  subst e3
  exact kk q H1 hP1 hD1 hS1
theorem kx_newq {own : String} {index : Nat} (hx : p.tables.exec = Jvm.exec) (hb : c.code = cc) (hown : s.vm.findClass own = some m.cls) (hcl : (Cond.classLink own index RX1).before args s = true) (hN : kx_nest s) (hK : va_K D vwCl (tyL k0) s) (hP : va_P D vwCl ws H) (hD : va_D A ws) (hS : va_S A H0 H locs) (hA : ∀ q, H0.size ≤ q → A q) (hn : n < 2 ^ 20) (hcells : cells + 1 ≤ R.cells) (hslots : slots + n ≤ R.slots) (hdg : decode cc pc = .ok (.anewarray index, 3))
    (kk : ∀ (q : Nat) (H1 : Heap), va_P D vwCl (ws ++ [(q, .inl (k0 1, n, .inr (.inr (.inr (.inr (fun _ => none))))))]) H1 → va_D A (ws ++ [(q, .inl (k0 1, n, .inr (.inr (.inr (.inr (fun _ => none))))))]) → va_S A H0 H1 locs → W p l e R s m args below meth c H1 locs (cells + 1) (slots + n) Q (F0 m (pc + 3) ls (.ref q :: rest))) : W p l e R s m args below meth c H locs cells slots Q (F0 m pc ls (.int (nI n) :: rest)) := by
  refine va_newq (C := RX1) (N' := n) hx hb hown hcl hN.2.2.2.2 hK hP hD hS hA (nI_pos (by omega)) (nI_clamp (by omega)) (by omega) hcells hslots hdg (fun q cA H1 hK1 hP1 hD1 hS1 => ?_)
  obtain ⟨_, _, _, _, _, e1⟩ := (hK1.2 4 (cA, .object RX1) rfl).2
  obtain ⟨_, _, _, _, _, e2⟩ := (hK.2 1 (k0 1, .object RX1) rfl).2
  have e3 : cA = k0 1 := Option.some.inj (e1.symm.trans e2)
  subst e3
  exact kk q H1 hP1 hD1 hS1
/-- arrays of booleans and of bytes that hold small numbers -/
theorem kx_zald {g : Nat → Nat} (hx : p.tables.exec = Jvm.exec) (hb : c.code = cc) (hK : va_K D vwCl (tyL k0) s) (hP : va_P D vwCl ws H) (q0 : Nat) (ha : ws[q0]? = some (a, .inl (k0 2, n, .inl (fun j => nI (g j))))) (_h : True = True) {i : Nat} (hi : i < n) (hn : n < 2 ^ 31) (hdg : decode cc pc = .ok (.baload, 1))
    (kk : W p l e R s m args below meth c H locs cells slots Q (F0 m (pc + 1) ls (.int (nI (g i)) :: rest))) : W p l e R s m args below meth c H locs cells slots Q (F0 m pc ls (.int (nI i) :: .ref a :: rest)) := by
  refine va_zald hx hb hK hP q0 2 ha rfl (vp_in_nI hi hn) hdg ?_
  rw [nI_clamp (Nat.lt_trans hi hn)]
  exact kk
theorem kx_bald {g : Nat → Nat} (hx : p.tables.exec = Jvm.exec) (hb : c.code = cc) (hK : va_K D vwCl (tyL k0) s) (hP : va_P D vwCl ws H) (q0 : Nat) (ha : ws[q0]? = some (a, .inl (k0 3, n, .inl (fun j => nI (g j))))) (_h : True = True) {i : Nat} (hi : i < n) (hn : n < 2 ^ 31) (hdg : decode cc pc = .ok (.baload, 1))
    (kk : W p l e R s m args below meth c H locs cells slots Q (F0 m (pc + 1) ls (.int (nI (g i)) :: rest))) : W p l e R s m args below meth c H locs cells slots Q (F0 m pc ls (.int (nI i) :: .ref a :: rest)) := by
  refine va_bald hx hb hK hP q0 3 ha rfl (vp_in_nI hi hn) hdg ?_
  rw [nI_clamp (Nat.lt_trans hi hn)]
  exact kk
end KXN
end
section
theorem kb_nb : ∀ x, x < 128 → vp_nar .byte (nI x) = nI x := by decide +kernel
theorem kb_nz : ∀ x, x < 2 → vp_nar .boolean (nI x) = nI x := by decide +kernel
section KXO
variable {p : Program} {l : Launch} {e : Env} {R : Room} {s : State} {m : MethodId} {args : Array Value} {below : List Frame} {meth : Method} {c : Code} {H : Heap} {locs : List Loc} {cells slots : Nat} {Q : State → Prop}
variable {pc : Nat} {ls : Array Slot} {rest : List Value} {A : Nat → Prop} {H0 : Heap} {D : va_G} {k0 : Nat → ClassId} {ws : va_W} {cc : ByteArray} {a : Nat} {n : Nat}
theorem kx_znast {g : Nat → Nat} (hx : p.tables.exec = Jvm.exec) (hb : c.code = cc) (hK : va_K D vwCl (tyL k0) s) (hP : va_P D vwCl ws H) (hD : va_D A ws) (hS : va_S A H0 H locs) (q0 : Nat) (ha : ws[q0]? = some (a, .inl (k0 2, n, .inl (fun j => nI (g j))))) (_h : True = True) {i x : Nat} (hi : i < n) (hn : n < 2 ^ 31) (hf : x < 2) (hdg : decode cc pc = .ok (.bastore, 1))
    (kk : ∀ (H1 : Heap) (locs1 : List Loc), va_P D vwCl (ws.set q0 (a, .inl (k0 2, n, .inl (fun j => nI (fo_up g i x j))))) H1 → va_D A (ws.set q0 (a, .inl (k0 2, n, .inl (fun j => nI (fo_up g i x j))))) → va_S A H0 H1 locs1 → W p l e R s m args below meth c H1 locs1 cells slots Q (F0 m (pc + 1) ls rest)) : W p l e R s m args below meth c H locs cells slots Q (F0 m pc ls (.int (nI x) :: .int (nI i) :: .ref a :: rest)) := by
  refine va_zast hx hb hK hP hD hS q0 2 ha rfl (vp_in_nI hi hn) hdg ?_
  rw [nI_clamp (Nat.lt_trans hi hn), kb_nz x hf, kx_updN]
  exact kk
theorem kx_bnast {g : Nat → Nat} (hx : p.tables.exec = Jvm.exec) (hb : c.code = cc) (hK : va_K D vwCl (tyL k0) s) (hP : va_P D vwCl ws H) (hD : va_D A ws) (hS : va_S A H0 H locs) (q0 : Nat) (ha : ws[q0]? = some (a, .inl (k0 3, n, .inl (fun j => nI (g j))))) (_h : True = True) {i x : Nat} (hi : i < n) (hn : n < 2 ^ 31) (hf : x < 128) (hdg : decode cc pc = .ok (.bastore, 1))
    (kk : ∀ (H1 : Heap) (locs1 : List Loc), va_P D vwCl (ws.set q0 (a, .inl (k0 3, n, .inl (fun j => nI (fo_up g i x j))))) H1 → va_D A (ws.set q0 (a, .inl (k0 3, n, .inl (fun j => nI (fo_up g i x j))))) → va_S A H0 H1 locs1 → W p l e R s m args below meth c H1 locs1 cells slots Q (F0 m (pc + 1) ls rest)) : W p l e R s m args below meth c H locs cells slots Q (F0 m pc ls (.int (nI x) :: .int (nI i) :: .ref a :: rest)) := by
  refine va_bast hx hb hK hP hD hS q0 3 ha rfl (vp_in_nI hi hn) hdg ?_
  rw [nI_clamp (Nat.lt_trans hi hn), kb_nb x hf, kx_updN]
  exact kk
theorem kx_qast (hx : p.tables.exec = Jvm.exec) (hb : c.code = cc) (hK : va_K D vwCl (tyL k0) s) (hP : va_P D vwCl ws H) (hD : va_D A ws) (hS : va_S A H0 H locs) (q0 qk : Nat) {v : Nat} {vs : List Value} {f : Nat → Option Nat} (ha : ws[q0]? = some (a, .inl (k0 1, n, .inr (.inr (.inr (.inr f)))))) (hv : ws[qk]? = some (v, .inr (1, vs))) {i : Nat} (hi : i < n) (hn : n < 2 ^ 31) (hdg : decode cc pc = .ok (.aastore, 1))
    (kk : ∀ (H1 : Heap) (locs1 : List Loc), va_P D vwCl (ws.set q0 (a, .inl (k0 1, n, .inr (.inr (.inr (.inr (va_up f i (some v)))))))) H1 → va_D A (ws.set q0 (a, .inl (k0 1, n, .inr (.inr (.inr (.inr (va_up f i (some v)))))))) → va_S A H0 H1 locs1 → W p l e R s m args below meth c H1 locs1 cells slots Q (F0 m (pc + 1) ls rest)) : W p l e R s m args below meth c H locs cells slots Q (F0 m pc ls (.ref v :: .int (nI i) :: .ref a :: rest)) := by
  refine va_astq hx hb hK hP hD hS q0 1 qk 1 (r := (RX1, TX1, 5)) ha rfl hv rfl (vp_in_nI hi hn) hdg ?_
  rw [nI_clamp (Nat.lt_trans hi hn)]
  exact kk
end KXO
end
section
set_option maxHeartbeats 4000000 in
set_option maxRecDepth 100000 in
/-- Forest() -/
theorem c_Finit (l : Launch) (D : va_G) (k0 : Nat → ClassId) (w0 : va_W) (sz : Nat) (q f : Nat) (hF : w0[q]? = some (f, .inr (0, [.null, .null, .int 0]))) (hlen : w0.length = q + 1) : kx_v l yX0_init wsX0_init ({ frames := 1, cells := 2, slots := 24, locals := 24 } : Room) D (tyL k0) w0 sz [.ref f] (fun (u : va_W) => ∃ ra pa, atF u q k0 f ra pa (fun _ => 0) (fun _ => 0) 0 ∧ u.length = q + 3 ∧ kx_fr w0 u (fun j => q ≤ j)) 2 24 := by
  refine kx_of (Qf := fun A => va_Qv (fun (u : va_W) => ∃ ra pa, atF u q k0 f ra pa (fun _ => 0) (fun _ => 0) 0 ∧ u.length = q + 3 ∧ kx_fr w0 u (fun j => q ≤ j)) (kx_B D (tyL k0) A) A) (cc := cX0_init) (maxL := 1) (ret := none) (by decide +kernel) (Nat.le_of_ble_eq_true rfl) ?_
  intro p e s m below meth c A ls hx hb hml hown hts hr hlocks hnm hN hK hP hD hS hA hl
  have hown : s.vm.findClass RX0 = some m.cls := hown
  have hl : lv_has ls 1 [(0, .ref f)] := hl
  have hfr : kx_fr w0 w0 (fun j => q ≤ j) := kx_fr_rf _ _
  refine lv_aload_n hx hb dX0_init_0 rfl (lv_at hl 0 rfl) ?_
  refine W.objInit hx hb hown (hts _ tw_40) (hts _ tw_31) (hts _ tw_obj) rfl (by rw [hml]; exact hl.1) rfl dX0_init_1 (Nat.le_of_ble_eq_true rfl) (Nat.le_of_ble_eq_true rfl) ?_
  refine W.eq (g2 := F0 m 4 ls []) rfl ?_
  refine lv_aload_n hx hb dX0_init_4 rfl (lv_at hl 0 rfl) ?_
  refine lv_bipush (v := nI 12) hx hb dX0_init_5 (by decide +kernel) ?_
  refine kx_newi hx hb (hts _ tw_51) hK hP hD hS hA (n := 12) (by decide) (by show 0 + 1 ≤ (2 : Nat); omega) (by show 0 + 12 ≤ (24 : Nat); omega) dX0_init_7 (fun qa_1 H hP hD hS => ?_)
  obtain ⟨w_2, ew_2⟩ : ∃ w, w = w0 ++ [(qa_1, .inl (k0 0, 12, .inl (fun j => nI ((fun _ => 0) j))))] := ⟨_, rfl⟩
  have hP : va_P D vwCl w_2 H := by rw [ew_2]; exact hP
  have hD : va_D A w_2 := by rw [ew_2]; exact hD
  have f_3 : w_2[q]? = some (f, .inr (0, [.null, .null, .int 0])) := by rw [ew_2]; exact kx_push_old hF
  have f_4 : w_2[q + 1]? = some (qa_1, .inl (k0 0, 12, .inl (fun j => nI ((fun _ => 0) j)))) := by rw [ew_2]; exact kx_push_new hlen
  have hfr : kx_fr w0 w_2 (fun j => q ≤ j) := kx_fr_tr hfr (by rw [ew_2]; exact kx_fr_push (by rw [hlen]; omega))
  have hlen : w_2.length = q + 2 := by rw [ew_2]; exact kx_push_len hlen
  refine va_putF (D := D) (ci := 0) (v := .ref qa_1) (ty := .array .int) (C := RX0) (T := TX0) (N := 3) hx hb hts inX0 tyX0 tyX0_ok nmX0 hown hK hP hD hS q f_3 rfl 0 (by decide) (hts _ tw_41) (fun _ h9 => h9) rfl hnm rfl (by decide +kernel) rfl rfl (Nat.le_of_ble_eq_true rfl) dX0_init_9 (fun H locs hP hD hS => ?_)
  obtain ⟨w_5, ew_5⟩ : ∃ w, w = w_2.set q (f, .inr (0, [.ref qa_1, .null, .int 0])) := ⟨_, rfl⟩
  have hP : va_P D vwCl w_5 H := by rw [ew_5]; exact hP
  have hD : va_D A w_5 := by rw [ew_5]; exact hD
  have f_6 : w_5[q]? = some (f, .inr (0, [.ref qa_1, .null, .int 0])) := by rw [ew_5]; exact kx_set_self f_3
  have f_7 : w_5[q + 1]? = some (qa_1, .inl (k0 0, 12, .inl (fun j => nI ((fun _ => 0) j)))) := by rw [ew_5]; exact kx_set_ne f_4 (by omega)
  have hfr : kx_fr w0 w_5 (fun j => q ≤ j) := kx_fr_tr hfr (by rw [ew_5]; exact kx_fr_set (by omega))
  have hlen : w_5.length = q + 2 := by rw [ew_5]; exact kx_set_len hlen
  refine lv_aload_n hx hb dX0_init_12 rfl (lv_at hl 0 rfl) ?_
  refine lv_bipush (v := nI 12) hx hb dX0_init_13 (by decide +kernel) ?_
  refine kx_newi hx hb (hts _ tw_51) hK hP hD hS hA (n := 12) (by decide) (by show (0 + 1) + 1 ≤ (2 : Nat); omega) (by show (0 + 12) + 12 ≤ (24 : Nat); omega) dX0_init_15 (fun qa_8 H hP hD hS => ?_)
  obtain ⟨w_9, ew_9⟩ : ∃ w, w = w_5 ++ [(qa_8, .inl (k0 0, 12, .inl (fun j => nI ((fun _ => 0) j))))] := ⟨_, rfl⟩
  have hP : va_P D vwCl w_9 H := by rw [ew_9]; exact hP
  have hD : va_D A w_9 := by rw [ew_9]; exact hD
  have f_10 : w_9[q]? = some (f, .inr (0, [.ref qa_1, .null, .int 0])) := by rw [ew_9]; exact kx_push_old f_6
  have f_11 : w_9[q + 1]? = some (qa_1, .inl (k0 0, 12, .inl (fun j => nI ((fun _ => 0) j)))) := by rw [ew_9]; exact kx_push_old f_7
  have f_12 : w_9[q + 2]? = some (qa_8, .inl (k0 0, 12, .inl (fun j => nI ((fun _ => 0) j)))) := by rw [ew_9]; exact kx_push_new hlen
  have hfr : kx_fr w0 w_9 (fun j => q ≤ j) := kx_fr_tr hfr (by rw [ew_9]; exact kx_fr_push (by rw [hlen]; omega))
  have hlen : w_9.length = q + 3 := by rw [ew_9]; exact kx_push_len hlen
  refine va_putF (D := D) (ci := 0) (v := .ref qa_8) (ty := .array .int) (C := RX0) (T := TX0) (N := 3) hx hb hts inX0 tyX0 tyX0_ok nmX0 hown hK hP hD hS q f_10 rfl 1 (by decide) (hts _ tw_42) (fun _ h9 => h9) rfl hnm rfl (by decide +kernel) rfl rfl (Nat.le_of_ble_eq_true rfl) dX0_init_17 (fun H locs hP hD hS => ?_)
  obtain ⟨w_13, ew_13⟩ : ∃ w, w = w_9.set q (f, .inr (0, [.ref qa_1, .ref qa_8, .int 0])) := ⟨_, rfl⟩
  have hP : va_P D vwCl w_13 H := by rw [ew_13]; exact hP
  have hD : va_D A w_13 := by rw [ew_13]; exact hD
  have f_14 : w_13[q]? = some (f, .inr (0, [.ref qa_1, .ref qa_8, .int 0])) := by rw [ew_13]; exact kx_set_self f_10
  have f_15 : w_13[q + 1]? = some (qa_1, .inl (k0 0, 12, .inl (fun j => nI ((fun _ => 0) j)))) := by rw [ew_13]; exact kx_set_ne f_11 (by omega)
  have f_16 : w_13[q + 2]? = some (qa_8, .inl (k0 0, 12, .inl (fun j => nI ((fun _ => 0) j)))) := by rw [ew_13]; exact kx_set_ne f_12 (by omega)
  have hfr : kx_fr w0 w_13 (fun j => q ≤ j) := kx_fr_tr hfr (by rw [ew_13]; exact kx_fr_set (by omega))
  have hlen : w_13.length = q + 3 := by rw [ew_13]; exact kx_set_len hlen
  refine lv_aload_n hx hb dX0_init_20 rfl (lv_at hl 0 rfl) ?_
  refine lv_iconst (v := nI 0) hx hb dX0_init_21 (by decide +kernel) ?_
  refine va_put (D := D) (ci := 0) (v := .int (nI 0)) (ty := .int) (C := RX0) (T := TX0) (N := 3) hx hb hts inX0 tyX0 tyX0_ok nmX0 hown hK hP hD hS q f_14 rfl 2 (by decide) (hts _ tw_43) (fun _ h9 => h9) rfl (by decide +kernel) rfl rfl (Nat.le_of_ble_eq_true rfl) dX0_init_22 (fun H locs hP hD hS => ?_)
  obtain ⟨w_17, ew_17⟩ : ∃ w, w = w_13.set q (f, .inr (0, [.ref qa_1, .ref qa_8, .int (nI 0)])) := ⟨_, rfl⟩
  have hP : va_P D vwCl w_17 H := by rw [ew_17]; exact hP
  have hD : va_D A w_17 := by rw [ew_17]; exact hD
  have f_18 : w_17[q]? = some (f, .inr (0, [.ref qa_1, .ref qa_8, .int (nI 0)])) := by rw [ew_17]; exact kx_set_self f_14
  have f_19 : w_17[q + 1]? = some (qa_1, .inl (k0 0, 12, .inl (fun j => nI ((fun _ => 0) j)))) := by rw [ew_17]; exact kx_set_ne f_15 (by omega)
  have f_20 : w_17[q + 2]? = some (qa_8, .inl (k0 0, 12, .inl (fun j => nI ((fun _ => 0) j)))) := by rw [ew_17]; exact kx_set_ne f_16 (by omega)
  have hfr : kx_fr w0 w_17 (fun j => q ≤ j) := kx_fr_tr hfr (by rw [ew_17]; exact kx_fr_set (by omega))
  have hlen : w_17.length = q + 3 := by rw [ew_17]; exact kx_set_len hlen
  refine W.widen (k := 2) (n := 24) (by omega) (by omega) ?_
  exact kx_vret hx hb hr hlocks hK hP hD hS dX0_init_25 (⟨_, _, ⟨f_18, by first | exact f_8 | assumption, by assumption⟩, hlen, hfr⟩)

set_option maxHeartbeats 4000000 in
set_option maxRecDepth 100000 in
/-- Graph() -/
theorem c_Ginit (l : Launch) (D : va_G) (k0 : Nat → ClassId) (w0 : va_W) (sz : Nat) (qg g : Nat) (hG : w0[qg]? = some (g, .inr (1, [.null, .null, .int 0, .int 0, .int 0]))) (hlen : w0.length = qg + 1) : kx_v l yX1_init wsX1_init ({ frames := 1, cells := 2, slots := 24, locals := 24 } : Room) D (tyL k0) w0 sz [.ref g] (fun (u : va_W) => ∃ ga gb, atG u qg k0 g ga gb (fun _ => 0) (fun _ => nI 0) 0 (nI 1) 1 ∧ u.length = qg + 3 ∧ kx_fr w0 u (fun j => qg ≤ j)) 2 24 := by
  refine kx_of (Qf := fun A => va_Qv (fun (u : va_W) => ∃ ga gb, atG u qg k0 g ga gb (fun _ => 0) (fun _ => nI 0) 0 (nI 1) 1 ∧ u.length = qg + 3 ∧ kx_fr w0 u (fun j => qg ≤ j)) (kx_B D (tyL k0) A) A) (cc := cX1_init) (maxL := 1) (ret := none) (by decide +kernel) (Nat.le_of_ble_eq_true rfl) ?_
  intro p e s m below meth c A ls hx hb hml hown hts hr hlocks hnm hN hK hP hD hS hA hl
  have hown : s.vm.findClass RX1 = some m.cls := hown
  have hl : lv_has ls 1 [(0, .ref g)] := hl
  have hfr : kx_fr w0 w0 (fun j => qg ≤ j) := kx_fr_rf _ _
  refine lv_aload_n hx hb dX1_init_0 rfl (lv_at hl 0 rfl) ?_
  refine W.objInit hx hb hown (hts _ tw_56) (hts _ tw_31) (hts _ tw_obj) rfl (by rw [hml]; exact hl.1) rfl dX1_init_1 (Nat.le_of_ble_eq_true rfl) (Nat.le_of_ble_eq_true rfl) ?_
  refine W.eq (g2 := F0 m 4 ls []) rfl ?_
  refine lv_aload_n hx hb dX1_init_4 rfl (lv_at hl 0 rfl) ?_
  refine lv_bipush (v := nI 12) hx hb dX1_init_5 (by decide +kernel) ?_
  refine kx_newi hx hb (hts _ tw_51) hK hP hD hS hA (n := 12) (by decide) (by show 0 + 1 ≤ (2 : Nat); omega) (by show 0 + 12 ≤ (24 : Nat); omega) dX1_init_7 (fun qa_1 H hP hD hS => ?_)
  obtain ⟨w_2, ew_2⟩ : ∃ w, w = w0 ++ [(qa_1, .inl (k0 0, 12, .inl (fun j => nI ((fun _ => 0) j))))] := ⟨_, rfl⟩
  have hP : va_P D vwCl w_2 H := by rw [ew_2]; exact hP
  have hD : va_D A w_2 := by rw [ew_2]; exact hD
  have f_3 : w_2[qg]? = some (g, .inr (1, [.null, .null, .int 0, .int 0, .int 0])) := by rw [ew_2]; exact kx_push_old hG
  have f_4 : w_2[qg + 1]? = some (qa_1, .inl (k0 0, 12, .inl (fun j => nI ((fun _ => 0) j)))) := by rw [ew_2]; exact kx_push_new hlen
  have hfr : kx_fr w0 w_2 (fun j => qg ≤ j) := kx_fr_tr hfr (by rw [ew_2]; exact kx_fr_push (by rw [hlen]; omega))
  have hlen : w_2.length = qg + 2 := by rw [ew_2]; exact kx_push_len hlen
  refine va_putF (D := D) (ci := 1) (v := .ref qa_1) (ty := .array .int) (C := RX1) (T := TX1) (N := 5) hx hb hts inX1 tyX1 tyX1_ok nmX1 hown hK hP hD hS qg f_3 rfl 0 (by decide) (hts _ tw_57) (fun _ h9 => h9) rfl hnm rfl (by decide +kernel) rfl rfl (Nat.le_of_ble_eq_true rfl) dX1_init_9 (fun H locs hP hD hS => ?_)
  obtain ⟨w_5, ew_5⟩ : ∃ w, w = w_2.set qg (g, .inr (1, [.ref qa_1, .null, .int 0, .int 0, .int 0])) := ⟨_, rfl⟩
  have hP : va_P D vwCl w_5 H := by rw [ew_5]; exact hP
  have hD : va_D A w_5 := by rw [ew_5]; exact hD
  have f_6 : w_5[qg]? = some (g, .inr (1, [.ref qa_1, .null, .int 0, .int 0, .int 0])) := by rw [ew_5]; exact kx_set_self f_3
  have f_7 : w_5[qg + 1]? = some (qa_1, .inl (k0 0, 12, .inl (fun j => nI ((fun _ => 0) j)))) := by rw [ew_5]; exact kx_set_ne f_4 (by omega)
  have hfr : kx_fr w0 w_5 (fun j => qg ≤ j) := kx_fr_tr hfr (by rw [ew_5]; exact kx_fr_set (by omega))
  have hlen : w_5.length = qg + 2 := by rw [ew_5]; exact kx_set_len hlen
  refine lv_aload_n hx hb dX1_init_12 rfl (lv_at hl 0 rfl) ?_
  refine lv_bipush (v := nI 12) hx hb dX1_init_13 (by decide +kernel) ?_
  refine kx_newi hx hb (hts _ tw_51) hK hP hD hS hA (n := 12) (by decide) (by show (0 + 1) + 1 ≤ (2 : Nat); omega) (by show (0 + 12) + 12 ≤ (24 : Nat); omega) dX1_init_15 (fun qa_8 H hP hD hS => ?_)
  obtain ⟨w_9, ew_9⟩ : ∃ w, w = w_5 ++ [(qa_8, .inl (k0 0, 12, .inl (fun _ => nI 0)))] := ⟨_, rfl⟩
  have hP : va_P D vwCl w_9 H := by rw [ew_9]; exact hP
  have hD : va_D A w_9 := by rw [ew_9]; exact hD
  have f_10 : w_9[qg]? = some (g, .inr (1, [.ref qa_1, .null, .int 0, .int 0, .int 0])) := by rw [ew_9]; exact kx_push_old f_6
  have f_11 : w_9[qg + 1]? = some (qa_1, .inl (k0 0, 12, .inl (fun j => nI ((fun _ => 0) j)))) := by rw [ew_9]; exact kx_push_old f_7
  have f_12 : w_9[qg + 2]? = some (qa_8, .inl (k0 0, 12, .inl (fun _ => nI 0))) := by rw [ew_9]; exact kx_push_new hlen
  have hfr : kx_fr w0 w_9 (fun j => qg ≤ j) := kx_fr_tr hfr (by rw [ew_9]; exact kx_fr_push (by rw [hlen]; omega))
  have hlen : w_9.length = qg + 3 := by rw [ew_9]; exact kx_push_len hlen
  refine va_putF (D := D) (ci := 1) (v := .ref qa_8) (ty := .array .int) (C := RX1) (T := TX1) (N := 5) hx hb hts inX1 tyX1 tyX1_ok nmX1 hown hK hP hD hS qg f_10 rfl 1 (by decide) (hts _ tw_60) (fun _ h9 => h9) rfl hnm rfl (by decide +kernel) rfl rfl (Nat.le_of_ble_eq_true rfl) dX1_init_17 (fun H locs hP hD hS => ?_)
  obtain ⟨w_13, ew_13⟩ : ∃ w, w = w_9.set qg (g, .inr (1, [.ref qa_1, .ref qa_8, .int 0, .int 0, .int 0])) := ⟨_, rfl⟩
  have hP : va_P D vwCl w_13 H := by rw [ew_13]; exact hP
  have hD : va_D A w_13 := by rw [ew_13]; exact hD
  have f_14 : w_13[qg]? = some (g, .inr (1, [.ref qa_1, .ref qa_8, .int 0, .int 0, .int 0])) := by rw [ew_13]; exact kx_set_self f_10
  have f_15 : w_13[qg + 1]? = some (qa_1, .inl (k0 0, 12, .inl (fun j => nI ((fun _ => 0) j)))) := by rw [ew_13]; exact kx_set_ne f_11 (by omega)
  have f_16 : w_13[qg + 2]? = some (qa_8, .inl (k0 0, 12, .inl (fun _ => nI 0))) := by rw [ew_13]; exact kx_set_ne f_12 (by omega)
  have hfr : kx_fr w0 w_13 (fun j => qg ≤ j) := kx_fr_tr hfr (by rw [ew_13]; exact kx_fr_set (by omega))
  have hlen : w_13.length = qg + 3 := by rw [ew_13]; exact kx_set_len hlen
  refine lv_aload_n hx hb dX1_init_20 rfl (lv_at hl 0 rfl) ?_
  refine lv_iconst (v := nI 0) hx hb dX1_init_21 (by decide +kernel) ?_
  refine va_put (D := D) (ci := 1) (v := .int (nI 0)) (ty := .int) (C := RX1) (T := TX1) (N := 5) hx hb hts inX1 tyX1 tyX1_ok nmX1 hown hK hP hD hS qg f_14 rfl 2 (by decide) (hts _ tw_62) (fun _ h9 => h9) rfl (by decide +kernel) rfl rfl (Nat.le_of_ble_eq_true rfl) dX1_init_22 (fun H locs hP hD hS => ?_)
  obtain ⟨w_17, ew_17⟩ : ∃ w, w = w_13.set qg (g, .inr (1, [.ref qa_1, .ref qa_8, .int (nI 0), .int 0, .int 0])) := ⟨_, rfl⟩
  have hP : va_P D vwCl w_17 H := by rw [ew_17]; exact hP
  have hD : va_D A w_17 := by rw [ew_17]; exact hD
  have f_18 : w_17[qg]? = some (g, .inr (1, [.ref qa_1, .ref qa_8, .int (nI 0), .int 0, .int 0])) := by rw [ew_17]; exact kx_set_self f_14
  have f_19 : w_17[qg + 1]? = some (qa_1, .inl (k0 0, 12, .inl (fun j => nI ((fun _ => 0) j)))) := by rw [ew_17]; exact kx_set_ne f_15 (by omega)
  have f_20 : w_17[qg + 2]? = some (qa_8, .inl (k0 0, 12, .inl (fun _ => nI 0))) := by rw [ew_17]; exact kx_set_ne f_16 (by omega)
  have hfr : kx_fr w0 w_17 (fun j => qg ≤ j) := kx_fr_tr hfr (by rw [ew_17]; exact kx_fr_set (by omega))
  have hlen : w_17.length = qg + 3 := by rw [ew_17]; exact kx_set_len hlen
  refine lv_aload_n hx hb dX1_init_25 rfl (lv_at hl 0 rfl) ?_
  refine lv_iconst (v := nI 1) hx hb dX1_init_26 (by decide +kernel) ?_
  refine va_put (D := D) (ci := 1) (v := .int (nI 1)) (ty := .int) (C := RX1) (T := TX1) (N := 5) hx hb hts inX1 tyX1 tyX1_ok nmX1 hown hK hP hD hS qg f_18 rfl 3 (by decide) (hts _ tw_65) (fun _ h9 => h9) rfl (by decide +kernel) rfl rfl (Nat.le_of_ble_eq_true rfl) dX1_init_27 (fun H locs hP hD hS => ?_)
  obtain ⟨w_21, ew_21⟩ : ∃ w, w = w_17.set qg (g, .inr (1, [.ref qa_1, .ref qa_8, .int (nI 0), .int (nI 1), .int 0])) := ⟨_, rfl⟩
  have hP : va_P D vwCl w_21 H := by rw [ew_21]; exact hP
  have hD : va_D A w_21 := by rw [ew_21]; exact hD
  have f_22 : w_21[qg]? = some (g, .inr (1, [.ref qa_1, .ref qa_8, .int (nI 0), .int (nI 1), .int 0])) := by rw [ew_21]; exact kx_set_self f_18
  have f_23 : w_21[qg + 1]? = some (qa_1, .inl (k0 0, 12, .inl (fun j => nI ((fun _ => 0) j)))) := by rw [ew_21]; exact kx_set_ne f_19 (by omega)
  have f_24 : w_21[qg + 2]? = some (qa_8, .inl (k0 0, 12, .inl (fun _ => nI 0))) := by rw [ew_21]; exact kx_set_ne f_20 (by omega)
  have hfr : kx_fr w0 w_21 (fun j => qg ≤ j) := kx_fr_tr hfr (by rw [ew_21]; exact kx_fr_set (by omega))
  have hlen : w_21.length = qg + 3 := by rw [ew_21]; exact kx_set_len hlen
  refine lv_aload_n hx hb dX1_init_30 rfl (lv_at hl 0 rfl) ?_
  refine lv_iconst (v := 1) hx hb dX1_init_31 (by decide +kernel) ?_
  refine va_put (D := D) (ci := 1) (v := .int 1) (ty := .boolean) (C := RX1) (T := TX1) (N := 5) hx hb hts inX1 tyX1 tyX1_ok nmX1 hown hK hP hD hS qg f_22 rfl 4 (by decide) (hts _ tw_66) (fun _ h9 => h9) rfl (by decide +kernel) rfl rfl (Nat.le_of_ble_eq_true rfl) dX1_init_32 (fun H locs hP hD hS => ?_)
  obtain ⟨w_25, ew_25⟩ : ∃ w, w = w_21.set qg (g, .inr (1, [.ref qa_1, .ref qa_8, .int (nI 0), .int (nI 1), .int 1])) := ⟨_, rfl⟩
  have hP : va_P D vwCl w_25 H := by rw [ew_25]; exact hP
  have hD : va_D A w_25 := by rw [ew_25]; exact hD
  have f_26 : w_25[qg]? = some (g, .inr (1, [.ref qa_1, .ref qa_8, .int (nI 0), .int (nI 1), .int 1])) := by rw [ew_25]; exact kx_set_self f_22
  have f_27 : w_25[qg + 1]? = some (qa_1, .inl (k0 0, 12, .inl (fun j => nI ((fun _ => 0) j)))) := by rw [ew_25]; exact kx_set_ne f_23 (by omega)
  have f_28 : w_25[qg + 2]? = some (qa_8, .inl (k0 0, 12, .inl (fun _ => nI 0))) := by rw [ew_25]; exact kx_set_ne f_24 (by omega)
  have hfr : kx_fr w0 w_25 (fun j => qg ≤ j) := kx_fr_tr hfr (by rw [ew_25]; exact kx_fr_set (by omega))
  have hlen : w_25.length = qg + 3 := by rw [ew_25]; exact kx_set_len hlen
  refine W.widen (k := 2) (n := 24) (by omega) (by omega) ?_
  exact kx_vret hx hb hr hlocks hK hP hD hS dX1_init_35 (⟨_, _, ⟨f_26, by assumption, by assumption⟩, hlen, hfr⟩)
end
section
/-! THE CLASS'S OBJECT: at place b, with its cells behind it -/
def atC (w : va_W) (b : Nat) (k0 : Nat → ClassId) (ad : Nat → Nat) (nE nV : Nat → Nat) (op : Nat → Int32) (LL : Nat → Nat → Nat) (ww : Nat → Nat → Int32) : Prop :=
  w[b]? = some (ad 0, .inr (2, [.ref (ad 1), .ref (ad 2), .ref (ad 5), .ref (ad 8)]))
  ∧ (∃ fq : Nat → Option Nat, w[b + 1]? = some (ad 1, .inl (k0 1, 8, .inr (.inr (.inr (.inr fq))))) ∧ ∀ i, i < 8 → fq i = some (ad (9 + 3 * i)))
  ∧ (∃ (rows parts : Nat → Nat) (k : Nat), atF w (b + 2) k0 (ad 2) (ad 3) (ad 4) rows parts k)
  ∧ (∃ (rows parts : Nat → Nat) (k : Nat), atF w (b + 5) k0 (ad 5) (ad 6) (ad 7) rows parts k)
  ∧ (∃ d : Nat → Nat, w[b + 8]? = some (ad 8, .inl (k0 0, 12, .inl (fun j => nI (d j)))))
  ∧ ∀ i, i < 8 → atG w (b + 9 + 3 * i) k0 (ad (9 + 3 * i)) (ad (10 + 3 * i)) (ad (11 + 3 * i)) (LL i) (ww i) (nE i) (nI (nV i)) (op i)
/-- one graph changed -/
theorem atC_put {w u : va_W} {b : Nat} {k0 : Nat → ClassId} {ad nE nV : Nat → Nat} {op : Nat → Int32} {LL : Nat → Nat → Nat} {ww : Nat → Nat → Int32} (h : atC w b k0 ad nE nV op LL ww) {i : Nat} {L : Nat → Nat} {f : Nat → Int32} {n v : Nat} {o : Int32}
    (hf : kx_fr w u (fun j => j = b + 9 + 3 * i ∨ j = b + 9 + 3 * i + 1 ∨ j = b + 9 + 3 * i + 2)) (hg : atG u (b + 9 + 3 * i) k0 (ad (9 + 3 * i)) (ad (10 + 3 * i)) (ad (11 + 3 * i)) L f n (nI v) o) :
    atC u b k0 ad (va_up nE i n) (va_up nV i v) (va_up op i o) (va_up LL i L) (va_up ww i f) := by
  obtain ⟨h1, ⟨fq, h2, h3⟩, ⟨r1, p1, k1, h4⟩, ⟨r2, p2, k2, h5⟩, ⟨d, h6⟩, h7⟩ := h
  refine ⟨by rw [hf _ (by omega)]; exact h1, ⟨fq, by rw [hf _ (by omega)]; exact h2, h3⟩, ⟨r1, p1, k1, atF_fr h4 hf ⟨by omega, by omega, by omega⟩⟩, ⟨r2, p2, k2, atF_fr h5 hf ⟨by omega, by omega, by omega⟩⟩, ⟨d, by rw [hf _ (by omega)]; exact h6⟩, fun j hj => ?_⟩
  by_cases c : j = i
  · subst c
    rw [va_up_self, va_up_self, va_up_self, va_up_self, va_up_self]; exact hg
  · rw [va_up_ne _ _ c, va_up_ne _ _ c, va_up_ne _ _ c, va_up_ne _ _ c, va_up_ne _ _ c]
    exact atG_fr (h7 j hj) hf ⟨by omega, by omega, by omega⟩
/-- the forests or the draft changed -/
theorem atC_rest {w u : va_W} {b : Nat} {k0 : Nat → ClassId} {ad nE nV : Nat → Nat} {op : Nat → Int32} {LL : Nat → Nat → Nat} {ww : Nat → Nat → Int32} (h : atC w b k0 ad nE nV op LL ww)
    (hf : kx_fr w u (fun j => b + 2 ≤ j ∧ j < b + 9)) (h4 : ∃ (rows parts : Nat → Nat) (k : Nat), atF u (b + 2) k0 (ad 2) (ad 3) (ad 4) rows parts k) (h5 : ∃ (rows parts : Nat → Nat) (k : Nat), atF u (b + 5) k0 (ad 5) (ad 6) (ad 7) rows parts k)
    (h6 : ∃ d : Nat → Nat, u[b + 8]? = some (ad 8, .inl (k0 0, 12, .inl (fun j => nI (d j))))) : atC u b k0 ad nE nV op LL ww := by
  obtain ⟨h1, ⟨fq, h2, h3⟩, _, _, _, h7⟩ := h
  exact ⟨by rw [hf _ (by omega)]; exact h1, ⟨fq, by rw [hf _ (by omega)]; exact h2, h3⟩, h4, h5, h6, fun j hj => atG_fr (h7 j hj) hf ⟨by omega, by omega, by omega⟩⟩
/-- nothing of it changed -/
theorem atC_fr {w u : va_W} {b : Nat} {k0 : Nat → ClassId} {ad nE nV : Nat → Nat} {op : Nat → Int32} {LL : Nat → Nat → Nat} {ww : Nat → Nat → Int32} {P : Nat → Prop} (h : atC w b k0 ad nE nV op LL ww) (hf : kx_fr w u P) (hP : ∀ j, b ≤ j → j < b + 33 → ¬ P j) : atC u b k0 ad nE nV op LL ww := by
  obtain ⟨h1, ⟨fq, h2, h3⟩, ⟨r1, p1, k1, h4⟩, ⟨r2, p2, k2, h5⟩, ⟨d, h6⟩, h7⟩ := h
  exact ⟨by rw [hf _ (hP _ (by omega) (by omega))]; exact h1, ⟨fq, by rw [hf _ (hP _ (by omega) (by omega))]; exact h2, h3⟩, ⟨r1, p1, k1, atF_fr h4 hf ⟨hP _ (by omega) (by omega), hP _ (by omega) (by omega), hP _ (by omega) (by omega)⟩⟩, ⟨r2, p2, k2, atF_fr h5 hf ⟨hP _ (by omega) (by omega), hP _ (by omega) (by omega), hP _ (by omega) (by omega)⟩⟩, ⟨d, by rw [hf _ (hP _ (by omega) (by omega))]; exact h6⟩, fun j hj => atG_fr (h7 j hj) hf ⟨hP _ (by omega) (by omega), hP _ (by omega) (by omega), hP _ (by omega) (by omega)⟩⟩
end
section
def kx_ad (a0 a1 a2 a3 a4 a5 a6 a7 a8 : Nat) (gd : Nat → Nat) : Nat → Nat
  | 0 => a0
  | 1 => a1
  | 2 => a2
  | 3 => a3
  | 4 => a4
  | 5 => a5
  | 6 => a6
  | 7 => a7
  | 8 => a8
  | k + 9 => gd (k + 9)
theorem kx_ad_ge {a0 a1 a2 a3 a4 a5 a6 a7 a8 : Nat} {gd : Nat → Nat} {x : Nat} (h : 9 ≤ x) : kx_ad a0 a1 a2 a3 a4 a5 a6 a7 a8 gd x = gd x := by
  obtain ⟨k, rfl⟩ : ∃ k, x = k + 9 := ⟨x - 9, by omega⟩
  rfl

set_option maxHeartbeats 4000000 in
set_option maxRecDepth 100000 in
/-- CommonForests() -/
theorem c_Cinit (l : Launch) (D : va_G) (k0 : Nat → ClassId) (w0 : va_W) (sz : Nat) (b o : Nat) (hO : w0[b]? = some (o, .inr (2, [.null, .null, .null, .null]))) (hlen : w0.length = b + 1) : kx_v l yX2_init wsX2_init ({ frames := 2, cells := 32, slots := 306, locals := 48 } : Room) D (tyL k0) w0 sz [.ref o] (fun (u : va_W) => ∃ ad : Nat → Nat, ad 0 = o ∧ atC u b k0 ad (fun _ => 0) (fun _ => 1) (fun _ => 1) (fun _ _ => 0) (fun _ _ => nI 0) ∧ u.length = b + 33 ∧ kx_fr w0 u (fun j => b ≤ j)) 32 306 := by
  refine kx_of (Qf := fun A => va_Qv (fun (u : va_W) => ∃ ad : Nat → Nat, ad 0 = o ∧ atC u b k0 ad (fun _ => 0) (fun _ => 1) (fun _ => 1) (fun _ _ => 0) (fun _ _ => nI 0) ∧ u.length = b + 33 ∧ kx_fr w0 u (fun j => b ≤ j)) (kx_B D (tyL k0) A) A) (cc := cX2_init) (maxL := 2) (ret := none) (by decide +kernel) (Nat.le_of_ble_eq_true rfl) ?_
  intro p e s m below meth c A ls hx hb hml hown hts hr hlocks hnm hN hK hP hD hS hA hl
  have hown : s.vm.findClass RX2 = some m.cls := hown
  have hl : lv_has ls 2 [(0, .ref o)] := hl
  have hfr : kx_fr w0 w0 (fun j => b ≤ j) := kx_fr_rf _ _
  refine lv_aload_n hx hb dX2_init_0 rfl (lv_at hl 0 rfl) ?_
  refine W.objInit hx hb hown (hts _ tw_30) (hts _ tw_31) (hts _ tw_obj) rfl (by rw [hml]; exact hl.1) rfl dX2_init_1 (Nat.le_of_ble_eq_true rfl) (Nat.le_of_ble_eq_true rfl) ?_
  refine W.eq (g2 := F0 m 4 ls []) rfl ?_
  refine lv_aload_n hx hb dX2_init_4 rfl (lv_at hl 0 rfl) ?_
  refine lv_bipush (v := nI 8) hx hb dX2_init_5 (by decide +kernel) ?_
  refine kx_newq hx hb hown (hts _ tw_33) hN hK hP hD hS hA (n := 8) (by decide) (by show 0 + 1 ≤ (32 : Nat); omega) (by show 0 + 8 ≤ (306 : Nat); omega) dX2_init_7 (fun qa_1 H hP hD hS => ?_)
  obtain ⟨w_2, ew_2⟩ : ∃ w, w = w0 ++ [(qa_1, .inl (k0 1, 8, .inr (.inr (.inr (.inr (fun _ => none))))))] := ⟨_, rfl⟩
  have hP : va_P D vwCl w_2 H := by rw [ew_2]; exact hP
  have hD : va_D A w_2 := by rw [ew_2]; exact hD
  have f_3 : w_2[b]? = some (o, .inr (2, [.null, .null, .null, .null])) := by rw [ew_2]; exact kx_push_old hO
  have f_4 : w_2[b + 1]? = some (qa_1, .inl (k0 1, 8, .inr (.inr (.inr (.inr (fun _ => none)))))) := by rw [ew_2]; exact kx_push_new hlen
  have hfr : kx_fr w0 w_2 (fun j => b ≤ j) := kx_fr_tr hfr (by rw [ew_2]; exact kx_fr_push (by rw [hlen]; omega))
  have hlen : w_2.length = b + 2 := by rw [ew_2]; exact kx_push_len hlen
  refine va_putF (D := D) (ci := 2) (v := .ref qa_1) (ty := .array (.object "CommonForests$Graph")) (C := RX2) (T := TX2) (N := 4) hx hb hts inX2 tyX2 tyX2_ok nmX2 hown hK hP hD hS b f_3 rfl 0 (by decide) (hts _ tw_78) (fun _ h9 => h9) rfl hnm rfl (by decide +kernel) rfl rfl (Nat.le_of_ble_eq_true rfl) dX2_init_10 (fun H locs hP hD hS => ?_)
  obtain ⟨w_5, ew_5⟩ : ∃ w, w = w_2.set b (o, .inr (2, [.ref qa_1, .null, .null, .null])) := ⟨_, rfl⟩
  have hP : va_P D vwCl w_5 H := by rw [ew_5]; exact hP
  have hD : va_D A w_5 := by rw [ew_5]; exact hD
  have f_6 : w_5[b]? = some (o, .inr (2, [.ref qa_1, .null, .null, .null])) := by rw [ew_5]; exact kx_set_self f_3
  have f_7 : w_5[b + 1]? = some (qa_1, .inl (k0 1, 8, .inr (.inr (.inr (.inr (fun _ => none)))))) := by rw [ew_5]; exact kx_set_ne f_4 (by omega)
  have hfr : kx_fr w0 w_5 (fun j => b ≤ j) := kx_fr_tr hfr (by rw [ew_5]; exact kx_fr_set (by omega))
  have hlen : w_5.length = b + 2 := by rw [ew_5]; exact kx_set_len hlen
  refine lv_aload_n hx hb dX2_init_13 rfl (lv_at hl 0 rfl) ?_
  refine va_new (ci := 0) (fs := [.null, .null, .int 0]) (C := RX0) (T := TX0) (N := 3) hx hb hts inX0 tyX0 tyX0_ok hown (hts _ tw_35) (hts _ tw_36) (hts _ tw_20) hK hP hD hS hA rfl (fun j hj => by rcases (show j = 0 ∨ j = 1 ∨ j = 2 by omega) with rfl | rfl | rfl <;> rfl) (by show (0 + 1) + 1 ≤ (32 : Nat); omega) (by show (0 + 8) + 3 ≤ (306 : Nat); omega) dX2_init_14 (fun qa_8 H hP hD hS => ?_)
  obtain ⟨w_9, ew_9⟩ : ∃ w, w = w_5 ++ [(qa_8, .inr (0, [.null, .null, .int 0]))] := ⟨_, rfl⟩
  have hP : va_P D vwCl w_9 H := by rw [ew_9]; exact hP
  have hD : va_D A w_9 := by rw [ew_9]; exact hD
  have f_10 : w_9[b]? = some (o, .inr (2, [.ref qa_1, .null, .null, .null])) := by rw [ew_9]; exact kx_push_old f_6
  have f_11 : w_9[b + 1]? = some (qa_1, .inl (k0 1, 8, .inr (.inr (.inr (.inr (fun _ => none)))))) := by rw [ew_9]; exact kx_push_old f_7
  have f_12 : w_9[b + 2]? = some (qa_8, .inr (0, [.null, .null, .int 0])) := by rw [ew_9]; exact kx_push_new hlen
  have hfr : kx_fr w0 w_9 (fun j => b ≤ j) := kx_fr_tr hfr (by rw [ew_9]; exact kx_fr_push (by rw [hlen]; omega))
  have hlen : w_9.length = b + 3 := by rw [ew_9]; exact kx_push_len hlen
  refine lv_dup hx hb dX2_init_17 rfl ?_
  refine kx_gov (va_runIN (As := []) (rest := [.ref qa_8, .ref o]) ⟨hx, hb, hml, hown, hts⟩ (c_Finit l D k0 w_9 _ (b + 2) qa_8 f_12 hlen) ⟨(kg_N (k := 0) hts tw_39 hN.1 tw_20 (by decide +kernel) rfl rfl ⟨Nat.le_of_ble_eq_true rfl, Nat.le_of_ble_eq_true rfl⟩), rfl, hts _ tw_38⟩ (kx_preS hN hK hP hD) rfl rfl hl.1 rfl (lv_room (Nat.le_of_ble_eq_true rfl)) dX2_init_18 ⟨by show ((0 + 1) + 1) + 2 ≤ (32 : Nat); omega, by show ((0 + 8) + 3) + 24 ≤ (306 : Nat); omega⟩) hD hS hA (fun u_15 H locs hp_13 hP hD hS => ?_)
  obtain ⟨ra_16, pa_17, ⟨hF1, hR1, hT1⟩, hlen, hq⟩ := hp_13
  have f_18 : u_15[b]? = some (o, .inr (2, [.ref qa_1, .null, .null, .null])) := by rw [hq _ (by omega)]; exact f_10
  have f_19 : u_15[b + 1]? = some (qa_1, .inl (k0 1, 8, .inr (.inr (.inr (.inr (fun _ => none)))))) := by rw [hq _ (by omega)]; exact f_11
  have f_20 : u_15[b + 2]? = some (qa_8, .inr (0, [.ref ra_16, .ref pa_17, .int (nI 0)])) := hF1
  have f_21 : u_15[b + 3]? = some (ra_16, .inl (k0 0, 12, .inl (fun j => nI ((fun _ => 0) j)))) := hR1
  have f_22 : u_15[b + 4]? = some (pa_17, .inl (k0 0, 12, .inl (fun j => nI ((fun _ => 0) j)))) := hT1
  have hfr : kx_fr w0 u_15 (fun j => b ≤ j) := kx_fr_tr hfr (kx_fr_mono hq (fun j h => by omega))
  have hlen : u_15.length = b + 5 := hlen
  refine va_putF (D := D) (ci := 2) (v := .ref qa_8) (ty := .object "CommonForests$Forest") (C := RX2) (T := TX2) (N := 4) hx hb hts inX2 tyX2 tyX2_ok nmX2 hown hK hP hD hS b f_18 rfl 1 (by decide) (hts _ tw_79) (fun _ h9 => h9) rfl hnm rfl (by decide +kernel) rfl rfl (Nat.le_of_ble_eq_true rfl) dX2_init_21 (fun H locs hP hD hS => ?_)
  obtain ⟨w_23, ew_23⟩ : ∃ w, w = u_15.set b (o, .inr (2, [.ref qa_1, .ref qa_8, .null, .null])) := ⟨_, rfl⟩
  have hP : va_P D vwCl w_23 H := by rw [ew_23]; exact hP
  have hD : va_D A w_23 := by rw [ew_23]; exact hD
  have f_24 : w_23[b]? = some (o, .inr (2, [.ref qa_1, .ref qa_8, .null, .null])) := by rw [ew_23]; exact kx_set_self f_18
  have f_25 : w_23[b + 1]? = some (qa_1, .inl (k0 1, 8, .inr (.inr (.inr (.inr (fun _ => none)))))) := by rw [ew_23]; exact kx_set_ne f_19 (by omega)
  have f_26 : w_23[b + 2]? = some (qa_8, .inr (0, [.ref ra_16, .ref pa_17, .int (nI 0)])) := by rw [ew_23]; exact kx_set_ne f_20 (by omega)
  have f_27 : w_23[b + 3]? = some (ra_16, .inl (k0 0, 12, .inl (fun j => nI ((fun _ => 0) j)))) := by rw [ew_23]; exact kx_set_ne f_21 (by omega)
  have f_28 : w_23[b + 4]? = some (pa_17, .inl (k0 0, 12, .inl (fun j => nI ((fun _ => 0) j)))) := by rw [ew_23]; exact kx_set_ne f_22 (by omega)
  have hfr : kx_fr w0 w_23 (fun j => b ≤ j) := kx_fr_tr hfr (by rw [ew_23]; exact kx_fr_set (by omega))
  have hlen : w_23.length = b + 5 := by rw [ew_23]; exact kx_set_len hlen
  refine lv_aload_n hx hb dX2_init_24 rfl (lv_at hl 0 rfl) ?_
  refine va_new (ci := 0) (fs := [.null, .null, .int 0]) (C := RX0) (T := TX0) (N := 3) hx hb hts inX0 tyX0 tyX0_ok hown (hts _ tw_35) (hts _ tw_36) (hts _ tw_20) hK hP hD hS hA rfl (fun j hj => by rcases (show j = 0 ∨ j = 1 ∨ j = 2 by omega) with rfl | rfl | rfl <;> rfl) (by show (((0 + 1) + 1) + 2) + 1 ≤ (32 : Nat); omega) (by show (((0 + 8) + 3) + 24) + 3 ≤ (306 : Nat); omega) dX2_init_25 (fun qa_29 H hP hD hS => ?_)
  obtain ⟨w_30, ew_30⟩ : ∃ w, w = w_23 ++ [(qa_29, .inr (0, [.null, .null, .int 0]))] := ⟨_, rfl⟩
  have hP : va_P D vwCl w_30 H := by rw [ew_30]; exact hP
  have hD : va_D A w_30 := by rw [ew_30]; exact hD
  have f_31 : w_30[b]? = some (o, .inr (2, [.ref qa_1, .ref qa_8, .null, .null])) := by rw [ew_30]; exact kx_push_old f_24
  have f_32 : w_30[b + 1]? = some (qa_1, .inl (k0 1, 8, .inr (.inr (.inr (.inr (fun _ => none)))))) := by rw [ew_30]; exact kx_push_old f_25
  have f_33 : w_30[b + 2]? = some (qa_8, .inr (0, [.ref ra_16, .ref pa_17, .int (nI 0)])) := by rw [ew_30]; exact kx_push_old f_26
  have f_34 : w_30[b + 3]? = some (ra_16, .inl (k0 0, 12, .inl (fun j => nI ((fun _ => 0) j)))) := by rw [ew_30]; exact kx_push_old f_27
  have f_35 : w_30[b + 4]? = some (pa_17, .inl (k0 0, 12, .inl (fun j => nI ((fun _ => 0) j)))) := by rw [ew_30]; exact kx_push_old f_28
  have f_36 : w_30[b + 5]? = some (qa_29, .inr (0, [.null, .null, .int 0])) := by rw [ew_30]; exact kx_push_new hlen
  have hfr : kx_fr w0 w_30 (fun j => b ≤ j) := kx_fr_tr hfr (by rw [ew_30]; exact kx_fr_push (by rw [hlen]; omega))
  have hlen : w_30.length = b + 6 := by rw [ew_30]; exact kx_push_len hlen
  refine lv_dup hx hb dX2_init_28 rfl ?_
  refine kx_gov (va_runIN (As := []) (rest := [.ref qa_29, .ref o]) ⟨hx, hb, hml, hown, hts⟩ (c_Finit l D k0 w_30 _ (b + 5) qa_29 f_36 hlen) ⟨(kg_N (k := 0) hts tw_39 hN.1 tw_20 (by decide +kernel) rfl rfl ⟨Nat.le_of_ble_eq_true rfl, Nat.le_of_ble_eq_true rfl⟩), rfl, hts _ tw_38⟩ (kx_preS hN hK hP hD) rfl rfl hl.1 rfl (lv_room (Nat.le_of_ble_eq_true rfl)) dX2_init_29 ⟨by show ((((0 + 1) + 1) + 2) + 1) + 2 ≤ (32 : Nat); omega, by show ((((0 + 8) + 3) + 24) + 3) + 24 ≤ (306 : Nat); omega⟩) hD hS hA (fun u_39 H locs hp_37 hP hD hS => ?_)
  obtain ⟨ra_40, pa_41, ⟨hF1, hR1, hT1⟩, hlen, hq⟩ := hp_37
  have f_42 : u_39[b]? = some (o, .inr (2, [.ref qa_1, .ref qa_8, .null, .null])) := by rw [hq _ (by omega)]; exact f_31
  have f_43 : u_39[b + 1]? = some (qa_1, .inl (k0 1, 8, .inr (.inr (.inr (.inr (fun _ => none)))))) := by rw [hq _ (by omega)]; exact f_32
  have f_44 : u_39[b + 2]? = some (qa_8, .inr (0, [.ref ra_16, .ref pa_17, .int (nI 0)])) := by rw [hq _ (by omega)]; exact f_33
  have f_45 : u_39[b + 3]? = some (ra_16, .inl (k0 0, 12, .inl (fun j => nI ((fun _ => 0) j)))) := by rw [hq _ (by omega)]; exact f_34
  have f_46 : u_39[b + 4]? = some (pa_17, .inl (k0 0, 12, .inl (fun j => nI ((fun _ => 0) j)))) := by rw [hq _ (by omega)]; exact f_35
  have f_47 : u_39[b + 5]? = some (qa_29, .inr (0, [.ref ra_40, .ref pa_41, .int (nI 0)])) := hF1
  have f_48 : u_39[b + 6]? = some (ra_40, .inl (k0 0, 12, .inl (fun j => nI ((fun _ => 0) j)))) := hR1
  have f_49 : u_39[b + 7]? = some (pa_41, .inl (k0 0, 12, .inl (fun j => nI ((fun _ => 0) j)))) := hT1
  have hfr : kx_fr w0 u_39 (fun j => b ≤ j) := kx_fr_tr hfr (kx_fr_mono hq (fun j h => by omega))
  have hlen : u_39.length = b + 8 := hlen
  refine va_putF (D := D) (ci := 2) (v := .ref qa_29) (ty := .object "CommonForests$Forest") (C := RX2) (T := TX2) (N := 4) hx hb hts inX2 tyX2 tyX2_ok nmX2 hown hK hP hD hS b f_42 rfl 2 (by decide) (hts _ tw_80) (fun _ h9 => h9) rfl hnm rfl (by decide +kernel) rfl rfl (Nat.le_of_ble_eq_true rfl) dX2_init_32 (fun H locs hP hD hS => ?_)
  obtain ⟨w_50, ew_50⟩ : ∃ w, w = u_39.set b (o, .inr (2, [.ref qa_1, .ref qa_8, .ref qa_29, .null])) := ⟨_, rfl⟩
  have hP : va_P D vwCl w_50 H := by rw [ew_50]; exact hP
  have hD : va_D A w_50 := by rw [ew_50]; exact hD
  have f_51 : w_50[b]? = some (o, .inr (2, [.ref qa_1, .ref qa_8, .ref qa_29, .null])) := by rw [ew_50]; exact kx_set_self f_42
  have f_52 : w_50[b + 1]? = some (qa_1, .inl (k0 1, 8, .inr (.inr (.inr (.inr (fun _ => none)))))) := by rw [ew_50]; exact kx_set_ne f_43 (by omega)
  have f_53 : w_50[b + 2]? = some (qa_8, .inr (0, [.ref ra_16, .ref pa_17, .int (nI 0)])) := by rw [ew_50]; exact kx_set_ne f_44 (by omega)
  have f_54 : w_50[b + 3]? = some (ra_16, .inl (k0 0, 12, .inl (fun j => nI ((fun _ => 0) j)))) := by rw [ew_50]; exact kx_set_ne f_45 (by omega)
  have f_55 : w_50[b + 4]? = some (pa_17, .inl (k0 0, 12, .inl (fun j => nI ((fun _ => 0) j)))) := by rw [ew_50]; exact kx_set_ne f_46 (by omega)
  have f_56 : w_50[b + 5]? = some (qa_29, .inr (0, [.ref ra_40, .ref pa_41, .int (nI 0)])) := by rw [ew_50]; exact kx_set_ne f_47 (by omega)
  have f_57 : w_50[b + 6]? = some (ra_40, .inl (k0 0, 12, .inl (fun j => nI ((fun _ => 0) j)))) := by rw [ew_50]; exact kx_set_ne f_48 (by omega)
  have f_58 : w_50[b + 7]? = some (pa_41, .inl (k0 0, 12, .inl (fun j => nI ((fun _ => 0) j)))) := by rw [ew_50]; exact kx_set_ne f_49 (by omega)
  have hfr : kx_fr w0 w_50 (fun j => b ≤ j) := kx_fr_tr hfr (by rw [ew_50]; exact kx_fr_set (by omega))
  have hlen : w_50.length = b + 8 := by rw [ew_50]; exact kx_set_len hlen
  refine lv_aload_n hx hb dX2_init_35 rfl (lv_at hl 0 rfl) ?_
  refine lv_bipush (v := nI 12) hx hb dX2_init_36 (by decide +kernel) ?_
  refine kx_newi hx hb (hts _ tw_51) hK hP hD hS hA (n := 12) (by decide) (by show (((((0 + 1) + 1) + 2) + 1) + 2) + 1 ≤ (32 : Nat); omega) (by show (((((0 + 8) + 3) + 24) + 3) + 24) + 12 ≤ (306 : Nat); omega) dX2_init_38 (fun qa_59 H hP hD hS => ?_)
  obtain ⟨w_60, ew_60⟩ : ∃ w, w = w_50 ++ [(qa_59, .inl (k0 0, 12, .inl (fun j => nI ((fun _ => 0) j))))] := ⟨_, rfl⟩
  have hP : va_P D vwCl w_60 H := by rw [ew_60]; exact hP
  have hD : va_D A w_60 := by rw [ew_60]; exact hD
  have f_61 : w_60[b]? = some (o, .inr (2, [.ref qa_1, .ref qa_8, .ref qa_29, .null])) := by rw [ew_60]; exact kx_push_old f_51
  have f_62 : w_60[b + 1]? = some (qa_1, .inl (k0 1, 8, .inr (.inr (.inr (.inr (fun _ => none)))))) := by rw [ew_60]; exact kx_push_old f_52
  have f_63 : w_60[b + 2]? = some (qa_8, .inr (0, [.ref ra_16, .ref pa_17, .int (nI 0)])) := by rw [ew_60]; exact kx_push_old f_53
  have f_64 : w_60[b + 3]? = some (ra_16, .inl (k0 0, 12, .inl (fun j => nI ((fun _ => 0) j)))) := by rw [ew_60]; exact kx_push_old f_54
  have f_65 : w_60[b + 4]? = some (pa_17, .inl (k0 0, 12, .inl (fun j => nI ((fun _ => 0) j)))) := by rw [ew_60]; exact kx_push_old f_55
  have f_66 : w_60[b + 5]? = some (qa_29, .inr (0, [.ref ra_40, .ref pa_41, .int (nI 0)])) := by rw [ew_60]; exact kx_push_old f_56
  have f_67 : w_60[b + 6]? = some (ra_40, .inl (k0 0, 12, .inl (fun j => nI ((fun _ => 0) j)))) := by rw [ew_60]; exact kx_push_old f_57
  have f_68 : w_60[b + 7]? = some (pa_41, .inl (k0 0, 12, .inl (fun j => nI ((fun _ => 0) j)))) := by rw [ew_60]; exact kx_push_old f_58
  have f_69 : w_60[b + 8]? = some (qa_59, .inl (k0 0, 12, .inl (fun j => nI ((fun _ => 0) j)))) := by rw [ew_60]; exact kx_push_new hlen
  have hfr : kx_fr w0 w_60 (fun j => b ≤ j) := kx_fr_tr hfr (by rw [ew_60]; exact kx_fr_push (by rw [hlen]; omega))
  have hlen : w_60.length = b + 9 := by rw [ew_60]; exact kx_push_len hlen
  refine va_putF (D := D) (ci := 2) (v := .ref qa_59) (ty := .array .int) (C := RX2) (T := TX2) (N := 4) hx hb hts inX2 tyX2 tyX2_ok nmX2 hown hK hP hD hS b f_61 rfl 3 (by decide) (hts _ tw_81) (fun _ h9 => h9) rfl hnm rfl (by decide +kernel) rfl rfl (Nat.le_of_ble_eq_true rfl) dX2_init_40 (fun H locs hP hD hS => ?_)
  obtain ⟨w_70, ew_70⟩ : ∃ w, w = w_60.set b (o, .inr (2, [.ref qa_1, .ref qa_8, .ref qa_29, .ref qa_59])) := ⟨_, rfl⟩
  have hP : va_P D vwCl w_70 H := by rw [ew_70]; exact hP
  have hD : va_D A w_70 := by rw [ew_70]; exact hD
  have f_71 : w_70[b]? = some (o, .inr (2, [.ref qa_1, .ref qa_8, .ref qa_29, .ref qa_59])) := by rw [ew_70]; exact kx_set_self f_61
  have f_72 : w_70[b + 1]? = some (qa_1, .inl (k0 1, 8, .inr (.inr (.inr (.inr (fun _ => none)))))) := by rw [ew_70]; exact kx_set_ne f_62 (by omega)
  have f_73 : w_70[b + 2]? = some (qa_8, .inr (0, [.ref ra_16, .ref pa_17, .int (nI 0)])) := by rw [ew_70]; exact kx_set_ne f_63 (by omega)
  have f_74 : w_70[b + 3]? = some (ra_16, .inl (k0 0, 12, .inl (fun j => nI ((fun _ => 0) j)))) := by rw [ew_70]; exact kx_set_ne f_64 (by omega)
  have f_75 : w_70[b + 4]? = some (pa_17, .inl (k0 0, 12, .inl (fun j => nI ((fun _ => 0) j)))) := by rw [ew_70]; exact kx_set_ne f_65 (by omega)
  have f_76 : w_70[b + 5]? = some (qa_29, .inr (0, [.ref ra_40, .ref pa_41, .int (nI 0)])) := by rw [ew_70]; exact kx_set_ne f_66 (by omega)
  have f_77 : w_70[b + 6]? = some (ra_40, .inl (k0 0, 12, .inl (fun j => nI ((fun _ => 0) j)))) := by rw [ew_70]; exact kx_set_ne f_67 (by omega)
  have f_78 : w_70[b + 7]? = some (pa_41, .inl (k0 0, 12, .inl (fun j => nI ((fun _ => 0) j)))) := by rw [ew_70]; exact kx_set_ne f_68 (by omega)
  have f_79 : w_70[b + 8]? = some (qa_59, .inl (k0 0, 12, .inl (fun j => nI ((fun _ => 0) j)))) := by rw [ew_70]; exact kx_set_ne f_69 (by omega)
  have hfr : kx_fr w0 w_70 (fun j => b ≤ j) := kx_fr_tr hfr (by rw [ew_70]; exact kx_fr_set (by omega))
  have hlen : w_70.length = b + 9 := by rw [ew_70]; exact kx_set_len hlen
  refine lv_iconst (v := nI 0) hx hb dX2_init_43 (by decide +kernel) ?_
  refine lv_istore_n (lv' := [(1, .int (nI 0)), (0, .ref o)]) hx hb dX2_init_44 rfl hl (by decide) rfl (fun ls hl => ?_)
  have loop_45 : ∀ (n45 : Nat) (i : Nat) (fq : Nat → Option Nat) (gd : Nat → Nat), (i ≤ 8) → (9 ≤ i + n45) → ∀ (w1 : va_W), w1[b]? = some (o, .inr (2, [.ref qa_1, .ref qa_8, .ref qa_29, .ref qa_59])) → w1[b + 1]? = some (qa_1, .inl (k0 1, 8, .inr (.inr (.inr (.inr fq))))) → w1[b + 2]? = some (qa_8, .inr (0, [.ref ra_16, .ref pa_17, .int (nI 0)])) → w1[b + 3]? = some (ra_16, .inl (k0 0, 12, .inl (fun j => nI ((fun _ => 0) j)))) → w1[b + 4]? = some (pa_17, .inl (k0 0, 12, .inl (fun j => nI ((fun _ => 0) j)))) → w1[b + 5]? = some (qa_29, .inr (0, [.ref ra_40, .ref pa_41, .int (nI 0)])) → w1[b + 6]? = some (ra_40, .inl (k0 0, 12, .inl (fun j => nI ((fun _ => 0) j)))) → w1[b + 7]? = some (pa_41, .inl (k0 0, 12, .inl (fun j => nI ((fun _ => 0) j)))) → w1[b + 8]? = some (qa_59, .inl (k0 0, 12, .inl (fun j => nI ((fun _ => 0) j)))) → kx_fr w0 w1 (fun j => b ≤ j) → (w1.length = b + 9 + 3 * i) → (∀ j, j < i → fq j = some (gd (9 + 3 * j)) ∧ atG w1 (b + 9 + 3 * j) k0 (gd (9 + 3 * j)) (gd (10 + 3 * j)) (gd (11 + 3 * j)) (fun _ => 0) (fun _ => nI 0) 0 (nI 1) 1) → ∀ (H : Heap) (locs : List Loc), va_P D vwCl w1 H → va_D A w1 → va_S A s.heap H locs → ∀ (ls : Array Slot), lv_has ls 2 [(1, .int (nI i)), (0, .ref o)] → W p l e ({ frames := 2, cells := 32, slots := 306, locals := 48 } : Room) s m ([.ref o] : List Value).toArray below meth c H locs (8 + 3 * i) (74 + 29 * i) (MQ below (va_Qv (fun (u : va_W) => ∃ ad : Nat → Nat, ad 0 = o ∧ atC u b k0 ad (fun _ => 0) (fun _ => 1) (fun _ => 1) (fun _ _ => 0) (fun _ _ => nI 0) ∧ u.length = b + 33 ∧ kx_fr w0 u (fun j => b ≤ j)) (kx_B D (tyL k0) A) A) ([.ref o] : List Value).toArray s 32 306 A) (F0 m 45 ls []) := by
    intro n45
    induction n45 with
    | zero =>
      intro i fq gd hi hme
      exact absurd hme (by omega)
    | succ n45 ih45 =>
      intro i fq gd hi hme w1 F45_0 F45_1 F45_2 F45_3 F45_4 F45_5 F45_6 F45_7 F45_8 hfr hlen hgr H locs hP hD hS ls hl
      have hfr2 : kx_fr w1 w1 (fun j => j = b + 1 ∨ b + 9 + 3 * i ≤ j) := kx_fr_rf _ _
      refine lv_iload_n hx hb dX2_init_45 rfl (lv_at hl 0 rfl) ?_
      refine lv_bipush (v := nI 8) hx hb dX2_init_46 (by decide +kernel) ?_
      refine lv_icmp_ge (tgt := 70) hx hb dX2_init_48 (by decide) (fun c_48 => ?_) (fun c_48 => ?_)
      · skip
        have hik : i = 8 := by
          have := (nI_leI (by omega) (by omega)).mp c_48
          omega
        subst hik
        refine W.widen (k := 32) (n := 306) (by omega) (by omega) ?_
        exact kx_vret hx hb hr hlocks hK hP hD hS dX2_init_70 (⟨kx_ad o qa_1 qa_8 ra_16 pa_17 qa_29 ra_40 pa_41 qa_59 gd, rfl, ⟨F45_0, ⟨fq, by assumption, fun j hj => by rw [kx_ad_ge (by omega)]; exact (hgr j hj).1⟩, ⟨_, _, _, by assumption, by assumption, by assumption⟩, ⟨_, _, _, by assumption, by assumption, by assumption⟩, ⟨_, by assumption⟩, fun j hj => by rw [kx_ad_ge (by omega), kx_ad_ge (by omega), kx_ad_ge (by omega)]; exact (hgr j hj).2⟩, hlen, hfr⟩)
      · skip
        have hik : i < 8 := by
          rcases Nat.lt_or_ge (i) (8) with h | h
          · exact h
          · exact absurd ((nI_leI (by omega) (by omega)).mpr h) c_48
        refine lv_aload_n hx hb dX2_init_51 rfl (lv_at hl 1 rfl) ?_
        refine va_get (D := D) (ci := 2) (v := .ref qa_1) (C := RX2) (T := TX2) (N := 4) hx hb hts inX2 hown hK hP b F45_0 rfl 0 (by decide) (hts _ tw_78) (fun _ h9 => h9) rfl dX2_init_52 ?_
        refine lv_iload_n hx hb dX2_init_55 rfl (lv_at hl 0 rfl) ?_
        refine va_new (ci := 1) (fs := [.null, .null, .int 0, .int 0, .int 0]) (C := RX1) (T := TX1) (N := 5) hx hb hts inX1 tyX1 tyX1_ok hown (hts _ tw_33) (hts _ tw_52) (hts _ tw_21) hK hP hD hS hA rfl (fun j hj => by rcases (show j = 0 ∨ j = 1 ∨ j = 2 ∨ j = 3 ∨ j = 4 by omega) with rfl | rfl | rfl | rfl | rfl <;> rfl) (by show (8 + 3 * i) + 1 ≤ (32 : Nat); omega) (by show (74 + 29 * i) + 5 ≤ (306 : Nat); omega) dX2_init_56 (fun qa_80 H hP hD hS => ?_)
        obtain ⟨w_81, ew_81⟩ : ∃ w, w = w1 ++ [(qa_80, .inr (1, [.null, .null, .int 0, .int 0, .int 0]))] := ⟨_, rfl⟩
        have hP : va_P D vwCl w_81 H := by rw [ew_81]; exact hP
        have hD : va_D A w_81 := by rw [ew_81]; exact hD
        have f_82 : w_81[b]? = some (o, .inr (2, [.ref qa_1, .ref qa_8, .ref qa_29, .ref qa_59])) := by rw [ew_81]; exact kx_push_old F45_0
        have f_83 : w_81[b + 1]? = some (qa_1, .inl (k0 1, 8, .inr (.inr (.inr (.inr fq))))) := by rw [ew_81]; exact kx_push_old F45_1
        have f_84 : w_81[b + 2]? = some (qa_8, .inr (0, [.ref ra_16, .ref pa_17, .int (nI 0)])) := by rw [ew_81]; exact kx_push_old F45_2
        have f_85 : w_81[b + 3]? = some (ra_16, .inl (k0 0, 12, .inl (fun j => nI ((fun _ => 0) j)))) := by rw [ew_81]; exact kx_push_old F45_3
        have f_86 : w_81[b + 4]? = some (pa_17, .inl (k0 0, 12, .inl (fun j => nI ((fun _ => 0) j)))) := by rw [ew_81]; exact kx_push_old F45_4
        have f_87 : w_81[b + 5]? = some (qa_29, .inr (0, [.ref ra_40, .ref pa_41, .int (nI 0)])) := by rw [ew_81]; exact kx_push_old F45_5
        have f_88 : w_81[b + 6]? = some (ra_40, .inl (k0 0, 12, .inl (fun j => nI ((fun _ => 0) j)))) := by rw [ew_81]; exact kx_push_old F45_6
        have f_89 : w_81[b + 7]? = some (pa_41, .inl (k0 0, 12, .inl (fun j => nI ((fun _ => 0) j)))) := by rw [ew_81]; exact kx_push_old F45_7
        have f_90 : w_81[b + 8]? = some (qa_59, .inl (k0 0, 12, .inl (fun j => nI ((fun _ => 0) j)))) := by rw [ew_81]; exact kx_push_old F45_8
        have f_91 : w_81[b + 9 + 3 * i]? = some (qa_80, .inr (1, [.null, .null, .int 0, .int 0, .int 0])) := by rw [ew_81]; exact kx_push_new hlen
        have hfr : kx_fr w0 w_81 (fun j => b ≤ j) := kx_fr_tr hfr (by rw [ew_81]; exact kx_fr_push (by rw [hlen]; omega))
        have hfr2 : kx_fr w1 w_81 (fun j => j = b + 1 ∨ b + 9 + 3 * i ≤ j) := kx_fr_tr hfr2 (by rw [ew_81]; exact kx_fr_push (by rw [hlen]; omega))
        have hlen : w_81.length = b + 9 + 3 * i + 1 := by rw [ew_81]; exact kx_push_len hlen
        refine lv_dup hx hb dX2_init_59 rfl ?_
        refine kx_gov (va_runIN (As := []) (rest := [.ref qa_80, .int (nI i), .ref qa_1]) ⟨hx, hb, hml, hown, hts⟩ (c_Ginit l D k0 w_81 _ (b + 9 + 3 * i) qa_80 f_91 hlen) ⟨(kg_N (k := 0) hts tw_55 hN.2.1 tw_21 (by decide +kernel) rfl rfl ⟨Nat.le_of_ble_eq_true rfl, Nat.le_of_ble_eq_true rfl⟩), rfl, hts _ tw_54⟩ (kx_preS hN hK hP hD) rfl rfl hl.1 rfl (lv_room (Nat.le_of_ble_eq_true rfl)) dX2_init_60 ⟨by show ((8 + 3 * i) + 1) + 2 ≤ (32 : Nat); omega, by show ((74 + 29 * i) + 5) + 24 ≤ (306 : Nat); omega⟩) hD hS hA (fun u_94 H locs hp_92 hP hD hS => ?_)
        obtain ⟨ra_95, pa_96, ⟨hF1, hR1, hT1⟩, hlen, hq⟩ := hp_92
        have f_97 : u_94[b]? = some (o, .inr (2, [.ref qa_1, .ref qa_8, .ref qa_29, .ref qa_59])) := by rw [hq _ (by omega)]; exact f_82
        have f_98 : u_94[b + 1]? = some (qa_1, .inl (k0 1, 8, .inr (.inr (.inr (.inr fq))))) := by rw [hq _ (by omega)]; exact f_83
        have f_99 : u_94[b + 2]? = some (qa_8, .inr (0, [.ref ra_16, .ref pa_17, .int (nI 0)])) := by rw [hq _ (by omega)]; exact f_84
        have f_100 : u_94[b + 3]? = some (ra_16, .inl (k0 0, 12, .inl (fun j => nI ((fun _ => 0) j)))) := by rw [hq _ (by omega)]; exact f_85
        have f_101 : u_94[b + 4]? = some (pa_17, .inl (k0 0, 12, .inl (fun j => nI ((fun _ => 0) j)))) := by rw [hq _ (by omega)]; exact f_86
        have f_102 : u_94[b + 5]? = some (qa_29, .inr (0, [.ref ra_40, .ref pa_41, .int (nI 0)])) := by rw [hq _ (by omega)]; exact f_87
        have f_103 : u_94[b + 6]? = some (ra_40, .inl (k0 0, 12, .inl (fun j => nI ((fun _ => 0) j)))) := by rw [hq _ (by omega)]; exact f_88
        have f_104 : u_94[b + 7]? = some (pa_41, .inl (k0 0, 12, .inl (fun j => nI ((fun _ => 0) j)))) := by rw [hq _ (by omega)]; exact f_89
        have f_105 : u_94[b + 8]? = some (qa_59, .inl (k0 0, 12, .inl (fun j => nI ((fun _ => 0) j)))) := by rw [hq _ (by omega)]; exact f_90
        have f_106 : u_94[b + 9 + 3 * i]? = some (qa_80, .inr (1, [.ref ra_95, .ref pa_96, .int (nI 0), .int (nI 1), .int 1])) := hF1
        have f_107 : u_94[b + 9 + 3 * i + 1]? = some (ra_95, .inl (k0 0, 12, .inl (fun j => nI ((fun _ => 0) j)))) := hR1
        have f_108 : u_94[b + 9 + 3 * i + 2]? = some (pa_96, .inl (k0 0, 12, .inl (fun _ => nI 0))) := hT1
        have hfr : kx_fr w0 u_94 (fun j => b ≤ j) := kx_fr_tr hfr (kx_fr_mono hq (fun j h => by omega))
        have hfr2 : kx_fr w1 u_94 (fun j => j = b + 1 ∨ b + 9 + 3 * i ≤ j) := kx_fr_tr hfr2 (kx_fr_mono hq (fun j h => by omega))
        have hlen : u_94.length = b + 9 + 3 * i + 3 := hlen
        refine kx_qast hx hb hK hP hD hS (b + 1) (b + 9 + 3 * i) f_98 f_106 (i := i) (by omega) (by decide) dX2_init_63 (fun H locs hP hD hS => ?_)
        obtain ⟨w_109, ew_109⟩ : ∃ w, w = u_94.set (b + 1) (qa_1, .inl (k0 1, 8, .inr (.inr (.inr (.inr (va_up fq i (some qa_80))))))) := ⟨_, rfl⟩
        have hP : va_P D vwCl w_109 H := by rw [ew_109]; exact hP
        have hD : va_D A w_109 := by rw [ew_109]; exact hD
        have f_110 : w_109[b]? = some (o, .inr (2, [.ref qa_1, .ref qa_8, .ref qa_29, .ref qa_59])) := by rw [ew_109]; exact kx_set_ne f_97 (by omega)
        have f_111 : w_109[b + 1]? = some (qa_1, .inl (k0 1, 8, .inr (.inr (.inr (.inr (va_up fq i (some qa_80))))))) := by rw [ew_109]; exact kx_set_self f_98
        have f_112 : w_109[b + 2]? = some (qa_8, .inr (0, [.ref ra_16, .ref pa_17, .int (nI 0)])) := by rw [ew_109]; exact kx_set_ne f_99 (by omega)
        have f_113 : w_109[b + 3]? = some (ra_16, .inl (k0 0, 12, .inl (fun j => nI ((fun _ => 0) j)))) := by rw [ew_109]; exact kx_set_ne f_100 (by omega)
        have f_114 : w_109[b + 4]? = some (pa_17, .inl (k0 0, 12, .inl (fun j => nI ((fun _ => 0) j)))) := by rw [ew_109]; exact kx_set_ne f_101 (by omega)
        have f_115 : w_109[b + 5]? = some (qa_29, .inr (0, [.ref ra_40, .ref pa_41, .int (nI 0)])) := by rw [ew_109]; exact kx_set_ne f_102 (by omega)
        have f_116 : w_109[b + 6]? = some (ra_40, .inl (k0 0, 12, .inl (fun j => nI ((fun _ => 0) j)))) := by rw [ew_109]; exact kx_set_ne f_103 (by omega)
        have f_117 : w_109[b + 7]? = some (pa_41, .inl (k0 0, 12, .inl (fun j => nI ((fun _ => 0) j)))) := by rw [ew_109]; exact kx_set_ne f_104 (by omega)
        have f_118 : w_109[b + 8]? = some (qa_59, .inl (k0 0, 12, .inl (fun j => nI ((fun _ => 0) j)))) := by rw [ew_109]; exact kx_set_ne f_105 (by omega)
        have f_119 : w_109[b + 9 + 3 * i]? = some (qa_80, .inr (1, [.ref ra_95, .ref pa_96, .int (nI 0), .int (nI 1), .int 1])) := by rw [ew_109]; exact kx_set_ne f_106 (by omega)
        have f_120 : w_109[b + 9 + 3 * i + 1]? = some (ra_95, .inl (k0 0, 12, .inl (fun j => nI ((fun _ => 0) j)))) := by rw [ew_109]; exact kx_set_ne f_107 (by omega)
        have f_121 : w_109[b + 9 + 3 * i + 2]? = some (pa_96, .inl (k0 0, 12, .inl (fun _ => nI 0))) := by rw [ew_109]; exact kx_set_ne f_108 (by omega)
        have hfr : kx_fr w0 w_109 (fun j => b ≤ j) := kx_fr_tr hfr (by rw [ew_109]; exact kx_fr_set (by omega))
        have hfr2 : kx_fr w1 w_109 (fun j => j = b + 1 ∨ b + 9 + 3 * i ≤ j) := kx_fr_tr hfr2 (by rw [ew_109]; exact kx_fr_set (by omega))
        have hlen : w_109.length = b + 9 + 3 * i + 3 := by rw [ew_109]; exact kx_set_len hlen
        refine lv_iinc (v := nI (i + 1)) (lv' := [(1, .int (nI (i + 1))), (0, .ref o)]) hx hb dX2_init_64 hl (k := 0) rfl (nI_1 _) (by decide) rfl (fun ls hl => ?_)
        refine lv_goto (tgt := 45) hx hb dX2_init_67 (by decide) ?_
        refine W.widen (k := (8 + 3 * (i + 1))) (n := (74 + 29 * (i + 1))) (by omega) (by omega) ?_
        exact ih45 (i + 1) (va_up fq i (some qa_80)) (va_up (va_up (va_up gd (9 + 3 * i) qa_80) (10 + 3 * i) ra_95) (11 + 3 * i) pa_96) (by omega) (by omega) w_109 f_110 f_111 f_112 f_113 f_114 f_115 f_116 f_117 f_118 hfr (by rw [hlen]; omega) (fun j hj => by
            by_cases hji : j = i
            · subst hji
              refine ⟨?_, ?_⟩
              · simp [va_up]
              · have e1 : (va_up (va_up (va_up gd (9 + 3 * j) qa_80) (10 + 3 * j) ra_95) (11 + 3 * j) pa_96) (9 + 3 * j) = qa_80 := by simp only [va_up]; rw [if_neg (by omega), if_neg (by omega), if_pos trivial]
                have e2 : (va_up (va_up (va_up gd (9 + 3 * j) qa_80) (10 + 3 * j) ra_95) (11 + 3 * j) pa_96) (10 + 3 * j) = ra_95 := by simp only [va_up]; rw [if_neg (by omega), if_pos trivial]
                have e3 : (va_up (va_up (va_up gd (9 + 3 * j) qa_80) (10 + 3 * j) ra_95) (11 + 3 * j) pa_96) (11 + 3 * j) = pa_96 := by simp only [va_up]; rw [if_pos trivial]
                rw [e1, e2, e3]; exact ⟨f_119, f_120, f_121⟩
            · have h9 := hgr j (by omega)
              have e1 : (va_up (va_up (va_up gd (9 + 3 * i) qa_80) (10 + 3 * i) ra_95) (11 + 3 * i) pa_96) (9 + 3 * j) = gd (9 + 3 * j) := by simp only [va_up]; rw [if_neg (by omega), if_neg (by omega), if_neg (by omega)]
              have e2 : (va_up (va_up (va_up gd (9 + 3 * i) qa_80) (10 + 3 * i) ra_95) (11 + 3 * i) pa_96) (10 + 3 * j) = gd (10 + 3 * j) := by simp only [va_up]; rw [if_neg (by omega), if_neg (by omega), if_neg (by omega)]
              have e3 : (va_up (va_up (va_up gd (9 + 3 * i) qa_80) (10 + 3 * i) ra_95) (11 + 3 * i) pa_96) (11 + 3 * j) = gd (11 + 3 * j) := by simp only [va_up]; rw [if_neg (by omega), if_neg (by omega), if_neg (by omega)]
              rw [e1, e2, e3, va_up_ne _ _ hji]
              exact ⟨h9.1, atG_fr h9.2 hfr2 ⟨by omega, by omega, by omega⟩⟩) _ _ hP hD hS _ (lv_sub hl [0, 1] rfl)
  refine W.widen (k := 8) (n := 74) (by omega) (by omega) ?_
  exact loop_45 (9) 0 (fun _ => none) (fun _ => 0) (by omega) (by omega) w_70 f_71 f_72 f_73 f_74 f_75 f_76 f_77 f_78 f_79 hfr hlen (fun j h => absurd h (Nat.not_lt_zero j)) _ _ hP hD hS _ (lv_sub hl [0, 1] rfl)
end
section
set_option maxHeartbeats 4000000 in
set_option maxRecDepth 100000 in
/-- Integer.bitCount -/
theorem c_bits (l : Launch) (D : va_G) (k0 : Nat → ClassId) (w0 : va_W) (sz : Nat) (x : Nat) (hxb : x < 2 ^ 30) : kx_i l yJ6_bitCount wsJ6_bitCount ({ frames := 0, cells := 0, slots := 0, locals := 0 } : Room) D (tyL k0) w0 sz [.int (nI x)] (fun (r : Int32) (u : va_W) => r = nI (cf_card 32 x) ∧ u = w0) 0 0 := by
  refine kx_of (Qf := fun A => va_Qi (fun (r : Int32) (u : va_W) => r = nI (cf_card 32 x) ∧ u = w0) (kx_B D (tyL k0) A) A) (cc := cJ6_bitCount) (maxL := 1) (ret := (some .int)) (by decide +kernel) (Nat.le_of_ble_eq_true rfl) ?_
  intro p e s m below meth c A ls hx hb hml hown hts hr hlocks hnm hN hK hP hD hS hA hl
  have hown : s.vm.findClass RJ6 = some m.cls := hown
  have hl : lv_has ls 1 [(0, .int (nI x))] := hl
  skip
  obtain ⟨a9, ea⟩ : ∃ a9, a9 = x - ((x / 2) &&& 1431655765) := ⟨_, rfl⟩
  obtain ⟨b9, eb⟩ : ∃ b9, b9 = (a9 &&& 858993459) + ((a9 / 4) &&& 858993459) := ⟨_, rfl⟩
  obtain ⟨d9, ed⟩ : ∃ d9, d9 = (b9 + b9 / 16) &&& 252645135 := ⟨_, rfl⟩
  obtain ⟨f9, ef⟩ : ∃ f9, f9 = d9 + d9 / 256 := ⟨_, rfl⟩
  have hcnt : (f9 + f9 / 65536) &&& 63 = cf_card 32 x := by
    have h := bc_count hxb
    dsimp only at h
    rw [← ea, ← eb, ← ed, ← ef] at h
    exact h
  have h1 : (x / 2) &&& 1431655765 ≤ x := Nat.le_trans Nat.and_le_left (Nat.div_le_self _ _)
  have h2 : a9 < 2 ^ 30 := by omega
  have h3 : a9 &&& 858993459 ≤ a9 := Nat.and_le_left
  have h4 : (a9 / 4) &&& 858993459 ≤ a9 / 4 := Nat.and_le_left
  have h5 : b9 < 2 ^ 31 := by omega
  have h6 : d9 ≤ 252645135 := by rw [ed]; exact Nat.and_le_right
  have h7 : f9 < 2 ^ 31 := by omega
  refine lv_iload_n hx hb dJ6_bitCount_0 rfl (lv_at hl 0 rfl) ?_
  refine lv_iload_n hx hb dJ6_bitCount_1 rfl (lv_at hl 0 rfl) ?_
  refine lv_iconst (v := nI 1) hx hb dJ6_bitCount_2 (by decide +kernel) ?_
  refine lv_iushr (v := nI (x / 2)) hx hb dJ6_bitCount_3 (pk_ushrN (n := x) (by omega) (nI 1) 1 (by decide +kernel)) ?_
  refine lv_ldcw hx hb hown (hts _ tw_184) dJ6_bitCount_4 ?_
  refine lv_iand hx hb dJ6_bitCount_7 ?_
  refine lv_topi (fun z_1 ez_1 => ?_)
  have ez_1 : z_1 = nI (x / 2 &&& 1431655765) := by rw [ez_1]; show _ &&& nI 1431655765 = _; exact kb_and _ _
  subst ez_1
  refine lv_isub hx hb dJ6_bitCount_8 ?_
  refine lv_topi (fun z_2 ez_2 => ?_)
  have ez_2 : z_2 = nI a9 := by rw [ez_2]; rw [pk_sub h1, ea]
  subst ez_2
  refine lv_istore_n (lv' := [(0, .int (nI a9))]) hx hb dJ6_bitCount_9 rfl hl (by decide) rfl (fun ls hl => ?_)
  refine lv_iload_n hx hb dJ6_bitCount_10 rfl (lv_at hl 0 rfl) ?_
  refine lv_ldcw hx hb hown (hts _ tw_185) dJ6_bitCount_11 ?_
  refine lv_iand hx hb dJ6_bitCount_14 ?_
  refine lv_topi (fun z_3 ez_3 => ?_)
  have ez_3 : z_3 = nI (a9 &&& 858993459) := by rw [ez_3]; show _ &&& nI 858993459 = _; exact kb_and _ _
  subst ez_3
  refine lv_iload_n hx hb dJ6_bitCount_15 rfl (lv_at hl 0 rfl) ?_
  refine lv_iconst (v := nI 2) hx hb dJ6_bitCount_16 (by decide +kernel) ?_
  refine lv_iushr (v := nI (a9 / 4)) hx hb dJ6_bitCount_17 (pk_ushrN (n := a9) (by omega) (nI 2) 2 (by decide +kernel)) ?_
  refine lv_ldcw hx hb hown (hts _ tw_185) dJ6_bitCount_18 ?_
  refine lv_iand hx hb dJ6_bitCount_21 ?_
  refine lv_topi (fun z_4 ez_4 => ?_)
  have ez_4 : z_4 = nI (a9 / 4 &&& 858993459) := by rw [ez_4]; show _ &&& nI 858993459 = _; exact kb_and _ _
  subst ez_4
  refine lv_iadd hx hb dJ6_bitCount_22 ?_
  refine lv_topi (fun z_5 ez_5 => ?_)
  have ez_5 : z_5 = nI b9 := by rw [ez_5]; rw [nI_add, eb]
  subst ez_5
  refine lv_istore_n (lv' := [(0, .int (nI b9))]) hx hb dJ6_bitCount_23 rfl hl (by decide) rfl (fun ls hl => ?_)
  refine lv_iload_n hx hb dJ6_bitCount_24 rfl (lv_at hl 0 rfl) ?_
  refine lv_iload_n hx hb dJ6_bitCount_25 rfl (lv_at hl 0 rfl) ?_
  refine lv_iconst (v := nI 4) hx hb dJ6_bitCount_26 (by decide +kernel) ?_
  refine lv_iushr (v := nI (b9 / 16)) hx hb dJ6_bitCount_27 (pk_ushrN (n := b9) (by omega) (nI 4) 4 (by decide +kernel)) ?_
  refine lv_iadd hx hb dJ6_bitCount_28 ?_
  refine lv_topi (fun z_6 ez_6 => ?_)
  have ez_6 : z_6 = nI (b9 + b9 / 16) := by rw [ez_6]; exact nI_add _ _
  subst ez_6
  refine lv_ldcw hx hb hown (hts _ tw_186) dJ6_bitCount_29 ?_
  refine lv_iand hx hb dJ6_bitCount_32 ?_
  refine lv_topi (fun z_7 ez_7 => ?_)
  have ez_7 : z_7 = nI d9 := by rw [ez_7]; show _ &&& nI 252645135 = _; rw [kb_and, ed]
  subst ez_7
  refine lv_istore_n (lv' := [(0, .int (nI d9))]) hx hb dJ6_bitCount_33 rfl hl (by decide) rfl (fun ls hl => ?_)
  refine lv_iload_n hx hb dJ6_bitCount_34 rfl (lv_at hl 0 rfl) ?_
  refine lv_iload_n hx hb dJ6_bitCount_35 rfl (lv_at hl 0 rfl) ?_
  refine lv_bipush (v := nI 8) hx hb dJ6_bitCount_36 (by decide +kernel) ?_
  refine lv_iushr (v := nI (d9 / 256)) hx hb dJ6_bitCount_38 (pk_ushrN (n := d9) (by omega) (nI 8) 8 (by decide +kernel)) ?_
  refine lv_iadd hx hb dJ6_bitCount_39 ?_
  refine lv_topi (fun z_8 ez_8 => ?_)
  have ez_8 : z_8 = nI f9 := by rw [ez_8]; rw [nI_add, ef]
  subst ez_8
  refine lv_istore_n (lv' := [(0, .int (nI f9))]) hx hb dJ6_bitCount_40 rfl hl (by decide) rfl (fun ls hl => ?_)
  refine lv_iload_n hx hb dJ6_bitCount_41 rfl (lv_at hl 0 rfl) ?_
  refine lv_iload_n hx hb dJ6_bitCount_42 rfl (lv_at hl 0 rfl) ?_
  refine lv_bipush (v := nI 16) hx hb dJ6_bitCount_43 (by decide +kernel) ?_
  refine lv_iushr (v := nI (f9 / 65536)) hx hb dJ6_bitCount_45 (pk_ushrN (n := f9) (by omega) (nI 16) 16 (by decide +kernel)) ?_
  refine lv_iadd hx hb dJ6_bitCount_46 ?_
  refine lv_topi (fun z_9 ez_9 => ?_)
  have ez_9 : z_9 = nI (f9 + f9 / 65536) := by rw [ez_9]; exact nI_add _ _
  subst ez_9
  refine lv_istore_n (lv' := [(0, .int (nI (f9 + f9 / 65536)))]) hx hb dJ6_bitCount_47 rfl hl (by decide) rfl (fun ls hl => ?_)
  refine lv_iload_n hx hb dJ6_bitCount_48 rfl (lv_at hl 0 rfl) ?_
  refine lv_bipush (v := nI 63) hx hb dJ6_bitCount_49 (by decide +kernel) ?_
  refine lv_iand hx hb dJ6_bitCount_51 ?_
  refine lv_topi (fun z_10 ez_10 => ?_)
  have ez_10 : z_10 = nI (cf_card 32 x) := by rw [ez_10]; rw [kb_and, hcnt]
  subst ez_10
  exact kx_iret (v := nI (cf_card 32 x)) hx hb hr rfl hlocks hK hP hD hS dJ6_bitCount_52 (⟨rfl, rfl⟩)
end
section
theorem kg_0 {P : Prop} {r : Int32} (h : (r = 1 ∧ P) ∨ (r = 0 ∧ ¬ P)) (c : r = 0) : ¬ P := by
  rcases h with ⟨h1, _⟩ | ⟨_, h2⟩
  · rw [h1] at c; exact absurd c (by decide)
  · exact h2
theorem kg_1 {P : Prop} {r : Int32} (h : (r = 1 ∧ P) ∨ (r = 0 ∧ ¬ P)) (c : ¬ r = 0) : P := by
  rcases h with ⟨_, h2⟩ | ⟨h1, _⟩
  · exact h2
  · exact absurd h1 c
def cinv (nE nV : Nat → Nat) (LL : Nat → Nat → Nat) (ww : Nat → Nat → Int32) : Prop := ∀ i, i < 8 → nE i ≤ 12 ∧ nV i ≤ 13 ∧ (∀ e, e < nE i → gl_two (LL i e)) ∧ gw_in (ww i) (nE i)
theorem kb_full_lt {n : Nat} (h : n ≤ 12) : cf_full n < 2 ^ 12 := by
  have : 2 ^ n ≤ 2 ^ 12 := Nat.pow_le_pow_right (by omega) h
  have := Nat.one_le_two_pow (n := n)
  unfold cf_full; omega
theorem kb_sub_full {S n : Nat} (h : S ≤ cf_full n) : cf_sub S (cf_full n) := fun i hi => by
  rw [cf_full_bit]
  refine decide_eq_true ?_
  have h1 := Nat.ge_two_pow_of_testBit hi
  have h2 := Nat.one_le_two_pow (n := n)
  unfold cf_full at h
  exact (Nat.pow_lt_pow_iff_right (by omega : 1 < 2)).mp (show 2 ^ i < 2 ^ n by omega)
theorem kb_le_full {S n : Nat} (h : cf_sub S (cf_full n)) : S ≤ cf_full n := Nat.le_of_testBit h

set_option maxHeartbeats 4000000 in
set_option maxRecDepth 100000 in
/-- isEdge(g, e) -/
theorem c_isEdge (l : Launch) (D : va_G) (k0 : Nat → ClassId) (w0 : va_W) (sz : Nat) (b : Nat) (ad nE nV : Nat → Nat) (op : Nat → Int32) (LL : Nat → Nat → Nat) (ww : Nat → Nat → Int32) (hC : atC w0 b k0 ad nE nV op LL ww) (hI : cinv nE nV LL ww) (x y : Int32) : kx_i l yX2_isEdge wsX2_isEdge ({ frames := 1, cells := 0, slots := 0, locals := 24 } : Room) D (tyL k0) w0 sz [.ref (ad 0), .int x, .int y] (fun (r : Int32) (u : va_W) => ((r = 1 ∧ (∃ i e9, i < 8 ∧ e9 < nE i ∧ x = nI i ∧ y = nI e9)) ∨ (r = 0 ∧ ¬ (∃ i e9, i < 8 ∧ e9 < nE i ∧ x = nI i ∧ y = nI e9))) ∧ u = w0) 0 0 := by
  refine kx_of (Qf := fun A => va_Qi (fun (r : Int32) (u : va_W) => ((r = 1 ∧ (∃ i e9, i < 8 ∧ e9 < nE i ∧ x = nI i ∧ y = nI e9)) ∨ (r = 0 ∧ ¬ (∃ i e9, i < 8 ∧ e9 < nE i ∧ x = nI i ∧ y = nI e9))) ∧ u = w0) (kx_B D (tyL k0) A) A) (cc := cX2_isEdge) (maxL := 3) (ret := (some .boolean)) (by decide +kernel) (Nat.le_of_ble_eq_true rfl) ?_
  intro p e s m below meth c A ls hx hb hml hown hts hr hlocks hnm hN hK hP hD hS hA hl
  have hown : s.vm.findClass RX2 = some m.cls := hown
  have hl : lv_has ls 3 [(0, .ref (ad 0)), (1, .int x), (2, .int y)] := hl
  skip
  obtain ⟨hO, ⟨fq, hQ, hfq⟩, ⟨r1, p1, k1, hF1, hR1, hT1⟩, ⟨r2, p2, k2, hF2, hR2, hT2⟩, ⟨dr, hd⟩, hgs⟩ := id hC
  refine lv_iload_n hx hb dX2_isEdge_0 rfl (lv_at hl 1 rfl) ?_
  refine kx_goi (va_runS (As := [.int x]) (rest := []) ⟨hx, hb, hml, hown, hts⟩ (c_isGraph l D k0 w0 _ x) ⟨(kg_B (k := 1) hts tw_97 tw_95 tw_19 (by decide +kernel) rfl rfl ⟨Nat.le_of_ble_eq_true rfl, Nat.le_of_ble_eq_true rfl⟩), hts _ tw_96⟩ (kx_preS hN hK hP hD) rfl rfl hl.1 rfl (lv_room (Nat.le_of_ble_eq_true rfl)) dX2_isEdge_1 ⟨Nat.le_of_ble_eq_true rfl, Nat.le_of_ble_eq_true rfl⟩) hD hS hA (fun r_2 u_3 H locs hp_1 hP hD hS => ?_)
  obtain ⟨hy_x, eu⟩ := hp_1
  rw [eu] at hP hD
  refine lv_if_eq (tgt := 28) hx hb dX2_isEdge_4 (by decide) (fun c_4 => ?_) (fun c_4 => ?_)
  · skip
    have hno0 := kg_0 hy_x c_4
    have hno : ¬ (∃ i e9, i < 8 ∧ e9 < nE i ∧ x = nI i ∧ y = nI e9) := fun ⟨i, _, h1, _, h2, _⟩ => hno0 ⟨i, h1, h2⟩
    refine lv_iconst (v := 0) hx hb dX2_isEdge_28 (by decide +kernel) ?_
    exact kx_iret (v := 0) hx hb hr rfl hlocks hK hP hD hS dX2_isEdge_29 (⟨by first | exact Or.inl ⟨rfl, hyes⟩ | exact Or.inr ⟨rfl, hno⟩, rfl⟩)
  · skip
    obtain ⟨i, h8i, e_x⟩ := kg_1 hy_x c_4
    rw [e_x] at hl
    obtain ⟨hGi, hLi, hWi⟩ := hgs i h8i
    obtain ⟨hni, hvi, hl2i, hw2i⟩ := hI i h8i
    refine lv_iload_n hx hb dX2_isEdge_7 rfl (lv_at hl 2 rfl) ?_
    refine lv_if_lt (tgt := 28) hx hb dX2_isEdge_8 (by decide) (fun c_8 => ?_) (fun c_8 => ?_)
    · skip
      have hno : ¬ (∃ i e9, i < 8 ∧ e9 < nE i ∧ x = nI i ∧ y = nI e9) := fun ⟨_, e9, _, h1, _, h2⟩ => nI_pos (n := e9) (by have := hI; have := (hI _ (by assumption)).1; omega) (by rw [← h2]; exact c_8)
      refine lv_iconst (v := 0) hx hb dX2_isEdge_28 (by decide +kernel) ?_
      exact kx_iret (v := 0) hx hb hr rfl hlocks hK hP hD hS dX2_isEdge_29 (⟨by first | exact Or.inl ⟨rfl, hyes⟩ | exact Or.inr ⟨rfl, hno⟩, rfl⟩)
    · skip
      refine lv_iload_n hx hb dX2_isEdge_11 rfl (lv_at hl 2 rfl) ?_
      refine lv_aload_n hx hb dX2_isEdge_12 rfl (lv_at hl 0 rfl) ?_
      refine va_get (D := D) (ci := 2) (v := .ref (ad 1)) (C := RX2) (T := TX2) (N := 4) hx hb hts inX2 hown hK hP b hO rfl 0 (by decide) (hts _ tw_78) (fun _ h9 => h9) rfl dX2_isEdge_13 ?_
      refine lv_iload_n hx hb dX2_isEdge_16 rfl (lv_at hl 1 rfl) ?_
      refine kx_qald hx hb hK hP (b + 1) 1 hQ rfl (i := i) (r := (ad (9 + 3 * i))) (by omega) (by decide) (hfq _ (by omega)) dX2_isEdge_17 ?_
      refine va_get (D := D) (ci := 1) (v := .int (nI (nE i))) (C := RX1) (T := TX1) (N := 5) hx hb hts inX1 hown hK hP (b + 9 + 3 * i) hGi rfl 2 (by decide) (hts _ tw_64) (fun _ h9 => h9) rfl dX2_isEdge_18 ?_
      refine lv_icmp_ge (tgt := 28) hx hb dX2_isEdge_21 (by decide) (fun c_21 => ?_) (fun c_21 => ?_)
      · skip
        have hno : ¬ (∃ i e9, i < 8 ∧ e9 < nE i ∧ x = nI i ∧ y = nI e9) := fun ⟨i2, e9, h0, h1, h2, h3⟩ => by
          have hi2 : i2 = i := ((nI_eq (by omega) (by omega)).mp (h2.symm.trans e_x))
          subst hi2
          exact nI_ge (a := e9) (b := nE i2) h1 (by omega) (by rw [← h3]; exact c_21)
        refine lv_iconst (v := 0) hx hb dX2_isEdge_28 (by decide +kernel) ?_
        exact kx_iret (v := 0) hx hb hr rfl hlocks hK hP hD hS dX2_isEdge_29 (⟨by first | exact Or.inl ⟨rfl, hyes⟩ | exact Or.inr ⟨rfl, hno⟩, rfl⟩)
      · skip
        have hyes : (∃ i e9, i < 8 ∧ e9 < nE i ∧ x = nI i ∧ y = nI e9) := by
          rcases pk_ix y (n := nE i) (by omega) with h | h | ⟨e9, h1, h2⟩
          · exact absurd h c_8
          · exact absurd h c_21
          · exact ⟨i, e9, h8i, h1, e_x, h2⟩
        refine lv_iconst (v := 1) hx hb dX2_isEdge_24 (by decide +kernel) ?_
        refine lv_goto (tgt := 29) hx hb dX2_isEdge_25 (by decide) ?_
        exact kx_iret (v := 1) hx hb hr rfl hlocks hK hP hD hS dX2_isEdge_29 (⟨by first | exact Or.inl ⟨rfl, hyes⟩ | exact Or.inr ⟨rfl, hno⟩, rfl⟩)

set_option maxHeartbeats 4000000 in
set_option maxRecDepth 100000 in
/-- isSet(g, set) -/
theorem c_isSet (l : Launch) (D : va_G) (k0 : Nat → ClassId) (w0 : va_W) (sz : Nat) (b : Nat) (ad nE nV : Nat → Nat) (op : Nat → Int32) (LL : Nat → Nat → Nat) (ww : Nat → Nat → Int32) (hC : atC w0 b k0 ad nE nV op LL ww) (hI : cinv nE nV LL ww) (x y : Int32) : kx_i l yX2_isSet wsX2_isSet ({ frames := 1, cells := 0, slots := 0, locals := 24 } : Room) D (tyL k0) w0 sz [.ref (ad 0), .int x, .int y] (fun (r : Int32) (u : va_W) => ((r = 1 ∧ (∃ i S, i < 8 ∧ S ≤ cf_full (nE i) ∧ x = nI i ∧ y = nI S)) ∨ (r = 0 ∧ ¬ (∃ i S, i < 8 ∧ S ≤ cf_full (nE i) ∧ x = nI i ∧ y = nI S))) ∧ u = w0) 0 0 := by
  refine kx_of (Qf := fun A => va_Qi (fun (r : Int32) (u : va_W) => ((r = 1 ∧ (∃ i S, i < 8 ∧ S ≤ cf_full (nE i) ∧ x = nI i ∧ y = nI S)) ∨ (r = 0 ∧ ¬ (∃ i S, i < 8 ∧ S ≤ cf_full (nE i) ∧ x = nI i ∧ y = nI S))) ∧ u = w0) (kx_B D (tyL k0) A) A) (cc := cX2_isSet) (maxL := 3) (ret := (some .boolean)) (by decide +kernel) (Nat.le_of_ble_eq_true rfl) ?_
  intro p e s m below meth c A ls hx hb hml hown hts hr hlocks hnm hN hK hP hD hS hA hl
  have hown : s.vm.findClass RX2 = some m.cls := hown
  have hl : lv_has ls 3 [(0, .ref (ad 0)), (1, .int x), (2, .int y)] := hl
  skip
  obtain ⟨hO, ⟨fq, hQ, hfq⟩, ⟨r1, p1, k1, hF1, hR1, hT1⟩, ⟨r2, p2, k2, hF2, hR2, hT2⟩, ⟨dr, hd⟩, hgs⟩ := id hC
  refine lv_iload_n hx hb dX2_isSet_0 rfl (lv_at hl 1 rfl) ?_
  refine kx_goi (va_runS (As := [.int x]) (rest := []) ⟨hx, hb, hml, hown, hts⟩ (c_isGraph l D k0 w0 _ x) ⟨(kg_B (k := 1) hts tw_97 tw_95 tw_19 (by decide +kernel) rfl rfl ⟨Nat.le_of_ble_eq_true rfl, Nat.le_of_ble_eq_true rfl⟩), hts _ tw_96⟩ (kx_preS hN hK hP hD) rfl rfl hl.1 rfl (lv_room (Nat.le_of_ble_eq_true rfl)) dX2_isSet_1 ⟨Nat.le_of_ble_eq_true rfl, Nat.le_of_ble_eq_true rfl⟩) hD hS hA (fun r_2 u_3 H locs hp_1 hP hD hS => ?_)
  obtain ⟨hy_x, eu⟩ := hp_1
  rw [eu] at hP hD
  refine lv_if_eq (tgt := 31) hx hb dX2_isSet_4 (by decide) (fun c_4 => ?_) (fun c_4 => ?_)
  · skip
    have hno0 := kg_0 hy_x c_4
    have hno : ¬ (∃ i S, i < 8 ∧ S ≤ cf_full (nE i) ∧ x = nI i ∧ y = nI S) := fun ⟨i, _, h1, _, h2, _⟩ => hno0 ⟨i, h1, h2⟩
    refine lv_iconst (v := 0) hx hb dX2_isSet_31 (by decide +kernel) ?_
    exact kx_iret (v := 0) hx hb hr rfl hlocks hK hP hD hS dX2_isSet_32 (⟨by first | exact Or.inl ⟨rfl, hyes⟩ | exact Or.inr ⟨rfl, hno⟩, rfl⟩)
  · skip
    obtain ⟨i, h8i, e_x⟩ := kg_1 hy_x c_4
    rw [e_x] at hl
    obtain ⟨hGi, hLi, hWi⟩ := hgs i h8i
    obtain ⟨hni, hvi, hl2i, hw2i⟩ := hI i h8i
    have hfl := kb_full_lt hni
    refine lv_iload_n hx hb dX2_isSet_7 rfl (lv_at hl 2 rfl) ?_
    refine lv_if_lt (tgt := 31) hx hb dX2_isSet_8 (by decide) (fun c_8 => ?_) (fun c_8 => ?_)
    · skip
      have hno : ¬ (∃ i S, i < 8 ∧ S ≤ cf_full (nE i) ∧ x = nI i ∧ y = nI S) := fun ⟨i2, e9, h0, h1, _, h2⟩ => nI_pos (n := e9) (by have := kb_full_lt (hI i2 h0).1; omega) (by rw [← h2]; exact c_8)
      refine lv_iconst (v := 0) hx hb dX2_isSet_31 (by decide +kernel) ?_
      exact kx_iret (v := 0) hx hb hr rfl hlocks hK hP hD hS dX2_isSet_32 (⟨by first | exact Or.inl ⟨rfl, hyes⟩ | exact Or.inr ⟨rfl, hno⟩, rfl⟩)
    · skip
      refine lv_iload_n hx hb dX2_isSet_11 rfl (lv_at hl 2 rfl) ?_
      refine lv_aload_n hx hb dX2_isSet_12 rfl (lv_at hl 0 rfl) ?_
      refine va_get (D := D) (ci := 2) (v := .ref (ad 1)) (C := RX2) (T := TX2) (N := 4) hx hb hts inX2 hown hK hP b hO rfl 0 (by decide) (hts _ tw_78) (fun _ h9 => h9) rfl dX2_isSet_13 ?_
      refine lv_iload_n hx hb dX2_isSet_16 rfl (lv_at hl 1 rfl) ?_
      refine kx_qald hx hb hK hP (b + 1) 1 hQ rfl (i := i) (r := (ad (9 + 3 * i))) (by omega) (by decide) (hfq _ (by omega)) dX2_isSet_17 ?_
      refine va_get (D := D) (ci := 1) (v := .int (nI (nE i))) (C := RX1) (T := TX1) (N := 5) hx hb hts inX1 hown hK hP (b + 9 + 3 * i) hGi rfl 2 (by decide) (hts _ tw_64) (fun _ h9 => h9) rfl dX2_isSet_18 ?_
      refine kx_goi (va_runS (As := [.int (nI (nE i))]) (rest := [.int y]) ⟨hx, hb, hml, hown, hts⟩ (c_all l D k0 w0 _ (nE i) hni) ⟨(kg_B (k := 1) hts tw_132 tw_130 tw_19 (by decide +kernel) rfl rfl ⟨Nat.le_of_ble_eq_true rfl, Nat.le_of_ble_eq_true rfl⟩), hts _ tw_131⟩ (kx_preS hN hK hP hD) rfl rfl hl.1 rfl (lv_room (Nat.le_of_ble_eq_true rfl)) dX2_isSet_21 ⟨Nat.le_of_ble_eq_true rfl, Nat.le_of_ble_eq_true rfl⟩) hD hS hA (fun r_5 u_6 H locs hp_4 hP hD hS => ?_)
      obtain ⟨er_5, eu_6⟩ := hp_4
      rw [eu_6] at hP hD; subst er_5
      refine lv_icmp_gt (tgt := 31) hx hb dX2_isSet_24 (by decide) (fun c_24 => ?_) (fun c_24 => ?_)
      · skip
        have hno : ¬ (∃ i S, i < 8 ∧ S ≤ cf_full (nE i) ∧ x = nI i ∧ y = nI S) := fun ⟨i2, e9, h0, h1, h2, h3⟩ => by
          have hi2 : i2 = i := ((nI_eq (by omega) (by omega)).mp (h2.symm.trans e_x))
          subst hi2
          rw [h3] at c_24
          have := (nI_ltI (by omega) (by omega)).mp c_24
          omega
        refine lv_iconst (v := 0) hx hb dX2_isSet_31 (by decide +kernel) ?_
        exact kx_iret (v := 0) hx hb hr rfl hlocks hK hP hD hS dX2_isSet_32 (⟨by first | exact Or.inl ⟨rfl, hyes⟩ | exact Or.inr ⟨rfl, hno⟩, rfl⟩)
      · skip
        have hyes : (∃ i S, i < 8 ∧ S ≤ cf_full (nE i) ∧ x = nI i ∧ y = nI S) := by
          obtain ⟨S, h1, h2⟩ := nI_of c_8
          refine ⟨i, S, h8i, ?_, e_x, h2⟩
          rw [h2] at c_24
          rcases Nat.lt_or_ge (cf_full (nE i)) S with h | h
          · exact absurd ((nI_ltI (by omega) (by omega)).mpr h) c_24
          · exact h
        refine lv_iconst (v := 1) hx hb dX2_isSet_27 (by decide +kernel) ?_
        refine lv_goto (tgt := 32) hx hb dX2_isSet_28 (by decide) ?_
        exact kx_iret (v := 1) hx hb hr rfl hlocks hK hP hD hS dX2_isSet_32 (⟨by first | exact Or.inl ⟨rfl, hyes⟩ | exact Or.inr ⟨rfl, hno⟩, rfl⟩)

set_option maxHeartbeats 4000000 in
set_option maxRecDepth 100000 in
/-- areAlike(g, h) -/
theorem c_areAlike (l : Launch) (D : va_G) (k0 : Nat → ClassId) (w0 : va_W) (sz : Nat) (b : Nat) (ad nE nV : Nat → Nat) (op : Nat → Int32) (LL : Nat → Nat → Nat) (ww : Nat → Nat → Int32) (hC : atC w0 b k0 ad nE nV op LL ww) (hI : cinv nE nV LL ww) (x y : Int32) : kx_i l yX2_areAlike wsX2_areAlike ({ frames := 1, cells := 0, slots := 0, locals := 24 } : Room) D (tyL k0) w0 sz [.ref (ad 0), .int x, .int y] (fun (r : Int32) (u : va_W) => ((r = 1 ∧ (∃ i j, i < 8 ∧ j < 8 ∧ nE i = nE j ∧ x = nI i ∧ y = nI j)) ∨ (r = 0 ∧ ¬ (∃ i j, i < 8 ∧ j < 8 ∧ nE i = nE j ∧ x = nI i ∧ y = nI j))) ∧ u = w0) 0 0 := by
  refine kx_of (Qf := fun A => va_Qi (fun (r : Int32) (u : va_W) => ((r = 1 ∧ (∃ i j, i < 8 ∧ j < 8 ∧ nE i = nE j ∧ x = nI i ∧ y = nI j)) ∨ (r = 0 ∧ ¬ (∃ i j, i < 8 ∧ j < 8 ∧ nE i = nE j ∧ x = nI i ∧ y = nI j))) ∧ u = w0) (kx_B D (tyL k0) A) A) (cc := cX2_areAlike) (maxL := 3) (ret := (some .boolean)) (by decide +kernel) (Nat.le_of_ble_eq_true rfl) ?_
  intro p e s m below meth c A ls hx hb hml hown hts hr hlocks hnm hN hK hP hD hS hA hl
  have hown : s.vm.findClass RX2 = some m.cls := hown
  have hl : lv_has ls 3 [(0, .ref (ad 0)), (1, .int x), (2, .int y)] := hl
  skip
  obtain ⟨hO, ⟨fq, hQ, hfq⟩, ⟨r1, p1, k1, hF1, hR1, hT1⟩, ⟨r2, p2, k2, hF2, hR2, hT2⟩, ⟨dr, hd⟩, hgs⟩ := id hC
  refine lv_iload_n hx hb dX2_areAlike_0 rfl (lv_at hl 1 rfl) ?_
  refine kx_goi (va_runS (As := [.int x]) (rest := []) ⟨hx, hb, hml, hown, hts⟩ (c_isGraph l D k0 w0 _ x) ⟨(kg_B (k := 1) hts tw_97 tw_95 tw_19 (by decide +kernel) rfl rfl ⟨Nat.le_of_ble_eq_true rfl, Nat.le_of_ble_eq_true rfl⟩), hts _ tw_96⟩ (kx_preS hN hK hP hD) rfl rfl hl.1 rfl (lv_room (Nat.le_of_ble_eq_true rfl)) dX2_areAlike_1 ⟨Nat.le_of_ble_eq_true rfl, Nat.le_of_ble_eq_true rfl⟩) hD hS hA (fun r_2 u_3 H locs hp_1 hP hD hS => ?_)
  obtain ⟨hy_x, eu⟩ := hp_1
  rw [eu] at hP hD
  refine lv_if_eq (tgt := 39) hx hb dX2_areAlike_4 (by decide) (fun c_4 => ?_) (fun c_4 => ?_)
  · skip
    have hno0 := kg_0 hy_x c_4
    have hno : ¬ (∃ i j, i < 8 ∧ j < 8 ∧ nE i = nE j ∧ x = nI i ∧ y = nI j) := fun ⟨i, _, h1, _, _, h2, _⟩ => hno0 ⟨i, h1, h2⟩
    refine lv_iconst (v := 0) hx hb dX2_areAlike_39 (by decide +kernel) ?_
    exact kx_iret (v := 0) hx hb hr rfl hlocks hK hP hD hS dX2_areAlike_40 (⟨by first | exact Or.inl ⟨rfl, hyes⟩ | exact Or.inr ⟨rfl, hno⟩, rfl⟩)
  · skip
    obtain ⟨i, h8i, e_x⟩ := kg_1 hy_x c_4
    rw [e_x] at hl
    obtain ⟨hGi, hLi, hWi⟩ := hgs i h8i
    obtain ⟨hni, hvi, hl2i, hw2i⟩ := hI i h8i
    refine lv_iload_n hx hb dX2_areAlike_7 rfl (lv_at hl 2 rfl) ?_
    refine kx_goi (va_runS (As := [.int y]) (rest := []) ⟨hx, hb, hml, hown, hts⟩ (c_isGraph l D k0 w0 _ y) ⟨(kg_B (k := 1) hts tw_97 tw_95 tw_19 (by decide +kernel) rfl rfl ⟨Nat.le_of_ble_eq_true rfl, Nat.le_of_ble_eq_true rfl⟩), hts _ tw_96⟩ (kx_preS hN hK hP hD) rfl rfl hl.1 rfl (lv_room (Nat.le_of_ble_eq_true rfl)) dX2_areAlike_8 ⟨Nat.le_of_ble_eq_true rfl, Nat.le_of_ble_eq_true rfl⟩) hD hS hA (fun r_5 u_6 H locs hp_4 hP hD hS => ?_)
    obtain ⟨hy_y, eu⟩ := hp_4
    rw [eu] at hP hD
    refine lv_if_eq (tgt := 39) hx hb dX2_areAlike_11 (by decide) (fun c_11 => ?_) (fun c_11 => ?_)
    · skip
      have hno0 := kg_0 hy_y c_11
      have hno : ¬ (∃ i j, i < 8 ∧ j < 8 ∧ nE i = nE j ∧ x = nI i ∧ y = nI j) := fun ⟨_, j, _, h1, _, _, h2⟩ => hno0 ⟨j, h1, h2⟩
      refine lv_iconst (v := 0) hx hb dX2_areAlike_39 (by decide +kernel) ?_
      exact kx_iret (v := 0) hx hb hr rfl hlocks hK hP hD hS dX2_areAlike_40 (⟨by first | exact Or.inl ⟨rfl, hyes⟩ | exact Or.inr ⟨rfl, hno⟩, rfl⟩)
    · skip
      obtain ⟨j, h8j, e_y⟩ := kg_1 hy_y c_11
      rw [e_y] at hl
      obtain ⟨hGj, hLj, hWj⟩ := hgs j h8j
      obtain ⟨hnj, hvj, hl2j, hw2j⟩ := hI j h8j
      refine lv_aload_n hx hb dX2_areAlike_14 rfl (lv_at hl 0 rfl) ?_
      refine va_get (D := D) (ci := 2) (v := .ref (ad 1)) (C := RX2) (T := TX2) (N := 4) hx hb hts inX2 hown hK hP b hO rfl 0 (by decide) (hts _ tw_78) (fun _ h9 => h9) rfl dX2_areAlike_15 ?_
      refine lv_iload_n hx hb dX2_areAlike_18 rfl (lv_at hl 1 rfl) ?_
      refine kx_qald hx hb hK hP (b + 1) 1 hQ rfl (i := i) (r := (ad (9 + 3 * i))) (by omega) (by decide) (hfq _ (by omega)) dX2_areAlike_19 ?_
      refine va_get (D := D) (ci := 1) (v := .int (nI (nE i))) (C := RX1) (T := TX1) (N := 5) hx hb hts inX1 hown hK hP (b + 9 + 3 * i) hGi rfl 2 (by decide) (hts _ tw_64) (fun _ h9 => h9) rfl dX2_areAlike_20 ?_
      refine lv_aload_n hx hb dX2_areAlike_23 rfl (lv_at hl 0 rfl) ?_
      refine va_get (D := D) (ci := 2) (v := .ref (ad 1)) (C := RX2) (T := TX2) (N := 4) hx hb hts inX2 hown hK hP b hO rfl 0 (by decide) (hts _ tw_78) (fun _ h9 => h9) rfl dX2_areAlike_24 ?_
      refine lv_iload_n hx hb dX2_areAlike_27 rfl (lv_at hl 2 rfl) ?_
      refine kx_qald hx hb hK hP (b + 1) 1 hQ rfl (i := j) (r := (ad (9 + 3 * j))) (by omega) (by decide) (hfq _ (by omega)) dX2_areAlike_28 ?_
      refine va_get (D := D) (ci := 1) (v := .int (nI (nE j))) (C := RX1) (T := TX1) (N := 5) hx hb hts inX1 hown hK hP (b + 9 + 3 * j) hGj rfl 2 (by decide) (hts _ tw_64) (fun _ h9 => h9) rfl dX2_areAlike_29 ?_
      refine lv_icmp_ne (tgt := 39) hx hb dX2_areAlike_32 (by decide) (fun c_32 => ?_) (fun c_32 => ?_)
      · skip
        have hno : ¬ (∃ i j, i < 8 ∧ j < 8 ∧ nE i = nE j ∧ x = nI i ∧ y = nI j) := fun ⟨i2, j2, h0, h1, h2, h3, h4⟩ => by
          have hi2 : i2 = i := ((nI_eq (by omega) (by omega)).mp (h3.symm.trans e_x))
          have hj2 : j2 = j := ((nI_eq (by omega) (by omega)).mp (h4.symm.trans e_y))
          subst hi2; subst hj2
          exact c_32 (by rw [h2])
        refine lv_iconst (v := 0) hx hb dX2_areAlike_39 (by decide +kernel) ?_
        exact kx_iret (v := 0) hx hb hr rfl hlocks hK hP hD hS dX2_areAlike_40 (⟨by first | exact Or.inl ⟨rfl, hyes⟩ | exact Or.inr ⟨rfl, hno⟩, rfl⟩)
      · skip
        have hyes : (∃ i j, i < 8 ∧ j < 8 ∧ nE i = nE j ∧ x = nI i ∧ y = nI j) := ⟨i, j, h8i, h8j, by
          have h9 : nI (nE i) = nI (nE j) := c_32
          exact (nI_eq (by omega) (by omega)).mp h9, e_x, e_y⟩
        refine lv_iconst (v := 1) hx hb dX2_areAlike_35 (by decide +kernel) ?_
        refine lv_goto (tgt := 40) hx hb dX2_areAlike_36 (by decide) ?_
        exact kx_iret (v := 1) hx hb hr rfl hlocks hK hP hD hS dX2_areAlike_40 (⟨by first | exact Or.inl ⟨rfl, hyes⟩ | exact Or.inr ⟨rfl, hno⟩, rfl⟩)

set_option maxHeartbeats 4000000 in
set_option maxRecDepth 100000 in
/-- edges(g) -/
theorem c_edges (l : Launch) (D : va_G) (k0 : Nat → ClassId) (w0 : va_W) (sz : Nat) (b : Nat) (ad nE nV : Nat → Nat) (op : Nat → Int32) (LL : Nat → Nat → Nat) (ww : Nat → Nat → Int32) (hC : atC w0 b k0 ad nE nV op LL ww) (hI : cinv nE nV LL ww) (x : Int32) : kx_i l yX2_edges wsX2_edges ({ frames := 1, cells := 0, slots := 0, locals := 24 } : Room) D (tyL k0) w0 sz [.ref (ad 0), .int x] (fun (r : Int32) (u : va_W) => ((∃ i, i < 8 ∧ x = nI i ∧ r = nI (nE i)) ∨ ((¬ ∃ i, i < 8 ∧ x = nI i) ∧ r = -1)) ∧ u = w0) 0 0 := by
  refine kx_of (Qf := fun A => va_Qi (fun (r : Int32) (u : va_W) => ((∃ i, i < 8 ∧ x = nI i ∧ r = nI (nE i)) ∨ ((¬ ∃ i, i < 8 ∧ x = nI i) ∧ r = -1)) ∧ u = w0) (kx_B D (tyL k0) A) A) (cc := cX2_edges) (maxL := 2) (ret := (some .int)) (by decide +kernel) (Nat.le_of_ble_eq_true rfl) ?_
  intro p e s m below meth c A ls hx hb hml hown hts hr hlocks hnm hN hK hP hD hS hA hl
  have hown : s.vm.findClass RX2 = some m.cls := hown
  have hl : lv_has ls 2 [(0, .ref (ad 0)), (1, .int x)] := hl
  skip
  obtain ⟨hO, ⟨fq, hQ, hfq⟩, ⟨r1, p1, k1, hF1, hR1, hT1⟩, ⟨r2, p2, k2, hF2, hR2, hT2⟩, ⟨dr, hd⟩, hgs⟩ := id hC
  refine lv_iload_n hx hb dX2_edges_0 rfl (lv_at hl 1 rfl) ?_
  refine kx_goi (va_runS (As := [.int x]) (rest := []) ⟨hx, hb, hml, hown, hts⟩ (c_isGraph l D k0 w0 _ x) ⟨(kg_B (k := 1) hts tw_97 tw_95 tw_19 (by decide +kernel) rfl rfl ⟨Nat.le_of_ble_eq_true rfl, Nat.le_of_ble_eq_true rfl⟩), hts _ tw_96⟩ (kx_preS hN hK hP hD) rfl rfl hl.1 rfl (lv_room (Nat.le_of_ble_eq_true rfl)) dX2_edges_1 ⟨Nat.le_of_ble_eq_true rfl, Nat.le_of_ble_eq_true rfl⟩) hD hS hA (fun r_2 u_3 H locs hp_1 hP hD hS => ?_)
  obtain ⟨hy_x, eu⟩ := hp_1
  rw [eu] at hP hD
  refine lv_if_eq (tgt := 19) hx hb dX2_edges_4 (by decide) (fun c_4 => ?_) (fun c_4 => ?_)
  · skip
    have hno := kg_0 hy_x c_4
    refine lv_iconst (v := -1) hx hb dX2_edges_19 (by decide +kernel) ?_
    exact kx_iret (v := -1) hx hb hr rfl hlocks hK hP hD hS dX2_edges_20 (⟨by first | exact Or.inl ⟨i, h8i, e_x, rfl⟩ | exact Or.inr ⟨hno, rfl⟩, rfl⟩)
  · skip
    obtain ⟨i, h8i, e_x⟩ := kg_1 hy_x c_4
    rw [e_x] at hl
    obtain ⟨hGi, hLi, hWi⟩ := hgs i h8i
    obtain ⟨hni, hvi, hl2i, hw2i⟩ := hI i h8i
    refine lv_aload_n hx hb dX2_edges_7 rfl (lv_at hl 0 rfl) ?_
    refine va_get (D := D) (ci := 2) (v := .ref (ad 1)) (C := RX2) (T := TX2) (N := 4) hx hb hts inX2 hown hK hP b hO rfl 0 (by decide) (hts _ tw_78) (fun _ h9 => h9) rfl dX2_edges_8 ?_
    refine lv_iload_n hx hb dX2_edges_11 rfl (lv_at hl 1 rfl) ?_
    refine kx_qald hx hb hK hP (b + 1) 1 hQ rfl (i := i) (r := (ad (9 + 3 * i))) (by omega) (by decide) (hfq _ (by omega)) dX2_edges_12 ?_
    refine va_get (D := D) (ci := 1) (v := .int (nI (nE i))) (C := RX1) (T := TX1) (N := 5) hx hb hts inX1 hown hK hP (b + 9 + 3 * i) hGi rfl 2 (by decide) (hts _ tw_64) (fun _ h9 => h9) rfl dX2_edges_13 ?_
    refine lv_goto (tgt := 20) hx hb dX2_edges_16 (by decide) ?_
    exact kx_iret (v := nI (nE i)) hx hb hr rfl hlocks hK hP hD hS dX2_edges_20 (⟨by first | exact Or.inl ⟨i, h8i, e_x, rfl⟩ | exact Or.inr ⟨hno, rfl⟩, rfl⟩)

set_option maxHeartbeats 4000000 in
set_option maxRecDepth 100000 in
/-- weight(g, e) -/
theorem c_weight (l : Launch) (D : va_G) (k0 : Nat → ClassId) (w0 : va_W) (sz : Nat) (b : Nat) (ad nE nV : Nat → Nat) (op : Nat → Int32) (LL : Nat → Nat → Nat) (ww : Nat → Nat → Int32) (hC : atC w0 b k0 ad nE nV op LL ww) (hI : cinv nE nV LL ww) (x y : Int32) : kx_i l yX2_weight wsX2_weight ({ frames := 2, cells := 0, slots := 0, locals := 48 } : Room) D (tyL k0) w0 sz [.ref (ad 0), .int x, .int y] (fun (r : Int32) (u : va_W) => ((∃ i e9, i < 8 ∧ e9 < nE i ∧ x = nI i ∧ y = nI e9 ∧ r = ww i e9) ∨ (¬ (∃ i e9, i < 8 ∧ e9 < nE i ∧ x = nI i ∧ y = nI e9) ∧ r = 0)) ∧ u = w0) 0 0 := by
  refine kx_of (Qf := fun A => va_Qi (fun (r : Int32) (u : va_W) => ((∃ i e9, i < 8 ∧ e9 < nE i ∧ x = nI i ∧ y = nI e9 ∧ r = ww i e9) ∨ (¬ (∃ i e9, i < 8 ∧ e9 < nE i ∧ x = nI i ∧ y = nI e9) ∧ r = 0)) ∧ u = w0) (kx_B D (tyL k0) A) A) (cc := cX2_weight) (maxL := 3) (ret := (some .int)) (by decide +kernel) (Nat.le_of_ble_eq_true rfl) ?_
  intro p e s m below meth c A ls hx hb hml hown hts hr hlocks hnm hN hK hP hD hS hA hl
  have hown : s.vm.findClass RX2 = some m.cls := hown
  have hl : lv_has ls 3 [(0, .ref (ad 0)), (1, .int x), (2, .int y)] := hl
  skip
  obtain ⟨hO, ⟨fq, hQ, hfq⟩, ⟨r1, p1, k1, hF1, hR1, hT1⟩, ⟨r2, p2, k2, hF2, hR2, hT2⟩, ⟨dr, hd⟩, hgs⟩ := id hC
  refine lv_aload_n hx hb dX2_weight_0 rfl (lv_at hl 0 rfl) ?_
  refine lv_iload_n hx hb dX2_weight_1 rfl (lv_at hl 1 rfl) ?_
  refine lv_iload_n hx hb dX2_weight_2 rfl (lv_at hl 2 rfl) ?_
  refine kx_goi (va_runV (As := [.int x, .int y]) (rest := []) ⟨hx, hb, hml, hown, hts⟩ (c_isEdge l D k0 w0 _ b ad nE nV op LL ww hC hI x y) ⟨(kg_B (k := 2) hts tw_121 tw_118 tw_19 (by decide +kernel) rfl rfl ⟨Nat.le_of_ble_eq_true rfl, Nat.le_of_ble_eq_true rfl⟩), hts _ tw_120, hts _ tw_0⟩ (kx_preV hN hK hP hD rfl hO) rfl rfl hl.1 rfl (lv_room (Nat.le_of_ble_eq_true rfl)) dX2_weight_3 ⟨Nat.le_of_ble_eq_true rfl, Nat.le_of_ble_eq_true rfl⟩) hD hS hA (fun r_2 u_3 H locs hp_1 hP hD hS => ?_)
  obtain ⟨hy_, eu⟩ := hp_1
  rw [eu] at hP hD
  refine lv_if_eq (tgt := 23) hx hb dX2_weight_6 (by decide) (fun c_6 => ?_) (fun c_6 => ?_)
  · skip
    have hno := kg_0 hy_ c_6
    refine lv_iconst (v := 0) hx hb dX2_weight_23 (by decide +kernel) ?_
    exact kx_iret (v := 0) hx hb hr rfl hlocks hK hP hD hS dX2_weight_24 (⟨by first | exact Or.inl ⟨i, e9, h8i, he9, e_x, e_y, rfl⟩ | exact Or.inr ⟨hno, rfl⟩, rfl⟩)
  · skip
    obtain ⟨i, e9, h8i, he9, e_x, e_y⟩ := kg_1 hy_ c_6
    rw [e_x, e_y] at hl
    obtain ⟨hGi, hLi, hWi⟩ := hgs i h8i
    obtain ⟨hni, hvi, hl2i, hw2i⟩ := hI i h8i
    refine lv_aload_n hx hb dX2_weight_9 rfl (lv_at hl 0 rfl) ?_
    refine va_get (D := D) (ci := 2) (v := .ref (ad 1)) (C := RX2) (T := TX2) (N := 4) hx hb hts inX2 hown hK hP b hO rfl 0 (by decide) (hts _ tw_78) (fun _ h9 => h9) rfl dX2_weight_10 ?_
    refine lv_iload_n hx hb dX2_weight_13 rfl (lv_at hl 1 rfl) ?_
    refine kx_qald hx hb hK hP (b + 1) 1 hQ rfl (i := i) (r := (ad (9 + 3 * i))) (by omega) (by decide) (hfq _ (by omega)) dX2_weight_14 ?_
    refine va_get (D := D) (ci := 1) (v := .ref (ad (11 + 3 * i))) (C := RX1) (T := TX1) (N := 5) hx hb hts inX1 hown hK hP (b + 9 + 3 * i) hGi rfl 1 (by decide) (hts _ tw_61) (fun _ h9 => h9) rfl dX2_weight_15 ?_
    refine lv_iload_n hx hb dX2_weight_18 rfl (lv_at hl 2 rfl) ?_
    refine kx_iald hx hb hK hP (b + 9 + 3 * i + 2) hWi rfl (i := e9) (by omega) (by decide) dX2_weight_19 ?_
    refine lv_goto (tgt := 24) hx hb dX2_weight_20 (by decide) ?_
    exact kx_iret (v := (ww i) e9) hx hb hr rfl hlocks hK hP hD hS dX2_weight_24 (⟨by first | exact Or.inl ⟨i, e9, h8i, he9, e_x, e_y, rfl⟩ | exact Or.inr ⟨hno, rfl⟩, rfl⟩)
end
section
set_option maxHeartbeats 4000000 in
set_option maxRecDepth 100000 in
/-- begin(g, vertices) -/
theorem c_begin (l : Launch) (D : va_G) (k0 : Nat → ClassId) (w0 : va_W) (sz : Nat) (b : Nat) (ad nE nV : Nat → Nat) (op : Nat → Int32) (LL : Nat → Nat → Nat) (ww : Nat → Nat → Int32) (hC : atC w0 b k0 ad nE nV op LL ww) (hI : cinv nE nV LL ww) (x y : Int32) : kx_i l yX2_begin wsX2_begin ({ frames := 1, cells := 0, slots := 0, locals := 24 } : Room) D (tyL k0) w0 sz [.ref (ad 0), .int x, .int y] (fun (r : Int32) (u : va_W) => ((∃ i v, i < 8 ∧ 1 ≤ v ∧ v ≤ 13 ∧ x = nI i ∧ y = nI v ∧ r = 1 ∧ atC u b k0 ad (va_up nE i 0) (va_up nV i v) (va_up op i 1) (va_up LL i (LL i)) (va_up ww i (ww i))) ∨ (¬ (∃ i v, i < 8 ∧ 1 ≤ v ∧ v ≤ 13 ∧ x = nI i ∧ y = nI v) ∧ r = 0 ∧ u = w0)) ∧ kx_fr w0 u (fun j => b ≤ j ∧ j < b + 33)) 0 0 := by
  refine kx_of (Qf := fun A => va_Qi (fun (r : Int32) (u : va_W) => ((∃ i v, i < 8 ∧ 1 ≤ v ∧ v ≤ 13 ∧ x = nI i ∧ y = nI v ∧ r = 1 ∧ atC u b k0 ad (va_up nE i 0) (va_up nV i v) (va_up op i 1) (va_up LL i (LL i)) (va_up ww i (ww i))) ∨ (¬ (∃ i v, i < 8 ∧ 1 ≤ v ∧ v ≤ 13 ∧ x = nI i ∧ y = nI v) ∧ r = 0 ∧ u = w0)) ∧ kx_fr w0 u (fun j => b ≤ j ∧ j < b + 33)) (kx_B D (tyL k0) A) A) (cc := cX2_begin) (maxL := 3) (ret := (some .boolean)) (by decide +kernel) (Nat.le_of_ble_eq_true rfl) ?_
  intro p e s m below meth c A ls hx hb hml hown hts hr hlocks hnm hN hK hP hD hS hA hl
  have hown : s.vm.findClass RX2 = some m.cls := hown
  have hl : lv_has ls 3 [(0, .ref (ad 0)), (1, .int x), (2, .int y)] := hl
  skip
  obtain ⟨hO, ⟨fq, hQ, hfq⟩, ⟨r1, p1, k1, hF1, hR1, hT1⟩, ⟨r2, p2, k2, hF2, hR2, hT2⟩, ⟨dr, hd⟩, hgs⟩ := id hC
  refine lv_iload_n hx hb dX2_begin_0 rfl (lv_at hl 1 rfl) ?_
  refine kx_goi (va_runS (As := [.int x]) (rest := []) ⟨hx, hb, hml, hown, hts⟩ (c_isGraph l D k0 w0 _ x) ⟨(kg_B (k := 1) hts tw_97 tw_95 tw_19 (by decide +kernel) rfl rfl ⟨Nat.le_of_ble_eq_true rfl, Nat.le_of_ble_eq_true rfl⟩), hts _ tw_96⟩ (kx_preS hN hK hP hD) rfl rfl hl.1 rfl (lv_room (Nat.le_of_ble_eq_true rfl)) dX2_begin_1 ⟨Nat.le_of_ble_eq_true rfl, Nat.le_of_ble_eq_true rfl⟩) hD hS hA (fun r_2 u_3 H locs hp_1 hP hD hS => ?_)
  obtain ⟨hy_x, eu⟩ := hp_1
  rw [eu] at hP hD
  refine lv_if_eq (tgt := 18) hx hb dX2_begin_4 (by decide) (fun c_4 => ?_) (fun c_4 => ?_)
  · skip
    have hno0 := kg_0 hy_x c_4
    have hno : ¬ (∃ i v, i < 8 ∧ 1 ≤ v ∧ v ≤ 13 ∧ x = nI i ∧ y = nI v) := fun ⟨i, _, h1, _, _, h2, _⟩ => hno0 ⟨i, h1, h2⟩
    refine lv_iconst (v := 0) hx hb dX2_begin_18 (by decide +kernel) ?_
    exact kx_iret (v := 0) hx hb hr rfl hlocks hK hP hD hS dX2_begin_19 (⟨Or.inr ⟨hno, rfl, rfl⟩, kx_fr_rf _ _⟩)
  · skip
    obtain ⟨i, h8i, e_x⟩ := kg_1 hy_x c_4
    rw [e_x] at hl
    obtain ⟨hGi, hLi, hWi⟩ := hgs i h8i
    obtain ⟨hni, hvi, hl2i, hw2i⟩ := hI i h8i
    refine lv_iload_n hx hb dX2_begin_7 rfl (lv_at hl 2 rfl) ?_
    refine lv_iconst (v := nI 1) hx hb dX2_begin_8 (by decide +kernel) ?_
    refine lv_icmp_lt (tgt := 18) hx hb dX2_begin_9 (by decide) (fun c_9 => ?_) (fun c_9 => ?_)
    · skip
      have hno : ¬ (∃ i v, i < 8 ∧ 1 ≤ v ∧ v ≤ 13 ∧ x = nI i ∧ y = nI v) := fun ⟨_, v, _, h1, h2, _, h3⟩ => by
        rw [h3] at c_9
        have := (nI_ltI (by omega) (by omega)).mp c_9
        omega
      refine lv_iconst (v := 0) hx hb dX2_begin_18 (by decide +kernel) ?_
      exact kx_iret (v := 0) hx hb hr rfl hlocks hK hP hD hS dX2_begin_19 (⟨Or.inr ⟨hno, rfl, rfl⟩, kx_fr_rf _ _⟩)
    · skip
      refine lv_iload_n hx hb dX2_begin_12 rfl (lv_at hl 2 rfl) ?_
      refine lv_bipush (v := nI 13) hx hb dX2_begin_13 (by decide +kernel) ?_
      refine lv_icmp_le (tgt := 20) hx hb dX2_begin_15 (by decide) (fun c_15 => ?_) (fun c_15 => ?_)
      · skip
        obtain ⟨v, hv1, hv2, e_y⟩ : ∃ v : Nat, 1 ≤ v ∧ v ≤ 13 ∧ y = nI v := by
          have hp : ¬ y < 0 := fun h => c_9 (Int32.lt_trans h (by decide))
          obtain ⟨v, h1, h2⟩ := nI_of hp
          rw [h2] at c_9 c_15
          have h3 := (nI_leI (by omega) (by omega)).mp c_15
          refine ⟨v, ?_, h3, h2⟩
          rcases Nat.lt_or_ge v 1 with h | h
          · exact absurd ((nI_ltI (by omega) (by omega)).mpr h) c_9
          · exact h
        rw [e_y] at hl
        refine lv_aload_n hx hb dX2_begin_20 rfl (lv_at hl 0 rfl) ?_
        refine va_get (D := D) (ci := 2) (v := .ref (ad 1)) (C := RX2) (T := TX2) (N := 4) hx hb hts inX2 hown hK hP b hO rfl 0 (by decide) (hts _ tw_78) (fun _ h9 => h9) rfl dX2_begin_21 ?_
        refine lv_iload_n hx hb dX2_begin_24 rfl (lv_at hl 1 rfl) ?_
        refine kx_qald hx hb hK hP (b + 1) 1 hQ rfl (i := i) (r := (ad (9 + 3 * i))) (by omega) (by decide) (hfq _ (by omega)) dX2_begin_25 ?_
        refine lv_iload_n hx hb dX2_begin_26 rfl (lv_at hl 2 rfl) ?_
        refine kx_gov (va_runV (As := [.int (nI v)]) (rest := []) ⟨hx, hb, hml, hown, hts⟩ (c_restart l D k0 w0 _ (b + 9 + 3 * i) (ad (9 + 3 * i)) (ad (10 + 3 * i)) (ad (11 + 3 * i)) (LL i) (ww i) (nE i) (nI (nV i)) (op i) hGi hLi hWi (nI v)) ⟨(kg_B (k := 1) hts tw_101 tw_98 tw_21 (by decide +kernel) rfl rfl ⟨Nat.le_of_ble_eq_true rfl, Nat.le_of_ble_eq_true rfl⟩), hts _ tw_99, hts _ tw_100⟩ (kx_preV hN hK hP hD rfl hGi) rfl rfl hl.1 rfl (lv_room (Nat.le_of_ble_eq_true rfl)) dX2_begin_27 ⟨Nat.le_of_ble_eq_true rfl, Nat.le_of_ble_eq_true rfl⟩) hD hS hA (fun u_6 H locs hp_4 hP hD hS => ?_)
        obtain ⟨hg, hq⟩ := hp_4
        refine lv_iconst (v := 1) hx hb dX2_begin_30 (by decide +kernel) ?_
        exact kx_iret (v := 1) hx hb hr rfl hlocks hK hP hD hS dX2_begin_31 (⟨Or.inl ⟨i, v, h8i, hv1, hv2, e_x, e_y, rfl, atC_put hC hq hg⟩, kx_fr_mono hq (fun j h => by omega)⟩)
      · skip
        have hno : ¬ (∃ i v, i < 8 ∧ 1 ≤ v ∧ v ≤ 13 ∧ x = nI i ∧ y = nI v) := fun ⟨_, v, _, h1, h2, _, h3⟩ => by
          rw [h3] at c_15
          exact c_15 ((nI_leI (by omega) (by omega)).mpr h2)
        refine lv_iconst (v := 0) hx hb dX2_begin_18 (by decide +kernel) ?_
        exact kx_iret (v := 0) hx hb hr rfl hlocks hK hP hD hS dX2_begin_19 (⟨Or.inr ⟨hno, rfl, rfl⟩, kx_fr_rf _ _⟩)

set_option maxHeartbeats 4000000 in
set_option maxRecDepth 100000 in
/-- add(g, a, b) -/
theorem c_add (l : Launch) (D : va_G) (k0 : Nat → ClassId) (w0 : va_W) (sz : Nat) (b : Nat) (ad nE nV : Nat → Nat) (op : Nat → Int32) (LL : Nat → Nat → Nat) (ww : Nat → Nat → Int32) (hC : atC w0 b k0 ad nE nV op LL ww) (hI : cinv nE nV LL ww) (x y z : Int32) : kx_i l yX2_add wsX2_add ({ frames := 1, cells := 0, slots := 0, locals := 24 } : Room) D (tyL k0) w0 sz [.ref (ad 0), .int x, .int y, .int z] (fun (r : Int32) (u : va_W) => ((∃ i a c9, i < 8 ∧ op i ≠ 0 ∧ a < nV i ∧ c9 < nV i ∧ nE i < 12 ∧ x = nI i ∧ y = nI a ∧ z = nI c9 ∧ r = nI (nE i) ∧ atC u b k0 ad (va_up nE i (nE i + 1)) (va_up nV i (nV i)) (va_up op i (op i)) (va_up LL i (fo_up (LL i) (nE i) (2 ^ a ^^^ 2 ^ c9))) (va_up ww i (upd (ww i) (nE i) 0))) ∨ (¬ (∃ i a c9, i < 8 ∧ op i ≠ 0 ∧ a < nV i ∧ c9 < nV i ∧ nE i < 12 ∧ x = nI i ∧ y = nI a ∧ z = nI c9) ∧ r = -1 ∧ u = w0)) ∧ kx_fr w0 u (fun j => b ≤ j ∧ j < b + 33)) 0 0 := by
  refine kx_of (Qf := fun A => va_Qi (fun (r : Int32) (u : va_W) => ((∃ i a c9, i < 8 ∧ op i ≠ 0 ∧ a < nV i ∧ c9 < nV i ∧ nE i < 12 ∧ x = nI i ∧ y = nI a ∧ z = nI c9 ∧ r = nI (nE i) ∧ atC u b k0 ad (va_up nE i (nE i + 1)) (va_up nV i (nV i)) (va_up op i (op i)) (va_up LL i (fo_up (LL i) (nE i) (2 ^ a ^^^ 2 ^ c9))) (va_up ww i (upd (ww i) (nE i) 0))) ∨ (¬ (∃ i a c9, i < 8 ∧ op i ≠ 0 ∧ a < nV i ∧ c9 < nV i ∧ nE i < 12 ∧ x = nI i ∧ y = nI a ∧ z = nI c9) ∧ r = -1 ∧ u = w0)) ∧ kx_fr w0 u (fun j => b ≤ j ∧ j < b + 33)) (kx_B D (tyL k0) A) A) (cc := cX2_add) (maxL := 6) (ret := (some .int)) (by decide +kernel) (Nat.le_of_ble_eq_true rfl) ?_
  intro p e s m below meth c A ls hx hb hml hown hts hr hlocks hnm hN hK hP hD hS hA hl
  have hown : s.vm.findClass RX2 = some m.cls := hown
  have hl : lv_has ls 6 [(0, .ref (ad 0)), (1, .int x), (2, .int y), (3, .int z)] := hl
  skip
  obtain ⟨hO, ⟨fq, hQ, hfq⟩, ⟨r1, p1, k1, hF1, hR1, hT1⟩, ⟨r2, p2, k2, hF2, hR2, hT2⟩, ⟨dr, hd⟩, hgs⟩ := id hC
  refine lv_iload_n hx hb dX2_add_0 rfl (lv_at hl 1 rfl) ?_
  refine kx_goi (va_runS (As := [.int x]) (rest := []) ⟨hx, hb, hml, hown, hts⟩ (c_isGraph l D k0 w0 _ x) ⟨(kg_B (k := 1) hts tw_97 tw_95 tw_19 (by decide +kernel) rfl rfl ⟨Nat.le_of_ble_eq_true rfl, Nat.le_of_ble_eq_true rfl⟩), hts _ tw_96⟩ (kx_preS hN hK hP hD) rfl rfl hl.1 rfl (lv_room (Nat.le_of_ble_eq_true rfl)) dX2_add_1 ⟨Nat.le_of_ble_eq_true rfl, Nat.le_of_ble_eq_true rfl⟩) hD hS hA (fun r_2 u_3 H locs hp_1 hP hD hS => ?_)
  obtain ⟨hy_x, eu⟩ := hp_1
  rw [eu] at hP hD
  refine lv_if_ne (tgt := 9) hx hb dX2_add_4 (by decide) (fun c_4 => ?_) (fun c_4 => ?_)
  · skip
    obtain ⟨i, h8i, e_x⟩ := kg_1 hy_x c_4
    rw [e_x] at hl
    obtain ⟨hGi, hLi, hWi⟩ := hgs i h8i
    obtain ⟨hni, hvi, hl2i, hw2i⟩ := hI i h8i
    refine lv_aload_n hx hb dX2_add_9 rfl (lv_at hl 0 rfl) ?_
    refine va_get (D := D) (ci := 2) (v := .ref (ad 1)) (C := RX2) (T := TX2) (N := 4) hx hb hts inX2 hown hK hP b hO rfl 0 (by decide) (hts _ tw_78) (fun _ h9 => h9) rfl dX2_add_10 ?_
    refine lv_iload_n hx hb dX2_add_13 rfl (lv_at hl 1 rfl) ?_
    refine kx_qald hx hb hK hP (b + 1) 1 hQ rfl (i := i) (r := (ad (9 + 3 * i))) (by omega) (by decide) (hfq _ (by omega)) dX2_add_14 ?_
    refine lv_astore (lv' := [(4, .ref (ad (9 + 3 * i))), (0, .ref (ad 0)), (1, .int (nI i)), (2, .int y), (3, .int z)]) hx hb dX2_add_15 hl (by decide) rfl (fun ls hl => ?_)
    refine lv_aload hx hb dX2_add_17 (lv_at hl 0 rfl) ?_
    refine lv_iload_n hx hb dX2_add_19 rfl (lv_at hl 3 rfl) ?_
    refine kx_goi (va_runV (As := [.int y]) (rest := []) ⟨hx, hb, hml, hown, hts⟩ (c_canMeet l D k0 w0 _ (b + 9 + 3 * i) (ad (9 + 3 * i)) (ad (10 + 3 * i)) (ad (11 + 3 * i)) (LL i) (ww i) (nE i) (nV i) (op i) hGi hLi hWi (by omega) y) ⟨(kg_B (k := 1) hts tw_109 tw_106 tw_21 (by decide +kernel) rfl rfl ⟨Nat.le_of_ble_eq_true rfl, Nat.le_of_ble_eq_true rfl⟩), hts _ tw_107, hts _ tw_108⟩ (kx_preV hN hK hP hD rfl hGi) rfl rfl hl.1 rfl (lv_room (Nat.le_of_ble_eq_true rfl)) dX2_add_20 ⟨Nat.le_of_ble_eq_true rfl, Nat.le_of_ble_eq_true rfl⟩) hD hS hA (fun r_5 u_6 H locs hp_4 hP hD hS => ?_)
    obtain ⟨hm1, eu⟩ := hp_4
    rw [eu] at hP hD
    refine lv_if_eq (tgt := 39) hx hb dX2_add_23 (by decide) (fun c_23 => ?_) (fun c_23 => ?_)
    · skip
      have hno1 := kg_0 hm1 c_23
      have hno : ¬ (∃ i a c9, i < 8 ∧ op i ≠ 0 ∧ a < nV i ∧ c9 < nV i ∧ nE i < 12 ∧ x = nI i ∧ y = nI a ∧ z = nI c9) := fun ⟨i2, a, _, h1, h2, h3, _, _, h5, h6, _⟩ => by
        have hi2 : i2 = i := ((nI_eq (by omega) (by omega)).mp (h5.symm.trans e_x))
        subst hi2
        exact hno1 ⟨h2, a, h3, h6⟩
      refine lv_iconst (v := 0) hx hb dX2_add_39 (by decide +kernel) ?_
      refine lv_istore (lv' := [(5, .int 0), (4, .ref (ad (9 + 3 * i))), (0, .ref (ad 0)), (1, .int (nI i)), (2, .int y), (3, .int z)]) hx hb dX2_add_40 hl (by decide) rfl (fun ls hl => ?_)
      refine lv_iload hx hb dX2_add_42 (lv_at hl 0 rfl) ?_
      refine lv_if_eq (tgt := 62) hx hb dX2_add_44 (by decide) (fun c_44 => ?_) (fun c_44 => ?_)
      · skip
        refine lv_iconst (v := -1) hx hb dX2_add_62 (by decide +kernel) ?_
        exact kx_iret (v := -1) hx hb hr rfl hlocks hK hP hD hS dX2_add_63 (⟨Or.inr ⟨hno, rfl, rfl⟩, kx_fr_rf _ _⟩)
      · skip
        exact absurd rfl c_44
    · skip
      obtain ⟨hop, a, h_a, e_y⟩ := kg_1 hm1 c_23
      rw [e_y] at hl
      refine lv_aload hx hb dX2_add_26 (lv_at hl 0 rfl) ?_
      refine lv_iload_n hx hb dX2_add_28 rfl (lv_at hl 4 rfl) ?_
      refine kx_goi (va_runV (As := [.int z]) (rest := []) ⟨hx, hb, hml, hown, hts⟩ (c_canMeet l D k0 w0 _ (b + 9 + 3 * i) (ad (9 + 3 * i)) (ad (10 + 3 * i)) (ad (11 + 3 * i)) (LL i) (ww i) (nE i) (nV i) (op i) hGi hLi hWi (by omega) z) ⟨(kg_B (k := 1) hts tw_109 tw_106 tw_21 (by decide +kernel) rfl rfl ⟨Nat.le_of_ble_eq_true rfl, Nat.le_of_ble_eq_true rfl⟩), hts _ tw_107, hts _ tw_108⟩ (kx_preV hN hK hP hD rfl hGi) rfl rfl hl.1 rfl (lv_room (Nat.le_of_ble_eq_true rfl)) dX2_add_29 ⟨Nat.le_of_ble_eq_true rfl, Nat.le_of_ble_eq_true rfl⟩) hD hS hA (fun r_8 u_9 H locs hp_7 hP hD hS => ?_)
      obtain ⟨hm2, eu⟩ := hp_7
      rw [eu] at hP hD
      refine lv_if_eq (tgt := 39) hx hb dX2_add_32 (by decide) (fun c_32 => ?_) (fun c_32 => ?_)
      · skip
        have hno1 := kg_0 hm2 c_32
        have hno : ¬ (∃ i a c9, i < 8 ∧ op i ≠ 0 ∧ a < nV i ∧ c9 < nV i ∧ nE i < 12 ∧ x = nI i ∧ y = nI a ∧ z = nI c9) := fun ⟨i2, _, c9, h1, h2, _, h3, _, h5, _, h6⟩ => by
          have hi2 : i2 = i := ((nI_eq (by omega) (by omega)).mp (h5.symm.trans e_x))
          subst hi2
          exact hno1 ⟨h2, c9, h3, h6⟩
        refine lv_iconst (v := 0) hx hb dX2_add_39 (by decide +kernel) ?_
        refine lv_istore (lv' := [(5, .int 0), (4, .ref (ad (9 + 3 * i))), (0, .ref (ad 0)), (1, .int (nI i)), (2, .int (nI a)), (3, .int z)]) hx hb dX2_add_40 hl (by decide) rfl (fun ls hl => ?_)
        refine lv_iload hx hb dX2_add_42 (lv_at hl 0 rfl) ?_
        refine lv_if_eq (tgt := 62) hx hb dX2_add_44 (by decide) (fun c_44 => ?_) (fun c_44 => ?_)
        · skip
          refine lv_iconst (v := -1) hx hb dX2_add_62 (by decide +kernel) ?_
          exact kx_iret (v := -1) hx hb hr rfl hlocks hK hP hD hS dX2_add_63 (⟨Or.inr ⟨hno, rfl, rfl⟩, kx_fr_rf _ _⟩)
        · skip
          exact absurd rfl c_44
      · skip
        obtain ⟨hop, c9, h_c9, e_z⟩ := kg_1 hm2 c_32
        rw [e_z] at hl
        refine lv_iconst (v := 1) hx hb dX2_add_35 (by decide +kernel) ?_
        refine lv_goto (tgt := 40) hx hb dX2_add_36 (by decide) ?_
        refine lv_istore (lv' := [(5, .int 1), (4, .ref (ad (9 + 3 * i))), (0, .ref (ad 0)), (1, .int (nI i)), (2, .int (nI a)), (3, .int (nI c9))]) hx hb dX2_add_40 hl (by decide) rfl (fun ls hl => ?_)
        refine lv_iload hx hb dX2_add_42 (lv_at hl 0 rfl) ?_
        refine lv_if_eq (tgt := 62) hx hb dX2_add_44 (by decide) (fun c_44 => ?_) (fun c_44 => ?_)
        · skip
          exact absurd c_44 (by decide)
        · skip
          refine lv_aload hx hb dX2_add_47 (lv_at hl 1 rfl) ?_
          refine lv_iconst (v := 1) hx hb dX2_add_49 (by decide +kernel) ?_
          refine lv_iload_n hx hb dX2_add_50 rfl (lv_at hl 4 rfl) ?_
          refine lv_ishl hx hb dX2_add_51 ?_
          refine lv_topi (fun z_10 ez_10 => ?_)
          have ez_10 : z_10 = nI (2 ^ a) := by rw [ez_10]; exact kb_one (by omega)
          subst ez_10
          refine lv_iconst (v := 1) hx hb dX2_add_52 (by decide +kernel) ?_
          refine lv_iload_n hx hb dX2_add_53 rfl (lv_at hl 5 rfl) ?_
          refine lv_ishl hx hb dX2_add_54 ?_
          refine lv_topi (fun z_11 ez_11 => ?_)
          have ez_11 : z_11 = nI (2 ^ c9) := by rw [ez_11]; exact kb_one (by omega)
          subst ez_11
          refine lv_ixor hx hb dX2_add_55 ?_
          refine lv_topi (fun z_12 ez_12 => ?_)
          have ez_12 : z_12 = nI (2 ^ a ^^^ 2 ^ c9) := by rw [ez_12]; exact kb_xor _ _
          subst ez_12
          refine kx_goi (va_runV (As := [.int (nI (2 ^ a ^^^ 2 ^ c9))]) (rest := []) ⟨hx, hb, hml, hown, hts⟩ (c_append l D k0 w0 _ (b + 9 + 3 * i) (ad (9 + 3 * i)) (ad (10 + 3 * i)) (ad (11 + 3 * i)) (LL i) (ww i) (nE i) (nI (nV i)) (op i) hGi hLi hWi hni (2 ^ a ^^^ 2 ^ c9)) ⟨(kg_B (k := 1) hts tw_113 tw_110 tw_21 (by decide +kernel) rfl rfl ⟨Nat.le_of_ble_eq_true rfl, Nat.le_of_ble_eq_true rfl⟩), hts _ tw_111, hts _ tw_112⟩ (kx_preV hN hK hP hD rfl hGi) rfl rfl hl.1 rfl (lv_room (Nat.le_of_ble_eq_true rfl)) dX2_add_56 ⟨Nat.le_of_ble_eq_true rfl, Nat.le_of_ble_eq_true rfl⟩) hD hS hA (fun r_14 u_15 H locs hp_13 hP hD hS => ?_)
          refine lv_goto (tgt := 63) hx hb dX2_add_59 (by decide) ?_
          rcases hp_13 with ⟨h12, er, eu⟩ | ⟨h12, er, hg, hq⟩
          · subst er
            rw [eu] at hP hD
            exact kx_iret (v := -1) hx hb hr rfl hlocks hK hP hD hS dX2_add_63 ⟨Or.inr ⟨fun ⟨i2, _, _, h1, _, _, _, h4, h5, _⟩ => by
              have hi2 : i2 = i := ((nI_eq (by omega) (by omega)).mp (h5.symm.trans e_x))
              subst hi2
              omega, rfl, rfl⟩, kx_fr_rf _ _⟩
          · exact kx_iret (v := r_14) hx hb hr rfl hlocks hK hP hD hS dX2_add_63 ⟨Or.inl ⟨i, a, c9, h8i, hop, h_a, h_c9, h12, e_x, e_y, e_z, er, atC_put hC hq hg⟩, kx_fr_mono hq (fun j h => by omega)⟩
  · skip
    have hno0 := kg_0 hy_x c_4
    have hno : ¬ (∃ i a c9, i < 8 ∧ op i ≠ 0 ∧ a < nV i ∧ c9 < nV i ∧ nE i < 12 ∧ x = nI i ∧ y = nI a ∧ z = nI c9) := fun ⟨i, _, _, h1, _, _, _, _, h2, _⟩ => hno0 ⟨i, h1, h2⟩
    refine lv_iconst (v := -1) hx hb dX2_add_7 (by decide +kernel) ?_
    exact kx_iret (v := -1) hx hb hr rfl hlocks hK hP hD hS dX2_add_8 (⟨Or.inr ⟨hno, rfl, rfl⟩, kx_fr_rf _ _⟩)

set_option maxHeartbeats 4000000 in
set_option maxRecDepth 100000 in
/-- weigh(g, e, weight) -/
theorem c_weigh (l : Launch) (D : va_G) (k0 : Nat → ClassId) (w0 : va_W) (sz : Nat) (b : Nat) (ad nE nV : Nat → Nat) (op : Nat → Int32) (LL : Nat → Nat → Nat) (ww : Nat → Nat → Int32) (hC : atC w0 b k0 ad nE nV op LL ww) (hI : cinv nE nV LL ww) (x y z : Int32) : kx_i l yX2_weigh wsX2_weigh ({ frames := 2, cells := 0, slots := 0, locals := 48 } : Room) D (tyL k0) w0 sz [.ref (ad 0), .int x, .int y, .int z] (fun (r : Int32) (u : va_W) => ((∃ i e9, i < 8 ∧ e9 < nE i ∧ x = nI i ∧ y = nI e9 ∧ -999 ≤ z.toInt ∧ z.toInt ≤ 999 ∧ r = 1 ∧ atC u b k0 ad (va_up nE i (nE i)) (va_up nV i (nV i)) (va_up op i (op i)) (va_up LL i (LL i)) (va_up ww i (upd (ww i) e9 z))) ∨ (¬ (∃ i e9, i < 8 ∧ e9 < nE i ∧ x = nI i ∧ y = nI e9 ∧ -999 ≤ z.toInt ∧ z.toInt ≤ 999) ∧ r = 0 ∧ u = w0)) ∧ kx_fr w0 u (fun j => b ≤ j ∧ j < b + 33)) 0 0 := by
  refine kx_of (Qf := fun A => va_Qi (fun (r : Int32) (u : va_W) => ((∃ i e9, i < 8 ∧ e9 < nE i ∧ x = nI i ∧ y = nI e9 ∧ -999 ≤ z.toInt ∧ z.toInt ≤ 999 ∧ r = 1 ∧ atC u b k0 ad (va_up nE i (nE i)) (va_up nV i (nV i)) (va_up op i (op i)) (va_up LL i (LL i)) (va_up ww i (upd (ww i) e9 z))) ∨ (¬ (∃ i e9, i < 8 ∧ e9 < nE i ∧ x = nI i ∧ y = nI e9 ∧ -999 ≤ z.toInt ∧ z.toInt ≤ 999) ∧ r = 0 ∧ u = w0)) ∧ kx_fr w0 u (fun j => b ≤ j ∧ j < b + 33)) (kx_B D (tyL k0) A) A) (cc := cX2_weigh) (maxL := 4) (ret := (some .boolean)) (by decide +kernel) (Nat.le_of_ble_eq_true rfl) ?_
  intro p e s m below meth c A ls hx hb hml hown hts hr hlocks hnm hN hK hP hD hS hA hl
  have hown : s.vm.findClass RX2 = some m.cls := hown
  have hl : lv_has ls 4 [(0, .ref (ad 0)), (1, .int x), (2, .int y), (3, .int z)] := hl
  skip
  obtain ⟨hO, ⟨fq, hQ, hfq⟩, ⟨r1, p1, k1, hF1, hR1, hT1⟩, ⟨r2, p2, k2, hF2, hR2, hT2⟩, ⟨dr, hd⟩, hgs⟩ := id hC
  refine lv_aload_n hx hb dX2_weigh_0 rfl (lv_at hl 0 rfl) ?_
  refine lv_iload_n hx hb dX2_weigh_1 rfl (lv_at hl 1 rfl) ?_
  refine lv_iload_n hx hb dX2_weigh_2 rfl (lv_at hl 2 rfl) ?_
  refine kx_goi (va_runV (As := [.int x, .int y]) (rest := []) ⟨hx, hb, hml, hown, hts⟩ (c_isEdge l D k0 w0 _ b ad nE nV op LL ww hC hI x y) ⟨(kg_B (k := 2) hts tw_121 tw_118 tw_19 (by decide +kernel) rfl rfl ⟨Nat.le_of_ble_eq_true rfl, Nat.le_of_ble_eq_true rfl⟩), hts _ tw_120, hts _ tw_0⟩ (kx_preV hN hK hP hD rfl hO) rfl rfl hl.1 rfl (lv_room (Nat.le_of_ble_eq_true rfl)) dX2_weigh_3 ⟨Nat.le_of_ble_eq_true rfl, Nat.le_of_ble_eq_true rfl⟩) hD hS hA (fun r_2 u_3 H locs hp_1 hP hD hS => ?_)
  obtain ⟨hy_, eu⟩ := hp_1
  rw [eu] at hP hD
  refine lv_if_eq (tgt := 23) hx hb dX2_weigh_6 (by decide) (fun c_6 => ?_) (fun c_6 => ?_)
  · skip
    have hno0 := kg_0 hy_ c_6
    have hno : ¬ (∃ i e9, i < 8 ∧ e9 < nE i ∧ x = nI i ∧ y = nI e9 ∧ -999 ≤ z.toInt ∧ z.toInt ≤ 999) := fun ⟨i, e9, h1, h2, h3, h4, _⟩ => hno0 ⟨i, e9, h1, h2, h3, h4⟩
    refine lv_iconst (v := 0) hx hb dX2_weigh_23 (by decide +kernel) ?_
    exact kx_iret (v := 0) hx hb hr rfl hlocks hK hP hD hS dX2_weigh_24 (⟨Or.inr ⟨hno, rfl, rfl⟩, kx_fr_rf _ _⟩)
  · skip
    obtain ⟨i, e9, h8i, he9, e_x, e_y⟩ := kg_1 hy_ c_6
    rw [e_x, e_y] at hl
    obtain ⟨hGi, hLi, hWi⟩ := hgs i h8i
    obtain ⟨hni, hvi, hl2i, hw2i⟩ := hI i h8i
    refine lv_iload_n hx hb dX2_weigh_9 rfl (lv_at hl 3 rfl) ?_
    refine lv_sipush (v := -999) hx hb dX2_weigh_10 (by decide +kernel) ?_
    refine lv_icmp_lt (tgt := 23) hx hb dX2_weigh_13 (by decide) (fun c_13 => ?_) (fun c_13 => ?_)
    · skip
      have hno : ¬ (∃ i e9, i < 8 ∧ e9 < nE i ∧ x = nI i ∧ y = nI e9 ∧ -999 ≤ z.toInt ∧ z.toInt ≤ 999) := fun ⟨_, _, _, _, _, _, h1, _⟩ => by
        rw [Int32.lt_iff_toInt_lt, show ((-999 : Int32)).toInt = -999 by decide] at c_13
        omega
      refine lv_iconst (v := 0) hx hb dX2_weigh_23 (by decide +kernel) ?_
      exact kx_iret (v := 0) hx hb hr rfl hlocks hK hP hD hS dX2_weigh_24 (⟨Or.inr ⟨hno, rfl, rfl⟩, kx_fr_rf _ _⟩)
    · skip
      have hz1 : -999 ≤ z.toInt := by
        rw [Int32.lt_iff_toInt_lt, show ((-999 : Int32)).toInt = -999 by decide] at c_13
        omega
      refine lv_iload_n hx hb dX2_weigh_16 rfl (lv_at hl 3 rfl) ?_
      refine lv_sipush (v := 999) hx hb dX2_weigh_17 (by decide +kernel) ?_
      refine lv_icmp_le (tgt := 25) hx hb dX2_weigh_20 (by decide) (fun c_20 => ?_) (fun c_20 => ?_)
      · skip
        have hz2 : z.toInt ≤ 999 := by
          rw [Int32.le_iff_toInt_le, show ((999 : Int32)).toInt = 999 by decide] at c_20
          exact c_20
        refine lv_aload_n hx hb dX2_weigh_25 rfl (lv_at hl 0 rfl) ?_
        refine va_get (D := D) (ci := 2) (v := .ref (ad 1)) (C := RX2) (T := TX2) (N := 4) hx hb hts inX2 hown hK hP b hO rfl 0 (by decide) (hts _ tw_78) (fun _ h9 => h9) rfl dX2_weigh_26 ?_
        refine lv_iload_n hx hb dX2_weigh_29 rfl (lv_at hl 1 rfl) ?_
        refine kx_qald hx hb hK hP (b + 1) 1 hQ rfl (i := i) (r := (ad (9 + 3 * i))) (by omega) (by decide) (hfq _ (by omega)) dX2_weigh_30 ?_
        refine va_get (D := D) (ci := 1) (v := .ref (ad (11 + 3 * i))) (C := RX1) (T := TX1) (N := 5) hx hb hts inX1 hown hK hP (b + 9 + 3 * i) hGi rfl 1 (by decide) (hts _ tw_61) (fun _ h9 => h9) rfl dX2_weigh_31 ?_
        refine lv_iload_n hx hb dX2_weigh_34 rfl (lv_at hl 2 rfl) ?_
        refine lv_iload_n hx hb dX2_weigh_35 rfl (lv_at hl 3 rfl) ?_
        refine kx_iast hx hb hK hP hD hS (b + 9 + 3 * i + 2) hWi rfl (i := e9) (x := z) (by omega) (by decide) dX2_weigh_36 (fun H locs hP hD hS => ?_)
        obtain ⟨w_4, ew_4⟩ : ∃ w, w = w0.set (b + 9 + 3 * i + 2) (ad (11 + 3 * i), .inl (k0 0, 12, .inl (upd (ww i) e9 z))) := ⟨_, rfl⟩
        have hP : va_P D vwCl w_4 H := by rw [ew_4]; exact hP
        have hD : va_D A w_4 := by rw [ew_4]; exact hD
        have f_5 : w_4[b]? = some (ad 0, .inr (2, [.ref (ad 1), .ref (ad 2), .ref (ad 5), .ref (ad 8)])) := by rw [ew_4]; exact kx_set_ne hO (by omega)
        have f_6 : w_4[b + 1]? = some (ad 1, .inl (k0 1, 8, .inr (.inr (.inr (.inr fq))))) := by rw [ew_4]; exact kx_set_ne hQ (by omega)
        have f_7 : w_4[b + 9 + 3 * i]? = some (ad (9 + 3 * i), .inr (1, [.ref (ad (10 + 3 * i)), .ref (ad (11 + 3 * i)), .int (nI (nE i)), .int (nI (nV i)), .int (op i)])) := by rw [ew_4]; exact kx_set_ne hGi (by omega)
        have f_8 : w_4[b + 9 + 3 * i + 1]? = some (ad (10 + 3 * i), .inl (k0 0, 12, .inl (fun j => nI ((LL i) j)))) := by rw [ew_4]; exact kx_set_ne hLi (by omega)
        have f_9 : w_4[b + 9 + 3 * i + 2]? = some (ad (11 + 3 * i), .inl (k0 0, 12, .inl (upd (ww i) e9 z))) := by rw [ew_4]; exact kx_set_self hWi
        refine lv_iconst (v := 1) hx hb dX2_weigh_37 (by decide +kernel) ?_
        exact kx_iret (v := 1) hx hb hr rfl hlocks hK hP hD hS dX2_weigh_38 (⟨Or.inl ⟨i, e9, h8i, he9, e_x, e_y, hz1, hz2, rfl, atC_put hC (by rw [ew_4]; exact kx_fr_set (by omega)) ⟨f_7, f_8, f_9⟩⟩, by rw [ew_4]; exact kx_fr_set (by omega)⟩)
      · skip
        have hno : ¬ (∃ i e9, i < 8 ∧ e9 < nE i ∧ x = nI i ∧ y = nI e9 ∧ -999 ≤ z.toInt ∧ z.toInt ≤ 999) := fun ⟨_, _, _, _, _, _, _, h1⟩ => by
          rw [Int32.le_iff_toInt_le, show ((999 : Int32)).toInt = 999 by decide] at c_20
          omega
        refine lv_iconst (v := 0) hx hb dX2_weigh_23 (by decide +kernel) ?_
        exact kx_iret (v := 0) hx hb hr rfl hlocks hK hP hD hS dX2_weigh_24 (⟨Or.inr ⟨hno, rfl, rfl⟩, kx_fr_rf _ _⟩)

set_option maxHeartbeats 4000000 in
set_option maxRecDepth 100000 in
/-- rank(g, set) -/
theorem c_rank (l : Launch) (D : va_G) (k0 : Nat → ClassId) (w0 : va_W) (sz : Nat) (b : Nat) (ad nE nV : Nat → Nat) (op : Nat → Int32) (LL : Nat → Nat → Nat) (ww : Nat → Nat → Int32) (hC : atC w0 b k0 ad nE nV op LL ww) (hI : cinv nE nV LL ww) (x y : Int32) : kx_i l yX2_rank wsX2_rank ({ frames := 4, cells := 0, slots := 0, locals := 104 } : Room) D (tyL k0) w0 sz [.ref (ad 0), .int x, .int y] (fun (r : Int32) (u : va_W) => ((∃ i S, i < 8 ∧ S ≤ cf_full (nE i) ∧ x = nI i ∧ y = nI S ∧ r = nI (cf_rk (LL i) (nE i) S)) ∨ (¬ (∃ i S, i < 8 ∧ S ≤ cf_full (nE i) ∧ x = nI i ∧ y = nI S) ∧ r = -1)) ∧ atC u b k0 ad nE nV op LL ww ∧ kx_fr w0 u (fun j => b ≤ j ∧ j < b + 33)) 0 0 := by
  refine kx_of (Qf := fun A => va_Qi (fun (r : Int32) (u : va_W) => ((∃ i S, i < 8 ∧ S ≤ cf_full (nE i) ∧ x = nI i ∧ y = nI S ∧ r = nI (cf_rk (LL i) (nE i) S)) ∨ (¬ (∃ i S, i < 8 ∧ S ≤ cf_full (nE i) ∧ x = nI i ∧ y = nI S) ∧ r = -1)) ∧ atC u b k0 ad nE nV op LL ww ∧ kx_fr w0 u (fun j => b ≤ j ∧ j < b + 33)) (kx_B D (tyL k0) A) A) (cc := cX2_rank) (maxL := 3) (ret := (some .int)) (by decide +kernel) (Nat.le_of_ble_eq_true rfl) ?_
  intro p e s m below meth c A ls hx hb hml hown hts hr hlocks hnm hN hK hP hD hS hA hl
  have hown : s.vm.findClass RX2 = some m.cls := hown
  have hl : lv_has ls 3 [(0, .ref (ad 0)), (1, .int x), (2, .int y)] := hl
  skip
  obtain ⟨hO, ⟨fq, hQ, hfq⟩, ⟨r1, p1, k1, hF1, hR1, hT1⟩, ⟨r2, p2, k2, hF2, hR2, hT2⟩, ⟨dr, hd⟩, hgs⟩ := id hC
  refine lv_aload_n hx hb dX2_rank_0 rfl (lv_at hl 0 rfl) ?_
  refine lv_iload_n hx hb dX2_rank_1 rfl (lv_at hl 1 rfl) ?_
  refine lv_iload_n hx hb dX2_rank_2 rfl (lv_at hl 2 rfl) ?_
  refine kx_goi (va_runV (As := [.int x, .int y]) (rest := []) ⟨hx, hb, hml, hown, hts⟩ (c_isSet l D k0 w0 _ b ad nE nV op LL ww hC hI x y) ⟨(kg_B (k := 2) hts tw_129 tw_126 tw_19 (by decide +kernel) rfl rfl ⟨Nat.le_of_ble_eq_true rfl, Nat.le_of_ble_eq_true rfl⟩), hts _ tw_128, hts _ tw_1⟩ (kx_preV hN hK hP hD rfl hO) rfl rfl hl.1 rfl (lv_room (Nat.le_of_ble_eq_true rfl)) dX2_rank_3 ⟨Nat.le_of_ble_eq_true rfl, Nat.le_of_ble_eq_true rfl⟩) hD hS hA (fun r_2 u_3 H locs hp_1 hP hD hS => ?_)
  obtain ⟨hy_, eu⟩ := hp_1
  rw [eu] at hP hD
  refine lv_if_eq (tgt := 26) hx hb dX2_rank_6 (by decide) (fun c_6 => ?_) (fun c_6 => ?_)
  · skip
    have hno := kg_0 hy_ c_6
    refine lv_iconst (v := -1) hx hb dX2_rank_26 (by decide +kernel) ?_
    exact kx_iret (v := -1) hx hb hr rfl hlocks hK hP hD hS dX2_rank_27 (by first | exact ⟨Or.inr ⟨hno, rfl⟩, hC, kx_fr_rf _ _⟩ | exact ⟨Or.inl ⟨i, S, h8i, hSS, e_x, e_y, by rw [er, fo_fill_rk]⟩, atC_rest hC (kx_fr_mono hq (fun j h => by omega)) ⟨_, _, _, hg⟩ ⟨r2, p2, k2, atF_fr ⟨hF2, hR2, hT2⟩ hq ⟨by omega, by omega, by omega⟩⟩ ⟨dr, by rw [hq _ (by omega)]; exact hd⟩, kx_fr_mono hq (fun j h => by omega)⟩)
  · skip
    obtain ⟨i, S, h8i, hSS, e_x, e_y⟩ := kg_1 hy_ c_6
    rw [e_x, e_y] at hl
    obtain ⟨hGi, hLi, hWi⟩ := hgs i h8i
    obtain ⟨hni, hvi, hl2i, hw2i⟩ := hI i h8i
    have hfl := kb_full_lt hni
    refine lv_aload_n hx hb dX2_rank_9 rfl (lv_at hl 0 rfl) ?_
    refine va_get (D := D) (ci := 2) (v := .ref (ad 2)) (C := RX2) (T := TX2) (N := 4) hx hb hts inX2 hown hK hP b hO rfl 1 (by decide) (hts _ tw_79) (fun _ h9 => h9) rfl dX2_rank_10 ?_
    refine lv_aload_n hx hb dX2_rank_13 rfl (lv_at hl 0 rfl) ?_
    refine va_get (D := D) (ci := 2) (v := .ref (ad 1)) (C := RX2) (T := TX2) (N := 4) hx hb hts inX2 hown hK hP b hO rfl 0 (by decide) (hts _ tw_78) (fun _ h9 => h9) rfl dX2_rank_14 ?_
    refine lv_iload_n hx hb dX2_rank_17 rfl (lv_at hl 1 rfl) ?_
    refine kx_qald hx hb hK hP (b + 1) 1 hQ rfl (i := i) (r := (ad (9 + 3 * i))) (by omega) (by decide) (hfq _ (by omega)) dX2_rank_18 ?_
    refine lv_iload_n hx hb dX2_rank_19 rfl (lv_at hl 2 rfl) ?_
    refine kx_goi (va_runV (As := [.ref (ad (9 + 3 * i)), .int (nI S)]) (rest := []) ⟨hx, hb, hml, hown, hts⟩ (c_fill l D k0 w0 _ (b + 2) (ad 2) (ad 3) (ad 4) r1 p1 k1 hF1 hR1 hT1 (b + 9 + 3 * i) (ad (9 + 3 * i)) (ad (10 + 3 * i)) (ad (11 + 3 * i)) (LL i) (ww i) (nE i) (nI (nV i)) (op i) hGi hLi hWi (by omega) hni (fun j h => gl_lt (hl2i j h)) S (by omega)) ⟨(kg_B (k := 2) hts tw_136 tw_133 tw_20 (by decide +kernel) rfl rfl ⟨Nat.le_of_ble_eq_true rfl, Nat.le_of_ble_eq_true rfl⟩), hts _ tw_134, hts _ tw_135⟩ (kx_preV hN hK hP hD rfl hF1) rfl rfl hl.1 rfl (lv_room (Nat.le_of_ble_eq_true rfl)) dX2_rank_20 ⟨Nat.le_of_ble_eq_true rfl, Nat.le_of_ble_eq_true rfl⟩) hD hS hA (fun r_5 u_6 H locs hp_4 hP hD hS => ?_)
    obtain ⟨er, hg, hq⟩ := hp_4
    refine lv_goto (tgt := 27) hx hb dX2_rank_23 (by decide) ?_
    exact kx_iret (v := r_5) hx hb hr rfl hlocks hK hP hD hS dX2_rank_27 (by first | exact ⟨Or.inr ⟨hno, rfl⟩, hC, kx_fr_rf _ _⟩ | exact ⟨Or.inl ⟨i, S, h8i, hSS, e_x, e_y, by rw [er, fo_fill_rk]⟩, atC_rest hC (kx_fr_mono hq (fun j h => by omega)) ⟨_, _, _, hg⟩ ⟨r2, p2, k2, atF_fr ⟨hF2, hR2, hT2⟩ hq ⟨by omega, by omega, by omega⟩⟩ ⟨dr, by rw [hq _ (by omega)]; exact hd⟩, kx_fr_mono hq (fun j h => by omega)⟩)
end
section
/-- how many edges are left, and the lines that they get -/
def lv_c (S : Nat) : Nat → Nat
  | 0 => 0
  | e + 1 => if S.testBit e = true then lv_c S e else lv_c S e + 1
def lv_d (S : Nat) (R d : Nat → Nat) : Nat → Nat → Nat
  | 0 => d
  | e + 1 => if S.testBit e = true then lv_d S R d e else fo_up (lv_d S R d e) (lv_c S e) (R e)
theorem lv_c_in {S e : Nat} (h : S.testBit e = true) : lv_c S (e + 1) = lv_c S e := by simp only [lv_c]; rw [if_pos h]
theorem lv_c_out {S e : Nat} (h : S.testBit e = false) : lv_c S (e + 1) = lv_c S e + 1 := by simp only [lv_c]; rw [if_neg (by rw [h]; simp)]
theorem lv_d_in {S e : Nat} {R d : Nat → Nat} (h : S.testBit e = true) : lv_d S R d (e + 1) = lv_d S R d e := by simp only [lv_d]; rw [if_pos h]
theorem lv_d_out {S e : Nat} {R d : Nat → Nat} (h : S.testBit e = false) : lv_d S R d (e + 1) = fo_up (lv_d S R d e) (lv_c S e) (R e) := by simp only [lv_d]; rw [if_neg (by rw [h]; simp)]
theorem lv_c_le (S e : Nat) : lv_c S e ≤ e := by
  induction e with
  | zero => exact Nat.le_refl _
  | succ e ih => simp only [lv_c]; split <;> omega

set_option maxHeartbeats 4000000 in
set_option maxRecDepth 100000 in
/-- leave(to, g, set, joined) -/
theorem c_leave (l : Launch) (D : va_G) (k0 : Nat → ClassId) (w0 : va_W) (sz : Nat) (b : Nat) (ad nE nV : Nat → Nat) (op : Nat → Int32) (LL : Nat → Nat → Nat) (ww : Nat → Nat → Int32) (hC : atC w0 b k0 ad nE nV op LL ww) (hI : cinv nE nV LL ww) (x y z jn : Int32) : kx_i l yX2_leave wsX2_leave ({ frames := 4, cells := 0, slots := 0, locals := 104 } : Room) D (tyL k0) w0 sz [.ref (ad 0), .int x, .int y, .int z, .int jn] (fun (r : Int32) (u : va_W) => ((∃ t i S, t < 8 ∧ i < 8 ∧ S ≤ cf_full (nE i) ∧ x = nI t ∧ y = nI i ∧ z = nI S ∧ r = nI (lv_c S (nE i)) ∧ ∃ (L9 : Nat → Nat) (f9 : Nat → Int32) (r1 p1 dr : Nat → Nat), atC u b k0 ad (va_up nE t (lv_c S (nE i))) (va_up nV t (nV t)) (va_up op t 0) (va_up LL t L9) (va_up ww t f9) ∧ (∀ j, j < lv_c S (nE i) → L9 j = lv_d S (fun e => fo_rest (fo_fill (LL i) (if jn = 0 then 0 else S) r1 p1 (nE i)).1 (LL i e) (fo_fill (LL i) (if jn = 0 then 0 else S) r1 p1 (nE i)).2.2) dr (nE i) j) ∧ ∀ j, j < lv_c S (nE i) → f9 j = 0) ∨ (¬ (∃ t i S, t < 8 ∧ i < 8 ∧ S ≤ cf_full (nE i) ∧ x = nI t ∧ y = nI i ∧ z = nI S) ∧ r = -1 ∧ u = w0)) ∧ kx_fr w0 u (fun j => b ≤ j ∧ j < b + 33)) 0 0 := by
  refine kx_of (Qf := fun A => va_Qi (fun (r : Int32) (u : va_W) => ((∃ t i S, t < 8 ∧ i < 8 ∧ S ≤ cf_full (nE i) ∧ x = nI t ∧ y = nI i ∧ z = nI S ∧ r = nI (lv_c S (nE i)) ∧ ∃ (L9 : Nat → Nat) (f9 : Nat → Int32) (r1 p1 dr : Nat → Nat), atC u b k0 ad (va_up nE t (lv_c S (nE i))) (va_up nV t (nV t)) (va_up op t 0) (va_up LL t L9) (va_up ww t f9) ∧ (∀ j, j < lv_c S (nE i) → L9 j = lv_d S (fun e => fo_rest (fo_fill (LL i) (if jn = 0 then 0 else S) r1 p1 (nE i)).1 (LL i e) (fo_fill (LL i) (if jn = 0 then 0 else S) r1 p1 (nE i)).2.2) dr (nE i) j) ∧ ∀ j, j < lv_c S (nE i) → f9 j = 0) ∨ (¬ (∃ t i S, t < 8 ∧ i < 8 ∧ S ≤ cf_full (nE i) ∧ x = nI t ∧ y = nI i ∧ z = nI S) ∧ r = -1 ∧ u = w0)) ∧ kx_fr w0 u (fun j => b ≤ j ∧ j < b + 33)) (kx_B D (tyL k0) A) A) (cc := cX2_leave) (maxL := 8) (ret := (some .int)) (by decide +kernel) (Nat.le_of_ble_eq_true rfl) ?_
  intro p e s m below meth c A ls hx hb hml hown hts hr hlocks hnm hN hK hP hD hS hA hl
  have hown : s.vm.findClass RX2 = some m.cls := hown
  have hl : lv_has ls 8 [(0, .ref (ad 0)), (1, .int x), (2, .int y), (3, .int z), (4, .int jn)] := hl
  have hfr : kx_fr w0 w0 (fun j => j = b + 2 ∨ j = b + 3 ∨ j = b + 4 ∨ j = b + 8) := kx_fr_rf _ _
  obtain ⟨hO, ⟨fq, hQ, hfq⟩, ⟨r1, p1, k1, hF1, hR1, hT1⟩, ⟨r2, p2, k2, hF2, hR2, hT2⟩, ⟨dr, hd⟩, hgs⟩ := id hC
  refine lv_iload_n hx hb dX2_leave_0 rfl (lv_at hl 1 rfl) ?_
  refine kx_goi (va_runS (As := [.int x]) (rest := []) ⟨hx, hb, hml, hown, hts⟩ (c_isGraph l D k0 w0 _ x) ⟨(kg_B (k := 1) hts tw_97 tw_95 tw_19 (by decide +kernel) rfl rfl ⟨Nat.le_of_ble_eq_true rfl, Nat.le_of_ble_eq_true rfl⟩), hts _ tw_96⟩ (kx_preS hN hK hP hD) rfl rfl hl.1 rfl (lv_room (Nat.le_of_ble_eq_true rfl)) dX2_leave_1 ⟨Nat.le_of_ble_eq_true rfl, Nat.le_of_ble_eq_true rfl⟩) hD hS hA (fun r_2 u_3 H locs hp_1 hP hD hS => ?_)
  obtain ⟨hy_x, eu⟩ := hp_1
  rw [eu] at hP hD
  refine lv_if_eq (tgt := 16) hx hb dX2_leave_4 (by decide) (fun c_4 => ?_) (fun c_4 => ?_)
  · skip
    have hno0 := kg_0 hy_x c_4
    have hno : ¬ (∃ t i S, t < 8 ∧ i < 8 ∧ S ≤ cf_full (nE i) ∧ x = nI t ∧ y = nI i ∧ z = nI S) := fun ⟨t, _, _, h1, _, _, h2, _⟩ => hno0 ⟨t, h1, h2⟩
    refine lv_iconst (v := -1) hx hb dX2_leave_16 (by decide +kernel) ?_
    exact kx_iret (v := -1) hx hb hr rfl hlocks hK hP hD hS dX2_leave_17 (⟨Or.inr ⟨hno, rfl, rfl⟩, kx_fr_rf _ _⟩)
  · skip
    obtain ⟨t, h8t, e_x⟩ := kg_1 hy_x c_4
    rw [e_x] at hl
    obtain ⟨hGt, hLt, hWt⟩ := hgs t h8t
    obtain ⟨hnt, hvt, hl2t, hw2t⟩ := hI t h8t
    refine lv_aload_n hx hb dX2_leave_7 rfl (lv_at hl 0 rfl) ?_
    refine lv_iload_n hx hb dX2_leave_8 rfl (lv_at hl 2 rfl) ?_
    refine lv_iload_n hx hb dX2_leave_9 rfl (lv_at hl 3 rfl) ?_
    refine kx_goi (va_runV (As := [.int y, .int z]) (rest := []) ⟨hx, hb, hml, hown, hts⟩ (c_isSet l D k0 w0 _ b ad nE nV op LL ww hC hI y z) ⟨(kg_B (k := 2) hts tw_129 tw_126 tw_19 (by decide +kernel) rfl rfl ⟨Nat.le_of_ble_eq_true rfl, Nat.le_of_ble_eq_true rfl⟩), hts _ tw_128, hts _ tw_1⟩ (kx_preV hN hK hP hD rfl hO) rfl rfl hl.1 rfl (lv_room (Nat.le_of_ble_eq_true rfl)) dX2_leave_10 ⟨Nat.le_of_ble_eq_true rfl, Nat.le_of_ble_eq_true rfl⟩) hD hS hA (fun r_5 u_6 H locs hp_4 hP hD hS => ?_)
    obtain ⟨hy_, eu⟩ := hp_4
    rw [eu] at hP hD
    refine lv_if_ne (tgt := 18) hx hb dX2_leave_13 (by decide) (fun c_13 => ?_) (fun c_13 => ?_)
    · skip
      obtain ⟨i, S, h8i, hSS, e_y, e_z⟩ := kg_1 hy_ c_13
      rw [e_y, e_z] at hl
      obtain ⟨hGi, hLi, hWi⟩ := hgs i h8i
      obtain ⟨hni, hvi, hl2i, hw2i⟩ := hI i h8i
      have hfl := kb_full_lt hni
      obtain ⟨SJ, eSJ⟩ : ∃ SJ : Nat, SJ = if jn = 0 then 0 else S := ⟨_, rfl⟩
      have hSJb : SJ < 2 ^ 31 := by rw [eSJ]; split <;> omega
      refine lv_aload_n hx hb dX2_leave_18 rfl (lv_at hl 0 rfl) ?_
      refine va_get (D := D) (ci := 2) (v := .ref (ad 1)) (C := RX2) (T := TX2) (N := 4) hx hb hts inX2 hown hK hP b hO rfl 0 (by decide) (hts _ tw_78) (fun _ h9 => h9) rfl dX2_leave_19 ?_
      refine lv_iload_n hx hb dX2_leave_22 rfl (lv_at hl 2 rfl) ?_
      refine kx_qald hx hb hK hP (b + 1) 1 hQ rfl (i := i) (r := (ad (9 + 3 * i))) (by omega) (by decide) (hfq _ (by omega)) dX2_leave_23 ?_
      refine lv_astore (lv' := [(5, .ref (ad (9 + 3 * i))), (0, .ref (ad 0)), (1, .int (nI t)), (2, .int (nI i)), (3, .int (nI S)), (4, .int jn)]) hx hb dX2_leave_24 hl (by decide) rfl (fun ls hl => ?_)
      refine lv_aload_n hx hb dX2_leave_26 rfl (lv_at hl 1 rfl) ?_
      refine va_get (D := D) (ci := 2) (v := .ref (ad 2)) (C := RX2) (T := TX2) (N := 4) hx hb hts inX2 hown hK hP b hO rfl 1 (by decide) (hts _ tw_79) (fun _ h9 => h9) rfl dX2_leave_27 ?_
      refine lv_aload hx hb dX2_leave_30 (lv_at hl 0 rfl) ?_
      refine lv_iload hx hb dX2_leave_32 (lv_at hl 5 rfl) ?_
      refine lv_if_eq (tgt := 41) hx hb dX2_leave_34 (by decide) (fun c_34 => ?_) (fun c_34 => ?_)
      · skip
        refine lv_iconst (v := nI 0) hx hb dX2_leave_41 (by decide +kernel) ?_
        refine lv_topi (fun z_7 ez_7 => ?_)
        have ez_7 : z_7 = nI SJ := by rw [ez_7]; rw [eSJ, if_pos c_34]
        subst ez_7
        refine kx_goi (va_runV (As := [.ref (ad (9 + 3 * i)), .int (nI SJ)]) (rest := []) ⟨hx, hb, hml, hown, hts⟩ (c_fill l D k0 w0 _ (b + 2) (ad 2) (ad 3) (ad 4) r1 p1 k1 hF1 hR1 hT1 (b + 9 + 3 * i) (ad (9 + 3 * i)) (ad (10 + 3 * i)) (ad (11 + 3 * i)) (LL i) (ww i) (nE i) (nI (nV i)) (op i) hGi hLi hWi (by omega) hni (fun j h => gl_lt (hl2i j h)) SJ hSJb) ⟨(kg_B (k := 2) hts tw_136 tw_133 tw_20 (by decide +kernel) rfl rfl ⟨Nat.le_of_ble_eq_true rfl, Nat.le_of_ble_eq_true rfl⟩), hts _ tw_134, hts _ tw_135⟩ (kx_preV hN hK hP hD rfl hF1) rfl rfl hl.1 rfl (lv_room (Nat.le_of_ble_eq_true rfl)) dX2_leave_42 ⟨Nat.le_of_ble_eq_true rfl, Nat.le_of_ble_eq_true rfl⟩) hD hS hA (fun r_9 u_10 H locs hp_8 hP hD hS => ?_)
        obtain ⟨FF, eFF⟩ : ∃ F : fo_St, F = fo_fill (LL i) SJ r1 p1 (nE i) := ⟨_, rfl⟩
        obtain ⟨hk1, hk2, _⟩ := fo_fill_bd (S := SJ) (rows := r1) (parts := p1) hni (fun j h => gl_lt (hl2i j h)) (nE i) (Nat.le_refl _)
        rw [← eFF] at hp_8 hk1 hk2
        obtain ⟨_, ⟨hF9, hR9, hT9⟩, hq⟩ := hp_8
        have f_11 : u_10[b]? = some (ad 0, .inr (2, [.ref (ad 1), .ref (ad 2), .ref (ad 5), .ref (ad 8)])) := by rw [hq _ (by omega)]; exact hO
        have f_12 : u_10[b + 1]? = some (ad 1, .inl (k0 1, 8, .inr (.inr (.inr (.inr fq))))) := by rw [hq _ (by omega)]; exact hQ
        have f_13 : u_10[b + 2]? = some (ad 2, .inr (0, [.ref (ad 3), .ref (ad 4), .int (nI FF.2.2)])) := hF9
        have f_14 : u_10[b + 2 + 1]? = some (ad 3, .inl (k0 0, 12, .inl (fun j => nI (FF.1 j)))) := hR9
        have f_15 : u_10[b + 2 + 2]? = some (ad 4, .inl (k0 0, 12, .inl (fun j => nI (FF.2.1 j)))) := hT9
        have f_16 : u_10[b + 8]? = some (ad 8, .inl (k0 0, 12, .inl (fun j => nI (dr j)))) := by rw [hq _ (by omega)]; exact hd
        have f_17 : u_10[b + 9 + 3 * t]? = some (ad (9 + 3 * t), .inr (1, [.ref (ad (10 + 3 * t)), .ref (ad (11 + 3 * t)), .int (nI (nE t)), .int (nI (nV t)), .int (op t)])) := by rw [hq _ (by omega)]; exact hGt
        have f_18 : u_10[b + 9 + 3 * t + 1]? = some (ad (10 + 3 * t), .inl (k0 0, 12, .inl (fun j => nI ((LL t) j)))) := by rw [hq _ (by omega)]; exact hLt
        have f_19 : u_10[b + 9 + 3 * t + 2]? = some (ad (11 + 3 * t), .inl (k0 0, 12, .inl (ww t))) := by rw [hq _ (by omega)]; exact hWt
        have f_20 : u_10[b + 9 + 3 * i]? = some (ad (9 + 3 * i), .inr (1, [.ref (ad (10 + 3 * i)), .ref (ad (11 + 3 * i)), .int (nI (nE i)), .int (nI (nV i)), .int (op i)])) := by rw [hq _ (by omega)]; exact hGi
        have f_21 : u_10[b + 9 + 3 * i + 1]? = some (ad (10 + 3 * i), .inl (k0 0, 12, .inl (fun j => nI ((LL i) j)))) := by rw [hq _ (by omega)]; exact hLi
        have f_22 : u_10[b + 9 + 3 * i + 2]? = some (ad (11 + 3 * i), .inl (k0 0, 12, .inl (ww i))) := by rw [hq _ (by omega)]; exact hWi
        have hfr : kx_fr w0 u_10 (fun j => j = b + 2 ∨ j = b + 3 ∨ j = b + 4 ∨ j = b + 8) := kx_fr_tr hfr (kx_fr_mono hq (fun j h => by omega))
        refine lv_pop hx hb dX2_leave_45 rfl ?_
        refine lv_iconst (v := nI 0) hx hb dX2_leave_46 (by decide +kernel) ?_
        refine lv_istore (lv' := [(6, .int (nI 0)), (5, .ref (ad (9 + 3 * i))), (0, .ref (ad 0)), (1, .int (nI t)), (2, .int (nI i)), (3, .int (nI S)), (4, .int jn)]) hx hb dX2_leave_47 hl (by decide) rfl (fun ls hl => ?_)
        refine lv_iconst (v := nI 0) hx hb dX2_leave_49 (by decide +kernel) ?_
        refine lv_istore (lv' := [(7, .int (nI 0)), (6, .int (nI 0)), (5, .ref (ad (9 + 3 * i))), (0, .ref (ad 0)), (1, .int (nI t)), (2, .int (nI i)), (3, .int (nI S)), (4, .int jn)]) hx hb dX2_leave_50 hl (by decide) rfl (fun ls hl => ?_)
        have loop_52 : ∀ (n52 : Nat) (e9 : Nat), (e9 ≤ nE i) → (nE i + 1 ≤ e9 + n52) → ∀ (w1 : va_W), w1[b]? = some (ad 0, .inr (2, [.ref (ad 1), .ref (ad 2), .ref (ad 5), .ref (ad 8)])) → w1[b + 1]? = some (ad 1, .inl (k0 1, 8, .inr (.inr (.inr (.inr fq))))) → w1[b + 2]? = some (ad 2, .inr (0, [.ref (ad 3), .ref (ad 4), .int (nI FF.2.2)])) → w1[b + 2 + 1]? = some (ad 3, .inl (k0 0, 12, .inl (fun j => nI (FF.1 j)))) → w1[b + 2 + 2]? = some (ad 4, .inl (k0 0, 12, .inl (fun j => nI (FF.2.1 j)))) → w1[b + 8]? = some (ad 8, .inl (k0 0, 12, .inl (fun j => nI ((lv_d S (fun e => fo_rest FF.1 (LL i e) FF.2.2) dr e9) j)))) → w1[b + 9 + 3 * t]? = some (ad (9 + 3 * t), .inr (1, [.ref (ad (10 + 3 * t)), .ref (ad (11 + 3 * t)), .int (nI (nE t)), .int (nI (nV t)), .int (op t)])) → w1[b + 9 + 3 * t + 1]? = some (ad (10 + 3 * t), .inl (k0 0, 12, .inl (fun j => nI ((LL t) j)))) → w1[b + 9 + 3 * t + 2]? = some (ad (11 + 3 * t), .inl (k0 0, 12, .inl (ww t))) → w1[b + 9 + 3 * i]? = some (ad (9 + 3 * i), .inr (1, [.ref (ad (10 + 3 * i)), .ref (ad (11 + 3 * i)), .int (nI (nE i)), .int (nI (nV i)), .int (op i)])) → w1[b + 9 + 3 * i + 1]? = some (ad (10 + 3 * i), .inl (k0 0, 12, .inl (fun j => nI ((LL i) j)))) → w1[b + 9 + 3 * i + 2]? = some (ad (11 + 3 * i), .inl (k0 0, 12, .inl (ww i))) → kx_fr w0 w1 (fun j => j = b + 2 ∨ j = b + 3 ∨ j = b + 4 ∨ j = b + 8) → ∀ (H : Heap) (locs : List Loc), va_P D vwCl w1 H → va_D A w1 → va_S A s.heap H locs → ∀ (ls : Array Slot), lv_has ls 8 [(7, .int (nI e9)), (6, .int (nI (lv_c S e9))), (5, .ref (ad (9 + 3 * i))), (0, .ref (ad 0)), (1, .int (nI t)), (2, .int (nI i)), (3, .int (nI S)), (4, .int jn)] → W p l e ({ frames := 4, cells := 0, slots := 0, locals := 104 } : Room) s m ([.ref (ad 0), .int x, .int y, .int z, .int jn] : List Value).toArray below meth c H locs 0 0 (MQ below (va_Qi (fun (r : Int32) (u : va_W) => ((∃ t i S, t < 8 ∧ i < 8 ∧ S ≤ cf_full (nE i) ∧ x = nI t ∧ y = nI i ∧ z = nI S ∧ r = nI (lv_c S (nE i)) ∧ ∃ (L9 : Nat → Nat) (f9 : Nat → Int32) (r1 p1 dr : Nat → Nat), atC u b k0 ad (va_up nE t (lv_c S (nE i))) (va_up nV t (nV t)) (va_up op t 0) (va_up LL t L9) (va_up ww t f9) ∧ (∀ j, j < lv_c S (nE i) → L9 j = lv_d S (fun e => fo_rest (fo_fill (LL i) (if jn = 0 then 0 else S) r1 p1 (nE i)).1 (LL i e) (fo_fill (LL i) (if jn = 0 then 0 else S) r1 p1 (nE i)).2.2) dr (nE i) j) ∧ ∀ j, j < lv_c S (nE i) → f9 j = 0) ∨ (¬ (∃ t i S, t < 8 ∧ i < 8 ∧ S ≤ cf_full (nE i) ∧ x = nI t ∧ y = nI i ∧ z = nI S) ∧ r = -1 ∧ u = w0)) ∧ kx_fr w0 u (fun j => b ≤ j ∧ j < b + 33)) (kx_B D (tyL k0) A) A) ([.ref (ad 0), .int x, .int y, .int z, .int jn] : List Value).toArray s 0 0 A) (F0 m 52 ls []) := by
          intro n52
          induction n52 with
          | zero =>
            intro e9 he hme
            exact absurd hme (by omega)
          | succ n52 ih52 =>
            intro e9 he hme w1 F52_0 F52_1 F52_2 F52_3 F52_4 F52_5 F52_6 F52_7 F52_8 F52_9 F52_10 F52_11 hfr H locs hP hD hS ls hl
            refine lv_iload hx hb dX2_leave_52 (lv_at hl 0 rfl) ?_
            refine lv_aload hx hb dX2_leave_54 (lv_at hl 2 rfl) ?_
            refine va_get (D := D) (ci := 1) (v := .int (nI (nE i))) (C := RX1) (T := TX1) (N := 5) hx hb hts inX1 hown hK hP (b + 9 + 3 * i) F52_9 rfl 2 (by decide) (hts _ tw_64) (fun _ h9 => h9) rfl dX2_leave_56 ?_
            refine lv_icmp_ge (tgt := 102) hx hb dX2_leave_59 (by decide) (fun c_59 => ?_) (fun c_59 => ?_)
            · skip
              have hik : e9 = nE i := by
                have := (nI_leI (by omega) (by omega)).mp c_59
                omega
              rw [hik] at hl
              have f_23 : w1[b + 8]? = some (ad 8, .inl (k0 0, 12, .inl (fun j => nI ((lv_d S (fun e => fo_rest FF.1 (LL i e) FF.2.2) dr (nE i)) j)))) := by rw [← hik]; exact F52_5
              have hC2 : atC w1 b k0 ad nE nV op LL ww := atC_rest hC (kx_fr_mono hfr (fun j h => by omega)) ⟨_, _, _, F52_2, F52_3, F52_4⟩ ⟨r2, p2, k2, atF_fr ⟨hF2, hR2, hT2⟩ hfr ⟨by omega, by omega, by omega⟩⟩ ⟨_, f_23⟩
              refine lv_aload_n hx hb dX2_leave_102 rfl (lv_at hl 3 rfl) ?_
              refine va_get (D := D) (ci := 2) (v := .ref (ad 1)) (C := RX2) (T := TX2) (N := 4) hx hb hts inX2 hown hK hP b F52_0 rfl 0 (by decide) (hts _ tw_78) (fun _ h9 => h9) rfl dX2_leave_103 ?_
              refine lv_iload_n hx hb dX2_leave_106 rfl (lv_at hl 4 rfl) ?_
              refine kx_qald hx hb hK hP (b + 1) 1 F52_1 rfl (i := t) (r := (ad (9 + 3 * t))) (by omega) (by decide) (hfq _ (by omega)) dX2_leave_107 ?_
              refine lv_aload_n hx hb dX2_leave_108 rfl (lv_at hl 3 rfl) ?_
              refine va_get (D := D) (ci := 2) (v := .ref (ad 8)) (C := RX2) (T := TX2) (N := 4) hx hb hts inX2 hown hK hP b F52_0 rfl 3 (by decide) (hts _ tw_81) (fun _ h9 => h9) rfl dX2_leave_109 ?_
              refine lv_iload hx hb dX2_leave_112 (lv_at hl 1 rfl) ?_
              refine kx_gov (va_runV (As := [.ref (ad 8), .int (nI (lv_c S (nE i)))]) (rest := []) ⟨hx, hb, hml, hown, hts⟩ (c_become l D k0 w1 _ (b + 9 + 3 * t) (ad (9 + 3 * t)) (ad (10 + 3 * t)) (ad (11 + 3 * t)) (LL t) (ww t) (nE t) (nI (nV t)) (op t) F52_6 F52_7 F52_8 (b + 8) (ad 8) (lv_d S (fun e => fo_rest FF.1 (LL i e) FF.2.2) dr (nE i)) f_23 (by omega) (lv_c S (nE i)) (by have := lv_c_le S (nE i); omega)) ⟨(kg_B (k := 2) hts tw_164 tw_161 tw_21 (by decide +kernel) rfl rfl ⟨Nat.le_of_ble_eq_true rfl, Nat.le_of_ble_eq_true rfl⟩), hts _ tw_162, hts _ tw_163⟩ (kx_preV hN hK hP hD rfl F52_6) rfl rfl hl.1 rfl (lv_room (Nat.le_of_ble_eq_true rfl)) dX2_leave_114 ⟨Nat.le_of_ble_eq_true rfl, Nat.le_of_ble_eq_true rfl⟩) hD hS hA (fun u_26 H locs hp_24 hP hD hS => ?_)
              obtain ⟨L9, f9, hg, hl9, hf9, hq9⟩ := hp_24
              refine lv_iload hx hb dX2_leave_117 (lv_at hl 1 rfl) ?_
              exact kx_iret (v := nI (lv_c S (nE i))) hx hb hr rfl hlocks hK hP hD hS dX2_leave_119 (⟨Or.inl ⟨t, i, S, h8t, h8i, hSS, e_x, e_y, e_z, rfl, L9, f9, r1, p1, dr, atC_put hC2 hq9 hg, by rw [← eSJ, ← eFF]; exact hl9, hf9⟩, kx_fr_tr (kx_fr_mono hfr (fun j h => by omega)) (kx_fr_mono hq9 (fun j h => by omega))⟩)
            · skip
              have hik : e9 < nE i := by
                rcases Nat.lt_or_ge (e9) (nE i) with h | h
                · exact h
                · exact absurd ((nI_leI (by omega) (by omega)).mpr h) c_59
              refine lv_iload_n hx hb dX2_leave_62 rfl (lv_at hl 6 rfl) ?_
              refine lv_iload hx hb dX2_leave_63 (lv_at hl 0 rfl) ?_
              refine kx_goi (va_runS (As := [.int (nI S), .int (nI e9)]) (rest := []) ⟨hx, hb, hml, hown, hts⟩ (c_has l D k0 w1 _ S e9 (by omega) (by omega)) ⟨(kg_B (k := 2) hts tw_143 tw_159 tw_19 (by decide +kernel) rfl rfl ⟨Nat.le_of_ble_eq_true rfl, Nat.le_of_ble_eq_true rfl⟩), hts _ tw_142⟩ (kx_preS hN hK hP hD) rfl rfl hl.1 rfl (lv_room (Nat.le_of_ble_eq_true rfl)) dX2_leave_65 ⟨Nat.le_of_ble_eq_true rfl, Nat.le_of_ble_eq_true rfl⟩) hD hS hA (fun r_28 u_29 H locs hp_27 hP hD hS => ?_)
              obtain ⟨er_28, eu_29⟩ := hp_27
              rw [eu_29] at hP hD; subst er_28
              refine lv_if_ne (tgt := 96) hx hb dX2_leave_68 (by decide) (fun c_68 => ?_) (fun c_68 => ?_)
              · skip
                have hS1 : S.testBit e9 = true := by
                  cases hq9 : S.testBit e9 with
                  | true => rfl
                  | false => exact absurd ((kb_bool _).mpr hq9) c_68
                rw [← lv_c_in hS1] at hl
                have f_30 : w1[b + 8]? = some (ad 8, .inl (k0 0, 12, .inl (fun j => nI ((lv_d S (fun e => fo_rest FF.1 (LL i e) FF.2.2) dr (e9 + 1)) j)))) := by rw [lv_d_in hS1]; exact F52_5
                refine lv_iinc (v := nI (e9 + 1)) (lv' := [(7, .int (nI (e9 + 1))), (6, .int (nI (lv_c S (e9 + 1)))), (5, .ref (ad (9 + 3 * i))), (0, .ref (ad 0)), (1, .int (nI t)), (2, .int (nI i)), (3, .int (nI S)), (4, .int jn)]) hx hb dX2_leave_96 hl (k := 0) rfl (nI_1 _) (by decide) rfl (fun ls hl => ?_)
                refine lv_goto (tgt := 52) hx hb dX2_leave_99 (by decide) ?_
                exact ih52 (e9 + 1) (by omega) (by omega) w1 F52_0 F52_1 F52_2 F52_3 F52_4 f_30 F52_6 F52_7 F52_8 F52_9 F52_10 F52_11 hfr _ _ hP hD hS _ (lv_sub hl [0, 1, 2, 3, 4, 5, 6, 7] rfl)
              · skip
                have hS1 : S.testBit e9 = false := (kb_bool _).mp c_68
                refine lv_aload_n hx hb dX2_leave_71 rfl (lv_at hl 3 rfl) ?_
                refine va_get (D := D) (ci := 2) (v := .ref (ad 8)) (C := RX2) (T := TX2) (N := 4) hx hb hts inX2 hown hK hP b F52_0 rfl 3 (by decide) (hts _ tw_81) (fun _ h9 => h9) rfl dX2_leave_72 ?_
                refine lv_iload hx hb dX2_leave_75 (lv_at hl 1 rfl) ?_
                refine lv_aload_n hx hb dX2_leave_77 rfl (lv_at hl 3 rfl) ?_
                refine va_get (D := D) (ci := 2) (v := .ref (ad 2)) (C := RX2) (T := TX2) (N := 4) hx hb hts inX2 hown hK hP b F52_0 rfl 1 (by decide) (hts _ tw_79) (fun _ h9 => h9) rfl dX2_leave_78 ?_
                refine lv_aload hx hb dX2_leave_81 (lv_at hl 2 rfl) ?_
                refine va_get (D := D) (ci := 1) (v := .ref (ad (10 + 3 * i))) (C := RX1) (T := TX1) (N := 5) hx hb hts inX1 hown hK hP (b + 9 + 3 * i) F52_9 rfl 0 (by decide) (hts _ tw_59) (fun _ h9 => h9) rfl dX2_leave_83 ?_
                refine lv_iload hx hb dX2_leave_86 (lv_at hl 0 rfl) ?_
                refine kx_nald hx hb hK hP (b + 9 + 3 * i + 1) F52_10 rfl (i := e9) (by omega) (by decide) dX2_leave_88 ?_
                refine kx_goi (va_runV (As := [.int (nI ((LL i) e9))]) (rest := [.int (nI (lv_c S e9)), .ref (ad 8)]) ⟨hx, hb, hml, hown, hts⟩ (c_rest l D k0 w1 _ (b + 2) (ad 2) (ad 3) (ad 4) FF.1 FF.2.1 FF.2.2 F52_2 F52_3 F52_4 hk1 hk2 (LL i e9) (gl_lt (hl2i e9 hik))) ⟨(kg_B (k := 1) hts tw_151 tw_160 tw_20 (by decide +kernel) rfl rfl ⟨Nat.le_of_ble_eq_true rfl, Nat.le_of_ble_eq_true rfl⟩), hts _ tw_149, hts _ tw_150⟩ (kx_preV hN hK hP hD rfl F52_2) rfl rfl hl.1 rfl (lv_room (Nat.le_of_ble_eq_true rfl)) dX2_leave_89 ⟨Nat.le_of_ble_eq_true rfl, Nat.le_of_ble_eq_true rfl⟩) hD hS hA (fun r_32 u_33 H locs hp_31 hP hD hS => ?_)
                obtain ⟨er_32, eu_33⟩ := hp_31
                rw [eu_33] at hP hD; subst er_32
                refine kx_nast hx hb hK hP hD hS (b + 8) F52_5 rfl (i := (lv_c S e9)) (x := (fo_rest FF.1 (LL i e9) FF.2.2)) (by have := lv_c_le S e9; omega) (by decide) dX2_leave_92 (fun H locs hP hD hS => ?_)
                obtain ⟨w_34, ew_34⟩ : ∃ w, w = w1.set (b + 8) (ad 8, .inl (k0 0, 12, .inl (fun j => nI ((fo_up (lv_d S (fun e => fo_rest FF.1 (LL i e) FF.2.2) dr e9) (lv_c S e9) (fo_rest FF.1 (LL i e9) FF.2.2)) j)))) := ⟨_, rfl⟩
                have hP : va_P D vwCl w_34 H := by rw [ew_34]; exact hP
                have hD : va_D A w_34 := by rw [ew_34]; exact hD
                have f_35 : w_34[b]? = some (ad 0, .inr (2, [.ref (ad 1), .ref (ad 2), .ref (ad 5), .ref (ad 8)])) := by rw [ew_34]; exact kx_set_ne F52_0 (by omega)
                have f_36 : w_34[b + 1]? = some (ad 1, .inl (k0 1, 8, .inr (.inr (.inr (.inr fq))))) := by rw [ew_34]; exact kx_set_ne F52_1 (by omega)
                have f_37 : w_34[b + 2]? = some (ad 2, .inr (0, [.ref (ad 3), .ref (ad 4), .int (nI FF.2.2)])) := by rw [ew_34]; exact kx_set_ne F52_2 (by omega)
                have f_38 : w_34[b + 2 + 1]? = some (ad 3, .inl (k0 0, 12, .inl (fun j => nI (FF.1 j)))) := by rw [ew_34]; exact kx_set_ne F52_3 (by omega)
                have f_39 : w_34[b + 2 + 2]? = some (ad 4, .inl (k0 0, 12, .inl (fun j => nI (FF.2.1 j)))) := by rw [ew_34]; exact kx_set_ne F52_4 (by omega)
                have f_40 : w_34[b + 8]? = some (ad 8, .inl (k0 0, 12, .inl (fun j => nI ((fo_up (lv_d S (fun e => fo_rest FF.1 (LL i e) FF.2.2) dr e9) (lv_c S e9) (fo_rest FF.1 (LL i e9) FF.2.2)) j)))) := by rw [ew_34]; exact kx_set_self F52_5
                have f_41 : w_34[b + 9 + 3 * t]? = some (ad (9 + 3 * t), .inr (1, [.ref (ad (10 + 3 * t)), .ref (ad (11 + 3 * t)), .int (nI (nE t)), .int (nI (nV t)), .int (op t)])) := by rw [ew_34]; exact kx_set_ne F52_6 (by omega)
                have f_42 : w_34[b + 9 + 3 * t + 1]? = some (ad (10 + 3 * t), .inl (k0 0, 12, .inl (fun j => nI ((LL t) j)))) := by rw [ew_34]; exact kx_set_ne F52_7 (by omega)
                have f_43 : w_34[b + 9 + 3 * t + 2]? = some (ad (11 + 3 * t), .inl (k0 0, 12, .inl (ww t))) := by rw [ew_34]; exact kx_set_ne F52_8 (by omega)
                have f_44 : w_34[b + 9 + 3 * i]? = some (ad (9 + 3 * i), .inr (1, [.ref (ad (10 + 3 * i)), .ref (ad (11 + 3 * i)), .int (nI (nE i)), .int (nI (nV i)), .int (op i)])) := by rw [ew_34]; exact kx_set_ne F52_9 (by omega)
                have f_45 : w_34[b + 9 + 3 * i + 1]? = some (ad (10 + 3 * i), .inl (k0 0, 12, .inl (fun j => nI ((LL i) j)))) := by rw [ew_34]; exact kx_set_ne F52_10 (by omega)
                have f_46 : w_34[b + 9 + 3 * i + 2]? = some (ad (11 + 3 * i), .inl (k0 0, 12, .inl (ww i))) := by rw [ew_34]; exact kx_set_ne F52_11 (by omega)
                have hfr : kx_fr w0 w_34 (fun j => j = b + 2 ∨ j = b + 3 ∨ j = b + 4 ∨ j = b + 8) := kx_fr_tr hfr (by rw [ew_34]; exact kx_fr_set (by omega))
                have f_47 : w_34[b + 8]? = some (ad 8, .inl (k0 0, 12, .inl (fun j => nI ((lv_d S (fun e => fo_rest FF.1 (LL i e) FF.2.2) dr (e9 + 1)) j)))) := by rw [lv_d_out hS1]; exact f_40
                refine lv_iinc (v := nI (lv_c S (e9 + 1))) (lv' := [(6, .int (nI (lv_c S (e9 + 1)))), (7, .int (nI e9)), (5, .ref (ad (9 + 3 * i))), (0, .ref (ad 0)), (1, .int (nI t)), (2, .int (nI i)), (3, .int (nI S)), (4, .int jn)]) hx hb dX2_leave_93 hl (k := 1) rfl (by rw [lv_c_out hS1]; exact nI_1 _) (by decide) rfl (fun ls hl => ?_)
                refine lv_iinc (v := nI (e9 + 1)) (lv' := [(7, .int (nI (e9 + 1))), (6, .int (nI (lv_c S (e9 + 1)))), (5, .ref (ad (9 + 3 * i))), (0, .ref (ad 0)), (1, .int (nI t)), (2, .int (nI i)), (3, .int (nI S)), (4, .int jn)]) hx hb dX2_leave_96 hl (k := 1) rfl (nI_1 _) (by decide) rfl (fun ls hl => ?_)
                refine lv_goto (tgt := 52) hx hb dX2_leave_99 (by decide) ?_
                exact ih52 (e9 + 1) (by omega) (by omega) w_34 f_35 f_36 f_37 f_38 f_39 f_47 f_41 f_42 f_43 f_44 f_45 f_46 hfr _ _ hP hD hS _ (lv_sub hl [0, 1, 2, 3, 4, 5, 6, 7] rfl)
        exact loop_52 (nE i + 1) 0 (Nat.zero_le _) (by omega) u_10 f_11 f_12 f_13 f_14 f_15 f_16 f_17 f_18 f_19 f_20 f_21 f_22 hfr _ _ hP hD hS _ (lv_sub hl [0, 1, 2, 3, 4, 5, 6, 7] rfl)
      · skip
        refine lv_iload_n hx hb dX2_leave_37 rfl (lv_at hl 4 rfl) ?_
        refine lv_topi (fun z_48 ez_48 => ?_)
        have ez_48 : z_48 = nI SJ := by rw [ez_48]; rw [eSJ, if_neg c_34]
        subst ez_48
        refine lv_goto (tgt := 42) hx hb dX2_leave_38 (by decide) ?_
        refine kx_goi (va_runV (As := [.ref (ad (9 + 3 * i)), .int (nI SJ)]) (rest := []) ⟨hx, hb, hml, hown, hts⟩ (c_fill l D k0 w0 _ (b + 2) (ad 2) (ad 3) (ad 4) r1 p1 k1 hF1 hR1 hT1 (b + 9 + 3 * i) (ad (9 + 3 * i)) (ad (10 + 3 * i)) (ad (11 + 3 * i)) (LL i) (ww i) (nE i) (nI (nV i)) (op i) hGi hLi hWi (by omega) hni (fun j h => gl_lt (hl2i j h)) SJ hSJb) ⟨(kg_B (k := 2) hts tw_136 tw_133 tw_20 (by decide +kernel) rfl rfl ⟨Nat.le_of_ble_eq_true rfl, Nat.le_of_ble_eq_true rfl⟩), hts _ tw_134, hts _ tw_135⟩ (kx_preV hN hK hP hD rfl hF1) rfl rfl hl.1 rfl (lv_room (Nat.le_of_ble_eq_true rfl)) dX2_leave_42 ⟨Nat.le_of_ble_eq_true rfl, Nat.le_of_ble_eq_true rfl⟩) hD hS hA (fun r_50 u_51 H locs hp_49 hP hD hS => ?_)
        obtain ⟨FF, eFF⟩ : ∃ F : fo_St, F = fo_fill (LL i) SJ r1 p1 (nE i) := ⟨_, rfl⟩
        obtain ⟨hk1, hk2, _⟩ := fo_fill_bd (S := SJ) (rows := r1) (parts := p1) hni (fun j h => gl_lt (hl2i j h)) (nE i) (Nat.le_refl _)
        rw [← eFF] at hp_49 hk1 hk2
        obtain ⟨_, ⟨hF9, hR9, hT9⟩, hq⟩ := hp_49
        have f_52 : u_51[b]? = some (ad 0, .inr (2, [.ref (ad 1), .ref (ad 2), .ref (ad 5), .ref (ad 8)])) := by rw [hq _ (by omega)]; exact hO
        have f_53 : u_51[b + 1]? = some (ad 1, .inl (k0 1, 8, .inr (.inr (.inr (.inr fq))))) := by rw [hq _ (by omega)]; exact hQ
        have f_54 : u_51[b + 2]? = some (ad 2, .inr (0, [.ref (ad 3), .ref (ad 4), .int (nI FF.2.2)])) := hF9
        have f_55 : u_51[b + 2 + 1]? = some (ad 3, .inl (k0 0, 12, .inl (fun j => nI (FF.1 j)))) := hR9
        have f_56 : u_51[b + 2 + 2]? = some (ad 4, .inl (k0 0, 12, .inl (fun j => nI (FF.2.1 j)))) := hT9
        have f_57 : u_51[b + 8]? = some (ad 8, .inl (k0 0, 12, .inl (fun j => nI (dr j)))) := by rw [hq _ (by omega)]; exact hd
        have f_58 : u_51[b + 9 + 3 * t]? = some (ad (9 + 3 * t), .inr (1, [.ref (ad (10 + 3 * t)), .ref (ad (11 + 3 * t)), .int (nI (nE t)), .int (nI (nV t)), .int (op t)])) := by rw [hq _ (by omega)]; exact hGt
        have f_59 : u_51[b + 9 + 3 * t + 1]? = some (ad (10 + 3 * t), .inl (k0 0, 12, .inl (fun j => nI ((LL t) j)))) := by rw [hq _ (by omega)]; exact hLt
        have f_60 : u_51[b + 9 + 3 * t + 2]? = some (ad (11 + 3 * t), .inl (k0 0, 12, .inl (ww t))) := by rw [hq _ (by omega)]; exact hWt
        have f_61 : u_51[b + 9 + 3 * i]? = some (ad (9 + 3 * i), .inr (1, [.ref (ad (10 + 3 * i)), .ref (ad (11 + 3 * i)), .int (nI (nE i)), .int (nI (nV i)), .int (op i)])) := by rw [hq _ (by omega)]; exact hGi
        have f_62 : u_51[b + 9 + 3 * i + 1]? = some (ad (10 + 3 * i), .inl (k0 0, 12, .inl (fun j => nI ((LL i) j)))) := by rw [hq _ (by omega)]; exact hLi
        have f_63 : u_51[b + 9 + 3 * i + 2]? = some (ad (11 + 3 * i), .inl (k0 0, 12, .inl (ww i))) := by rw [hq _ (by omega)]; exact hWi
        have hfr : kx_fr w0 u_51 (fun j => j = b + 2 ∨ j = b + 3 ∨ j = b + 4 ∨ j = b + 8) := kx_fr_tr hfr (kx_fr_mono hq (fun j h => by omega))
        refine lv_pop hx hb dX2_leave_45 rfl ?_
        refine lv_iconst (v := nI 0) hx hb dX2_leave_46 (by decide +kernel) ?_
        refine lv_istore (lv' := [(6, .int (nI 0)), (5, .ref (ad (9 + 3 * i))), (0, .ref (ad 0)), (1, .int (nI t)), (2, .int (nI i)), (3, .int (nI S)), (4, .int jn)]) hx hb dX2_leave_47 hl (by decide) rfl (fun ls hl => ?_)
        refine lv_iconst (v := nI 0) hx hb dX2_leave_49 (by decide +kernel) ?_
        refine lv_istore (lv' := [(7, .int (nI 0)), (6, .int (nI 0)), (5, .ref (ad (9 + 3 * i))), (0, .ref (ad 0)), (1, .int (nI t)), (2, .int (nI i)), (3, .int (nI S)), (4, .int jn)]) hx hb dX2_leave_50 hl (by decide) rfl (fun ls hl => ?_)
        have loop_52 : ∀ (n52 : Nat) (e9 : Nat), (e9 ≤ nE i) → (nE i + 1 ≤ e9 + n52) → ∀ (w1 : va_W), w1[b]? = some (ad 0, .inr (2, [.ref (ad 1), .ref (ad 2), .ref (ad 5), .ref (ad 8)])) → w1[b + 1]? = some (ad 1, .inl (k0 1, 8, .inr (.inr (.inr (.inr fq))))) → w1[b + 2]? = some (ad 2, .inr (0, [.ref (ad 3), .ref (ad 4), .int (nI FF.2.2)])) → w1[b + 2 + 1]? = some (ad 3, .inl (k0 0, 12, .inl (fun j => nI (FF.1 j)))) → w1[b + 2 + 2]? = some (ad 4, .inl (k0 0, 12, .inl (fun j => nI (FF.2.1 j)))) → w1[b + 8]? = some (ad 8, .inl (k0 0, 12, .inl (fun j => nI ((lv_d S (fun e => fo_rest FF.1 (LL i e) FF.2.2) dr e9) j)))) → w1[b + 9 + 3 * t]? = some (ad (9 + 3 * t), .inr (1, [.ref (ad (10 + 3 * t)), .ref (ad (11 + 3 * t)), .int (nI (nE t)), .int (nI (nV t)), .int (op t)])) → w1[b + 9 + 3 * t + 1]? = some (ad (10 + 3 * t), .inl (k0 0, 12, .inl (fun j => nI ((LL t) j)))) → w1[b + 9 + 3 * t + 2]? = some (ad (11 + 3 * t), .inl (k0 0, 12, .inl (ww t))) → w1[b + 9 + 3 * i]? = some (ad (9 + 3 * i), .inr (1, [.ref (ad (10 + 3 * i)), .ref (ad (11 + 3 * i)), .int (nI (nE i)), .int (nI (nV i)), .int (op i)])) → w1[b + 9 + 3 * i + 1]? = some (ad (10 + 3 * i), .inl (k0 0, 12, .inl (fun j => nI ((LL i) j)))) → w1[b + 9 + 3 * i + 2]? = some (ad (11 + 3 * i), .inl (k0 0, 12, .inl (ww i))) → kx_fr w0 w1 (fun j => j = b + 2 ∨ j = b + 3 ∨ j = b + 4 ∨ j = b + 8) → ∀ (H : Heap) (locs : List Loc), va_P D vwCl w1 H → va_D A w1 → va_S A s.heap H locs → ∀ (ls : Array Slot), lv_has ls 8 [(7, .int (nI e9)), (6, .int (nI (lv_c S e9))), (5, .ref (ad (9 + 3 * i))), (0, .ref (ad 0)), (1, .int (nI t)), (2, .int (nI i)), (3, .int (nI S)), (4, .int jn)] → W p l e ({ frames := 4, cells := 0, slots := 0, locals := 104 } : Room) s m ([.ref (ad 0), .int x, .int y, .int z, .int jn] : List Value).toArray below meth c H locs 0 0 (MQ below (va_Qi (fun (r : Int32) (u : va_W) => ((∃ t i S, t < 8 ∧ i < 8 ∧ S ≤ cf_full (nE i) ∧ x = nI t ∧ y = nI i ∧ z = nI S ∧ r = nI (lv_c S (nE i)) ∧ ∃ (L9 : Nat → Nat) (f9 : Nat → Int32) (r1 p1 dr : Nat → Nat), atC u b k0 ad (va_up nE t (lv_c S (nE i))) (va_up nV t (nV t)) (va_up op t 0) (va_up LL t L9) (va_up ww t f9) ∧ (∀ j, j < lv_c S (nE i) → L9 j = lv_d S (fun e => fo_rest (fo_fill (LL i) (if jn = 0 then 0 else S) r1 p1 (nE i)).1 (LL i e) (fo_fill (LL i) (if jn = 0 then 0 else S) r1 p1 (nE i)).2.2) dr (nE i) j) ∧ ∀ j, j < lv_c S (nE i) → f9 j = 0) ∨ (¬ (∃ t i S, t < 8 ∧ i < 8 ∧ S ≤ cf_full (nE i) ∧ x = nI t ∧ y = nI i ∧ z = nI S) ∧ r = -1 ∧ u = w0)) ∧ kx_fr w0 u (fun j => b ≤ j ∧ j < b + 33)) (kx_B D (tyL k0) A) A) ([.ref (ad 0), .int x, .int y, .int z, .int jn] : List Value).toArray s 0 0 A) (F0 m 52 ls []) := by
          intro n52
          induction n52 with
          | zero =>
            intro e9 he hme
            exact absurd hme (by omega)
          | succ n52 ih52 =>
            intro e9 he hme w1 F52_0 F52_1 F52_2 F52_3 F52_4 F52_5 F52_6 F52_7 F52_8 F52_9 F52_10 F52_11 hfr H locs hP hD hS ls hl
            refine lv_iload hx hb dX2_leave_52 (lv_at hl 0 rfl) ?_
            refine lv_aload hx hb dX2_leave_54 (lv_at hl 2 rfl) ?_
            refine va_get (D := D) (ci := 1) (v := .int (nI (nE i))) (C := RX1) (T := TX1) (N := 5) hx hb hts inX1 hown hK hP (b + 9 + 3 * i) F52_9 rfl 2 (by decide) (hts _ tw_64) (fun _ h9 => h9) rfl dX2_leave_56 ?_
            refine lv_icmp_ge (tgt := 102) hx hb dX2_leave_59 (by decide) (fun c_59 => ?_) (fun c_59 => ?_)
            · skip
              have hik : e9 = nE i := by
                have := (nI_leI (by omega) (by omega)).mp c_59
                omega
              rw [hik] at hl
              have f_64 : w1[b + 8]? = some (ad 8, .inl (k0 0, 12, .inl (fun j => nI ((lv_d S (fun e => fo_rest FF.1 (LL i e) FF.2.2) dr (nE i)) j)))) := by rw [← hik]; exact F52_5
              have hC2 : atC w1 b k0 ad nE nV op LL ww := atC_rest hC (kx_fr_mono hfr (fun j h => by omega)) ⟨_, _, _, F52_2, F52_3, F52_4⟩ ⟨r2, p2, k2, atF_fr ⟨hF2, hR2, hT2⟩ hfr ⟨by omega, by omega, by omega⟩⟩ ⟨_, f_64⟩
              refine lv_aload_n hx hb dX2_leave_102 rfl (lv_at hl 3 rfl) ?_
              refine va_get (D := D) (ci := 2) (v := .ref (ad 1)) (C := RX2) (T := TX2) (N := 4) hx hb hts inX2 hown hK hP b F52_0 rfl 0 (by decide) (hts _ tw_78) (fun _ h9 => h9) rfl dX2_leave_103 ?_
              refine lv_iload_n hx hb dX2_leave_106 rfl (lv_at hl 4 rfl) ?_
              refine kx_qald hx hb hK hP (b + 1) 1 F52_1 rfl (i := t) (r := (ad (9 + 3 * t))) (by omega) (by decide) (hfq _ (by omega)) dX2_leave_107 ?_
              refine lv_aload_n hx hb dX2_leave_108 rfl (lv_at hl 3 rfl) ?_
              refine va_get (D := D) (ci := 2) (v := .ref (ad 8)) (C := RX2) (T := TX2) (N := 4) hx hb hts inX2 hown hK hP b F52_0 rfl 3 (by decide) (hts _ tw_81) (fun _ h9 => h9) rfl dX2_leave_109 ?_
              refine lv_iload hx hb dX2_leave_112 (lv_at hl 1 rfl) ?_
              refine kx_gov (va_runV (As := [.ref (ad 8), .int (nI (lv_c S (nE i)))]) (rest := []) ⟨hx, hb, hml, hown, hts⟩ (c_become l D k0 w1 _ (b + 9 + 3 * t) (ad (9 + 3 * t)) (ad (10 + 3 * t)) (ad (11 + 3 * t)) (LL t) (ww t) (nE t) (nI (nV t)) (op t) F52_6 F52_7 F52_8 (b + 8) (ad 8) (lv_d S (fun e => fo_rest FF.1 (LL i e) FF.2.2) dr (nE i)) f_64 (by omega) (lv_c S (nE i)) (by have := lv_c_le S (nE i); omega)) ⟨(kg_B (k := 2) hts tw_164 tw_161 tw_21 (by decide +kernel) rfl rfl ⟨Nat.le_of_ble_eq_true rfl, Nat.le_of_ble_eq_true rfl⟩), hts _ tw_162, hts _ tw_163⟩ (kx_preV hN hK hP hD rfl F52_6) rfl rfl hl.1 rfl (lv_room (Nat.le_of_ble_eq_true rfl)) dX2_leave_114 ⟨Nat.le_of_ble_eq_true rfl, Nat.le_of_ble_eq_true rfl⟩) hD hS hA (fun u_67 H locs hp_65 hP hD hS => ?_)
              obtain ⟨L9, f9, hg, hl9, hf9, hq9⟩ := hp_65
              refine lv_iload hx hb dX2_leave_117 (lv_at hl 1 rfl) ?_
              exact kx_iret (v := nI (lv_c S (nE i))) hx hb hr rfl hlocks hK hP hD hS dX2_leave_119 (⟨Or.inl ⟨t, i, S, h8t, h8i, hSS, e_x, e_y, e_z, rfl, L9, f9, r1, p1, dr, atC_put hC2 hq9 hg, by rw [← eSJ, ← eFF]; exact hl9, hf9⟩, kx_fr_tr (kx_fr_mono hfr (fun j h => by omega)) (kx_fr_mono hq9 (fun j h => by omega))⟩)
            · skip
              have hik : e9 < nE i := by
                rcases Nat.lt_or_ge (e9) (nE i) with h | h
                · exact h
                · exact absurd ((nI_leI (by omega) (by omega)).mpr h) c_59
              refine lv_iload_n hx hb dX2_leave_62 rfl (lv_at hl 6 rfl) ?_
              refine lv_iload hx hb dX2_leave_63 (lv_at hl 0 rfl) ?_
              refine kx_goi (va_runS (As := [.int (nI S), .int (nI e9)]) (rest := []) ⟨hx, hb, hml, hown, hts⟩ (c_has l D k0 w1 _ S e9 (by omega) (by omega)) ⟨(kg_B (k := 2) hts tw_143 tw_159 tw_19 (by decide +kernel) rfl rfl ⟨Nat.le_of_ble_eq_true rfl, Nat.le_of_ble_eq_true rfl⟩), hts _ tw_142⟩ (kx_preS hN hK hP hD) rfl rfl hl.1 rfl (lv_room (Nat.le_of_ble_eq_true rfl)) dX2_leave_65 ⟨Nat.le_of_ble_eq_true rfl, Nat.le_of_ble_eq_true rfl⟩) hD hS hA (fun r_69 u_70 H locs hp_68 hP hD hS => ?_)
              obtain ⟨er_69, eu_70⟩ := hp_68
              rw [eu_70] at hP hD; subst er_69
              refine lv_if_ne (tgt := 96) hx hb dX2_leave_68 (by decide) (fun c_68 => ?_) (fun c_68 => ?_)
              · skip
                have hS1 : S.testBit e9 = true := by
                  cases hq9 : S.testBit e9 with
                  | true => rfl
                  | false => exact absurd ((kb_bool _).mpr hq9) c_68
                rw [← lv_c_in hS1] at hl
                have f_71 : w1[b + 8]? = some (ad 8, .inl (k0 0, 12, .inl (fun j => nI ((lv_d S (fun e => fo_rest FF.1 (LL i e) FF.2.2) dr (e9 + 1)) j)))) := by rw [lv_d_in hS1]; exact F52_5
                refine lv_iinc (v := nI (e9 + 1)) (lv' := [(7, .int (nI (e9 + 1))), (6, .int (nI (lv_c S (e9 + 1)))), (5, .ref (ad (9 + 3 * i))), (0, .ref (ad 0)), (1, .int (nI t)), (2, .int (nI i)), (3, .int (nI S)), (4, .int jn)]) hx hb dX2_leave_96 hl (k := 0) rfl (nI_1 _) (by decide) rfl (fun ls hl => ?_)
                refine lv_goto (tgt := 52) hx hb dX2_leave_99 (by decide) ?_
                exact ih52 (e9 + 1) (by omega) (by omega) w1 F52_0 F52_1 F52_2 F52_3 F52_4 f_71 F52_6 F52_7 F52_8 F52_9 F52_10 F52_11 hfr _ _ hP hD hS _ (lv_sub hl [0, 1, 2, 3, 4, 5, 6, 7] rfl)
              · skip
                have hS1 : S.testBit e9 = false := (kb_bool _).mp c_68
                refine lv_aload_n hx hb dX2_leave_71 rfl (lv_at hl 3 rfl) ?_
                refine va_get (D := D) (ci := 2) (v := .ref (ad 8)) (C := RX2) (T := TX2) (N := 4) hx hb hts inX2 hown hK hP b F52_0 rfl 3 (by decide) (hts _ tw_81) (fun _ h9 => h9) rfl dX2_leave_72 ?_
                refine lv_iload hx hb dX2_leave_75 (lv_at hl 1 rfl) ?_
                refine lv_aload_n hx hb dX2_leave_77 rfl (lv_at hl 3 rfl) ?_
                refine va_get (D := D) (ci := 2) (v := .ref (ad 2)) (C := RX2) (T := TX2) (N := 4) hx hb hts inX2 hown hK hP b F52_0 rfl 1 (by decide) (hts _ tw_79) (fun _ h9 => h9) rfl dX2_leave_78 ?_
                refine lv_aload hx hb dX2_leave_81 (lv_at hl 2 rfl) ?_
                refine va_get (D := D) (ci := 1) (v := .ref (ad (10 + 3 * i))) (C := RX1) (T := TX1) (N := 5) hx hb hts inX1 hown hK hP (b + 9 + 3 * i) F52_9 rfl 0 (by decide) (hts _ tw_59) (fun _ h9 => h9) rfl dX2_leave_83 ?_
                refine lv_iload hx hb dX2_leave_86 (lv_at hl 0 rfl) ?_
                refine kx_nald hx hb hK hP (b + 9 + 3 * i + 1) F52_10 rfl (i := e9) (by omega) (by decide) dX2_leave_88 ?_
                refine kx_goi (va_runV (As := [.int (nI ((LL i) e9))]) (rest := [.int (nI (lv_c S e9)), .ref (ad 8)]) ⟨hx, hb, hml, hown, hts⟩ (c_rest l D k0 w1 _ (b + 2) (ad 2) (ad 3) (ad 4) FF.1 FF.2.1 FF.2.2 F52_2 F52_3 F52_4 hk1 hk2 (LL i e9) (gl_lt (hl2i e9 hik))) ⟨(kg_B (k := 1) hts tw_151 tw_160 tw_20 (by decide +kernel) rfl rfl ⟨Nat.le_of_ble_eq_true rfl, Nat.le_of_ble_eq_true rfl⟩), hts _ tw_149, hts _ tw_150⟩ (kx_preV hN hK hP hD rfl F52_2) rfl rfl hl.1 rfl (lv_room (Nat.le_of_ble_eq_true rfl)) dX2_leave_89 ⟨Nat.le_of_ble_eq_true rfl, Nat.le_of_ble_eq_true rfl⟩) hD hS hA (fun r_73 u_74 H locs hp_72 hP hD hS => ?_)
                obtain ⟨er_73, eu_74⟩ := hp_72
                rw [eu_74] at hP hD; subst er_73
                refine kx_nast hx hb hK hP hD hS (b + 8) F52_5 rfl (i := (lv_c S e9)) (x := (fo_rest FF.1 (LL i e9) FF.2.2)) (by have := lv_c_le S e9; omega) (by decide) dX2_leave_92 (fun H locs hP hD hS => ?_)
                obtain ⟨w_75, ew_75⟩ : ∃ w, w = w1.set (b + 8) (ad 8, .inl (k0 0, 12, .inl (fun j => nI ((fo_up (lv_d S (fun e => fo_rest FF.1 (LL i e) FF.2.2) dr e9) (lv_c S e9) (fo_rest FF.1 (LL i e9) FF.2.2)) j)))) := ⟨_, rfl⟩
                have hP : va_P D vwCl w_75 H := by rw [ew_75]; exact hP
                have hD : va_D A w_75 := by rw [ew_75]; exact hD
                have f_76 : w_75[b]? = some (ad 0, .inr (2, [.ref (ad 1), .ref (ad 2), .ref (ad 5), .ref (ad 8)])) := by rw [ew_75]; exact kx_set_ne F52_0 (by omega)
                have f_77 : w_75[b + 1]? = some (ad 1, .inl (k0 1, 8, .inr (.inr (.inr (.inr fq))))) := by rw [ew_75]; exact kx_set_ne F52_1 (by omega)
                have f_78 : w_75[b + 2]? = some (ad 2, .inr (0, [.ref (ad 3), .ref (ad 4), .int (nI FF.2.2)])) := by rw [ew_75]; exact kx_set_ne F52_2 (by omega)
                have f_79 : w_75[b + 2 + 1]? = some (ad 3, .inl (k0 0, 12, .inl (fun j => nI (FF.1 j)))) := by rw [ew_75]; exact kx_set_ne F52_3 (by omega)
                have f_80 : w_75[b + 2 + 2]? = some (ad 4, .inl (k0 0, 12, .inl (fun j => nI (FF.2.1 j)))) := by rw [ew_75]; exact kx_set_ne F52_4 (by omega)
                have f_81 : w_75[b + 8]? = some (ad 8, .inl (k0 0, 12, .inl (fun j => nI ((fo_up (lv_d S (fun e => fo_rest FF.1 (LL i e) FF.2.2) dr e9) (lv_c S e9) (fo_rest FF.1 (LL i e9) FF.2.2)) j)))) := by rw [ew_75]; exact kx_set_self F52_5
                have f_82 : w_75[b + 9 + 3 * t]? = some (ad (9 + 3 * t), .inr (1, [.ref (ad (10 + 3 * t)), .ref (ad (11 + 3 * t)), .int (nI (nE t)), .int (nI (nV t)), .int (op t)])) := by rw [ew_75]; exact kx_set_ne F52_6 (by omega)
                have f_83 : w_75[b + 9 + 3 * t + 1]? = some (ad (10 + 3 * t), .inl (k0 0, 12, .inl (fun j => nI ((LL t) j)))) := by rw [ew_75]; exact kx_set_ne F52_7 (by omega)
                have f_84 : w_75[b + 9 + 3 * t + 2]? = some (ad (11 + 3 * t), .inl (k0 0, 12, .inl (ww t))) := by rw [ew_75]; exact kx_set_ne F52_8 (by omega)
                have f_85 : w_75[b + 9 + 3 * i]? = some (ad (9 + 3 * i), .inr (1, [.ref (ad (10 + 3 * i)), .ref (ad (11 + 3 * i)), .int (nI (nE i)), .int (nI (nV i)), .int (op i)])) := by rw [ew_75]; exact kx_set_ne F52_9 (by omega)
                have f_86 : w_75[b + 9 + 3 * i + 1]? = some (ad (10 + 3 * i), .inl (k0 0, 12, .inl (fun j => nI ((LL i) j)))) := by rw [ew_75]; exact kx_set_ne F52_10 (by omega)
                have f_87 : w_75[b + 9 + 3 * i + 2]? = some (ad (11 + 3 * i), .inl (k0 0, 12, .inl (ww i))) := by rw [ew_75]; exact kx_set_ne F52_11 (by omega)
                have hfr : kx_fr w0 w_75 (fun j => j = b + 2 ∨ j = b + 3 ∨ j = b + 4 ∨ j = b + 8) := kx_fr_tr hfr (by rw [ew_75]; exact kx_fr_set (by omega))
                have f_88 : w_75[b + 8]? = some (ad 8, .inl (k0 0, 12, .inl (fun j => nI ((lv_d S (fun e => fo_rest FF.1 (LL i e) FF.2.2) dr (e9 + 1)) j)))) := by rw [lv_d_out hS1]; exact f_81
                refine lv_iinc (v := nI (lv_c S (e9 + 1))) (lv' := [(6, .int (nI (lv_c S (e9 + 1)))), (7, .int (nI e9)), (5, .ref (ad (9 + 3 * i))), (0, .ref (ad 0)), (1, .int (nI t)), (2, .int (nI i)), (3, .int (nI S)), (4, .int jn)]) hx hb dX2_leave_93 hl (k := 1) rfl (by rw [lv_c_out hS1]; exact nI_1 _) (by decide) rfl (fun ls hl => ?_)
                refine lv_iinc (v := nI (e9 + 1)) (lv' := [(7, .int (nI (e9 + 1))), (6, .int (nI (lv_c S (e9 + 1)))), (5, .ref (ad (9 + 3 * i))), (0, .ref (ad 0)), (1, .int (nI t)), (2, .int (nI i)), (3, .int (nI S)), (4, .int jn)]) hx hb dX2_leave_96 hl (k := 1) rfl (nI_1 _) (by decide) rfl (fun ls hl => ?_)
                refine lv_goto (tgt := 52) hx hb dX2_leave_99 (by decide) ?_
                exact ih52 (e9 + 1) (by omega) (by omega) w_75 f_76 f_77 f_78 f_79 f_80 f_88 f_82 f_83 f_84 f_85 f_86 f_87 hfr _ _ hP hD hS _ (lv_sub hl [0, 1, 2, 3, 4, 5, 6, 7] rfl)
        exact loop_52 (nE i + 1) 0 (Nat.zero_le _) (by omega) u_51 f_52 f_53 f_54 f_55 f_56 f_57 f_58 f_59 f_60 f_61 f_62 f_63 hfr _ _ hP hD hS _ (lv_sub hl [0, 1, 2, 3, 4, 5, 6, 7] rfl)
    · skip
      have hno0 := kg_0 hy_ c_13
      have hno : ¬ (∃ t i S, t < 8 ∧ i < 8 ∧ S ≤ cf_full (nE i) ∧ x = nI t ∧ y = nI i ∧ z = nI S) := fun ⟨_, i, S, _, h1, h2, _, h3, h4⟩ => hno0 ⟨i, S, h1, h2, h3, h4⟩
      refine lv_iconst (v := -1) hx hb dX2_leave_16 (by decide +kernel) ?_
      exact kx_iret (v := -1) hx hb hr rfl hlocks hK hP hD hS dX2_leave_17 (⟨Or.inr ⟨hno, rfl, rfl⟩, kx_fr_rf _ _⟩)
end
section
theorem kb_neg {v : Nat} (h0 : 0 < v) (h : v < 2 ^ 32) : -(nI v) = nI (2 ^ 32 - v) := by
  apply Int32.toBitVec_inj.1
  show -(BitVec.ofNat 32 v) = BitVec.ofNat 32 (2 ^ 32 - v)
  apply BitVec.eq_of_toNat_eq
  rw [BitVec.toNat_neg, BitVec.toNat_ofNat, BitVec.toNat_ofNat, Nat.mod_eq_of_lt h]
theorem kb_two {lo hi : Nat} (h : lo < hi) : 2 ^ lo ^^^ 2 ^ hi = 2 ^ hi * 1 + 2 ^ lo := by
  have hl : 2 ^ lo < 2 ^ hi := Nat.pow_lt_pow_right (by omega) h
  refine Nat.eq_of_testBit_eq fun i => ?_
  rw [Nat.testBit_two_pow_mul_add _ hl, Nat.testBit_xor, cf_one_bit, cf_one_bit]
  by_cases c : i < hi
  · rw [if_pos c]
    have : ¬ hi = i := by omega
    simp [this]
  · rw [if_neg c]
    have : ¬ lo = i := by omega
    by_cases d : hi = i
    · subst d; simp [this]
    · have e : Nat.testBit 1 (i - hi) = false := Nat.testBit_lt_two_pow (by
        have : 2 ^ 1 ≤ 2 ^ (i - hi) := Nat.pow_le_pow_right (by omega) (by omega)
        omega)
      rw [e]; simp [this, d]
theorem kb_low {lo hi : Nat} (h : lo < hi) (hh : hi < 31) : (2 ^ lo ^^^ 2 ^ hi) &&& (2 ^ 32 - (2 ^ lo ^^^ 2 ^ hi)) = 2 ^ lo := by
  have hl : 2 ^ lo < 2 ^ hi := Nat.pow_lt_pow_right (by omega) h
  have hb : 2 ^ hi < 2 ^ 31 := Nat.pow_lt_pow_right (by omega) hh
  have h1 : 1 ≤ 2 ^ lo := Nat.one_le_two_pow
  have hl1 : 2 ^ lo - 1 < 2 ^ hi := by omega
  have e1 : 2 ^ 32 - (2 ^ lo ^^^ 2 ^ hi) = 2 ^ 32 - ((2 ^ hi * 1 + (2 ^ lo - 1)) + 1) := by rw [kb_two h]; omega
  rw [e1]
  refine Nat.eq_of_testBit_eq fun i => ?_
  rw [Nat.testBit_and, Nat.testBit_two_pow_sub_succ (by omega), Nat.testBit_two_pow_mul_add _ hl1, Nat.testBit_two_pow_sub_one, Nat.testBit_xor, cf_one_bit, cf_one_bit]
  by_cases c : lo = i
  · subst c
    have d : ¬ hi = lo := by omega
    have d2 : lo < 32 := by omega
    simp [h, d, d2]
  · by_cases d : hi = i
    · subst d
      simp [c]
    · simp [c, d]
theorem gl_ord {v : Nat} (h : gl_two v) (h0 : v ≠ 0) : ∃ lo hi, lo < hi ∧ hi < 24 ∧ v = 2 ^ lo ^^^ 2 ^ hi := by
  obtain ⟨a, b, ha, hb, e⟩ := h
  rcases Nat.lt_trichotomy a b with q | q | q
  · exact ⟨a, b, q, hb, e⟩
  · subst q; rw [Nat.xor_self] at e; exact absurd e h0
  · exact ⟨b, a, q, ha, by rw [e, Nat.xor_comm]⟩
theorem cf_card_mod {n k : Nat} (S : Nat) (h : k ≤ n) : cf_card n (S % 2 ^ k) = cf_card k S := by
  have key : ∀ d, cf_card (k + d) (S % 2 ^ k) = cf_card k S := by
    intro d
    induction d with
    | zero => exact cf_card_congr fun i hi => by rw [Nat.testBit_mod_two_pow, decide_eq_true (show i < k from hi)]; rfl
    | succ d ih =>
      show cf_card (k + d) (S % 2 ^ k) + (if (S % 2 ^ k).testBit (k + d) = true then 1 else 0) = _
      rw [ih, Nat.testBit_mod_two_pow, decide_eq_false (show ¬ k + d < k by omega)]
      rfl
  have := key (n - k)
  rw [show k + (n - k) = n by omega] at this
  exact this
theorem pq_two {met lo hi : Nat} (h : lo < hi) (hh : hi < 32) (hl : met.testBit lo = true) : 2 ^ pq_ix met lo ||| 2 ^ pq_ix met hi = pq_of met (2 ^ lo ^^^ 2 ^ hi) := by
  rw [pq_xor, pq_one met (by omega), pq_one met hh]
  have hne := pq_ix_lt h hl
  refine Nat.eq_of_testBit_eq fun i => ?_
  rw [Nat.testBit_or, Nat.testBit_xor, cf_one_bit, cf_one_bit]
  by_cases c : pq_ix met lo = i
  · have : ¬ pq_ix met hi = i := by omega
    simp [c, this]
  · simp [c]
/-- what is met -/
theorem me_sub {L : Nat → Nat} {n e : Nat} (h : e < n) : cf_sub (L e) (me_of L n) := by
  induction n with
  | zero => omega
  | succ n ih =>
    show cf_sub (L e) (me_of L n ||| L n)
    by_cases c : e = n
    · subst c; exact cf_sub_or' _ _
    · exact cf_sub_tr (ih (by omega)) (cf_sub_or _ _)
theorem me_lt {L : Nat → Nat} {n k : Nat} (h : ∀ e, e < n → L e < 2 ^ k) : me_of L n < 2 ^ k := by
  induction n with
  | zero => exact Nat.two_pow_pos k
  | succ n ih => exact Nat.or_lt_two_pow (ih fun e he => h e (by omega)) (h n (by omega))
theorem me_card {L : Nat → Nat} {n : Nat} (h : ∀ e, e < n → gl_two (L e)) : cf_card 32 (me_of L n) ≤ 2 * n := by
  induction n with
  | zero => rw [show me_of L 0 = 0 from rfl, cf_card_0]; omega
  | succ n ih =>
    have h1 := ih fun e he => h e (by omega)
    have h2 := cf_card_ui 32 (me_of L n) (L n)
    have h3 : cf_card 32 (L n) ≤ 2 := by
      obtain ⟨a, b, ha, hb, e⟩ := h n (by omega)
      rw [e]
      have k1 : cf_card 32 (2 ^ a ^^^ 2 ^ b) ≤ cf_card 32 (2 ^ a ||| 2 ^ b) := cf_card_mono fun i _ hi => by
        rw [Nat.testBit_xor] at hi
        rw [Nat.testBit_or]
        cases c : (2 ^ a).testBit i <;> cases d : (2 ^ b).testBit i <;> simp [c, d] at hi ⊢
      have k2 := cf_card_addle 32 (2 ^ a) b
      rw [cf_card_one (by omega)] at k2
      omega
    show cf_card 32 (me_of L n ||| L n) ≤ _
    omega
/-- the draft behind a row of lines -/
def dp_d (R : Nat → Nat) (at9 : Nat) (d : Nat → Nat) : Nat → Nat → Nat
  | 0 => d
  | e + 1 => fo_up (dp_d R at9 d e) (at9 + e) (R e)
theorem dp_in {R d : Nat → Nat} {at9 n k : Nat} (h1 : at9 ≤ k) (h2 : k < at9 + n) : dp_d R at9 d n k = R (k - at9) := by
  induction n with
  | zero => omega
  | succ n ih =>
    simp only [dp_d, fo_up]
    by_cases c : k = at9 + n
    · rw [if_pos c, show k - at9 = n by omega]
    · rw [if_neg c]; exact ih (by omega)
theorem dp_out {R d : Nat → Nat} {at9 n k : Nat} (h : k < at9 ∨ at9 + n ≤ k) : dp_d R at9 d n k = d k := by
  induction n with
  | zero => rfl
  | succ n ih =>
    simp only [dp_d, fo_up]
    rw [if_neg (by omega)]; exact ih (by omega)
end
section
set_option maxHeartbeats 4000000 in
set_option maxRecDepth 100000 in
/-- packed(line, met) -/
theorem c_packed (l : Launch) (D : va_G) (k0 : Nat → ClassId) (w0 : va_W) (sz : Nat) (v met : Nat) (hv : gl_two v) (hvm : cf_sub v met) (hmb : met < 2 ^ 24) : kx_i l yX2_packed wsX2_packed ({ frames := 1, cells := 0, slots := 0, locals := 24 } : Room) D (tyL k0) w0 sz [.int (nI v), .int (nI met)] (fun (r : Int32) (u : va_W) => r = nI (pq_of met v) ∧ u = w0) 0 0 := by
  refine kx_of (Qf := fun A => va_Qi (fun (r : Int32) (u : va_W) => r = nI (pq_of met v) ∧ u = w0) (kx_B D (tyL k0) A) A) (cc := cX2_packed) (maxL := 4) (ret := (some .int)) (by decide +kernel) (Nat.le_of_ble_eq_true rfl) ?_
  intro p e s m below meth c A ls hx hb hml hown hts hr hlocks hnm hN hK hP hD hS hA hl
  have hown : s.vm.findClass RX2 = some m.cls := hown
  have hl : lv_has ls 4 [(0, .int (nI v)), (1, .int (nI met))] := hl
  skip
  refine lv_iload_n hx hb dX2_packed_0 rfl (lv_at hl 0 rfl) ?_
  refine lv_if_ne (tgt := 6) hx hb dX2_packed_1 (by decide) (fun c_1 => ?_) (fun c_1 => ?_)
  · skip
    have h0 : v ≠ 0 := fun h => c_1 ((kb_eq0 (Nat.lt_trans (gl_lt hv) (by decide))).mpr h)
    obtain ⟨lo, hi, hlh, hhi, ev⟩ := gl_ord hv h0
    have hvb := gl_lt hv
    have hlo : met.testBit lo = true := hvm lo (by
      have d : ¬ hi = lo := by omega
      rw [ev, Nat.testBit_xor, cf_one_bit, cf_one_bit]; simp [d])
    have p1 : 1 ≤ 2 ^ lo := Nat.one_le_two_pow
    have p2 : 1 ≤ 2 ^ hi := Nat.one_le_two_pow
    have m1 : met % 2 ^ lo ≤ met := Nat.mod_le _ _
    have m2 : met % 2 ^ hi ≤ met := Nat.mod_le _ _
    have c1 : pq_ix met lo ≤ lo := cf_card_le _ _
    have c2 : pq_ix met hi ≤ hi := cf_card_le _ _
    refine lv_iload_n hx hb dX2_packed_6 rfl (lv_at hl 0 rfl) ?_
    refine lv_iload_n hx hb dX2_packed_7 rfl (lv_at hl 0 rfl) ?_
    refine lv_ineg hx hb dX2_packed_8 ?_
    refine lv_iand hx hb dX2_packed_9 ?_
    refine lv_topi (fun z_1 ez_1 => ?_)
    have ez_1 : z_1 = nI (2 ^ lo) := by rw [ez_1]; rw [kb_neg (by omega) (by omega), kb_and, ev, kb_low hlh (by omega)]
    subst ez_1
    refine lv_istore_n (lv' := [(2, .int (nI (2 ^ lo))), (0, .int (nI v)), (1, .int (nI met))]) hx hb dX2_packed_10 rfl hl (by decide) rfl (fun ls hl => ?_)
    refine lv_iload_n hx hb dX2_packed_11 rfl (lv_at hl 1 rfl) ?_
    refine lv_iload_n hx hb dX2_packed_12 rfl (lv_at hl 0 rfl) ?_
    refine lv_ixor hx hb dX2_packed_13 ?_
    refine lv_topi (fun z_2 ez_2 => ?_)
    have ez_2 : z_2 = nI (2 ^ hi) := by rw [ez_2]; rw [kb_xor, ev, Nat.xor_comm (2 ^ lo), cf_xc]
    subst ez_2
    refine lv_istore_n (lv' := [(3, .int (nI (2 ^ hi))), (2, .int (nI (2 ^ lo))), (0, .int (nI v)), (1, .int (nI met))]) hx hb dX2_packed_14 rfl hl (by decide) rfl (fun ls hl => ?_)
    refine lv_iconst (v := 1) hx hb dX2_packed_15 (by decide +kernel) ?_
    refine lv_iload_n hx hb dX2_packed_16 rfl (lv_at hl 3 rfl) ?_
    refine lv_iload_n hx hb dX2_packed_17 rfl (lv_at hl 1 rfl) ?_
    refine lv_iconst (v := nI 1) hx hb dX2_packed_18 (by decide +kernel) ?_
    refine lv_isub hx hb dX2_packed_19 ?_
    refine lv_topi (fun z_3 ez_3 => ?_)
    have ez_3 : z_3 = nI (2 ^ lo - 1) := by rw [ez_3]; exact pk_sub p1
    subst ez_3
    refine lv_iand hx hb dX2_packed_20 ?_
    refine lv_topi (fun z_4 ez_4 => ?_)
    have ez_4 : z_4 = nI (met % 2 ^ lo) := by rw [ez_4]; rw [kb_and, Nat.and_two_pow_sub_one_eq_mod]
    subst ez_4
    refine kx_goi (va_runS (As := [.int (nI (met % 2 ^ lo))]) (rest := [.int 1]) ⟨hx, hb, hml, hown, hts⟩ (c_bits l D k0 w0 _ (met % 2 ^ lo) (by omega)) ⟨(kg_B (k := 1) hts tw_183 tw_181 tw_24 (by decide +kernel) rfl rfl ⟨Nat.le_of_ble_eq_true rfl, Nat.le_of_ble_eq_true rfl⟩), hts _ tw_182⟩ (kx_preS hN hK hP hD) rfl rfl hl.1 rfl (lv_room (Nat.le_of_ble_eq_true rfl)) dX2_packed_21 ⟨Nat.le_of_ble_eq_true rfl, Nat.le_of_ble_eq_true rfl⟩) hD hS hA (fun r_6 u_7 H locs hp_5 hP hD hS => ?_)
    obtain ⟨er_6, eu_7⟩ := hp_5
    rw [eu_7] at hP hD; subst er_6
    refine lv_topi (fun z_8 ez_8 => ?_)
    have ez_8 : z_8 = nI (pq_ix met lo) := by rw [ez_8]; rw [cf_card_mod met (by omega)]; rfl
    subst ez_8
    refine lv_ishl hx hb dX2_packed_24 ?_
    refine lv_topi (fun z_9 ez_9 => ?_)
    have ez_9 : z_9 = nI (2 ^ pq_ix met lo) := by rw [ez_9]; exact kb_one (by omega)
    subst ez_9
    refine lv_iconst (v := 1) hx hb dX2_packed_25 (by decide +kernel) ?_
    refine lv_iload_n hx hb dX2_packed_26 rfl (lv_at hl 3 rfl) ?_
    refine lv_iload_n hx hb dX2_packed_27 rfl (lv_at hl 0 rfl) ?_
    refine lv_iconst (v := nI 1) hx hb dX2_packed_28 (by decide +kernel) ?_
    refine lv_isub hx hb dX2_packed_29 ?_
    refine lv_topi (fun z_10 ez_10 => ?_)
    have ez_10 : z_10 = nI (2 ^ hi - 1) := by rw [ez_10]; exact pk_sub p2
    subst ez_10
    refine lv_iand hx hb dX2_packed_30 ?_
    refine lv_topi (fun z_11 ez_11 => ?_)
    have ez_11 : z_11 = nI (met % 2 ^ hi) := by rw [ez_11]; rw [kb_and, Nat.and_two_pow_sub_one_eq_mod]
    subst ez_11
    refine kx_goi (va_runS (As := [.int (nI (met % 2 ^ hi))]) (rest := [.int 1, .int (nI (2 ^ pq_ix met lo))]) ⟨hx, hb, hml, hown, hts⟩ (c_bits l D k0 w0 _ (met % 2 ^ hi) (by omega)) ⟨(kg_B (k := 1) hts tw_183 tw_181 tw_24 (by decide +kernel) rfl rfl ⟨Nat.le_of_ble_eq_true rfl, Nat.le_of_ble_eq_true rfl⟩), hts _ tw_182⟩ (kx_preS hN hK hP hD) rfl rfl hl.1 rfl (lv_room (Nat.le_of_ble_eq_true rfl)) dX2_packed_31 ⟨Nat.le_of_ble_eq_true rfl, Nat.le_of_ble_eq_true rfl⟩) hD hS hA (fun r_13 u_14 H locs hp_12 hP hD hS => ?_)
    obtain ⟨er_13, eu_14⟩ := hp_12
    rw [eu_14] at hP hD; subst er_13
    refine lv_topi (fun z_15 ez_15 => ?_)
    have ez_15 : z_15 = nI (pq_ix met hi) := by rw [ez_15]; rw [cf_card_mod met (by omega)]; rfl
    subst ez_15
    refine lv_ishl hx hb dX2_packed_34 ?_
    refine lv_topi (fun z_16 ez_16 => ?_)
    have ez_16 : z_16 = nI (2 ^ pq_ix met hi) := by rw [ez_16]; exact kb_one (by omega)
    subst ez_16
    refine lv_ior hx hb dX2_packed_35 ?_
    refine lv_topi (fun z_17 ez_17 => ?_)
    have ez_17 : z_17 = nI (pq_of met v) := by rw [ez_17]; rw [kb_or, pq_two hlh (by omega) hlo, ev]
    subst ez_17
    exact kx_iret (v := nI (pq_of met v)) hx hb hr rfl hlocks hK hP hD hS dX2_packed_36 (⟨rfl, rfl⟩)
  · skip
    have h0 : v = 0 := (kb_eq0 (Nat.lt_trans (gl_lt hv) (by decide))).mp c_1
    refine lv_iconst (v := nI 0) hx hb dX2_packed_4 (by decide +kernel) ?_
    exact kx_iret (v := nI 0) hx hb hr rfl hlocks hK hP hD hS dX2_packed_5 (⟨by rw [h0, pq_0], rfl⟩)

set_option maxHeartbeats 4000000 in
set_option maxRecDepth 100000 in
/-- draftPacked(graph, at, shift) -/
theorem c_draftPacked (l : Launch) (D : va_G) (k0 : Nat → ClassId) (w0 : va_W) (sz : Nat) (qo o a1 a2 a5 a8 : Nat) (hO : w0[qo]? = some (o, .inr (2, [.ref a1, .ref a2, .ref a5, .ref a8]))) (qd : Nat) (dr : Nat → Nat) (hd : w0[qd]? = some (a8, .inl (k0 0, 12, .inl (fun j => nI (dr j))))) (qg g ga gb : Nat) (L : Nat → Nat) (wt : Nat → Int32) (n : Nat) (vv oo : Int32) (hG : w0[qg]? = some (g, .inr (1, [.ref ga, .ref gb, .int (nI n), .int vv, .int oo]))) (hL : w0[qg + 1]? = some (ga, .inl (k0 0, 12, .inl (fun j => nI (L j))))) (hW : w0[qg + 2]? = some (gb, .inl (k0 0, 12, .inl wt))) (hap : qd ≠ qo ∧ qd ≠ qg ∧ qd ≠ qg + 1 ∧ qd ≠ qg + 2) (at9 sh : Nat) (hn : at9 + n ≤ 12) (hg2 : ∀ e, e < n → gl_two (L e)) (hsh : sh + cf_card 32 (me_of L n) ≤ 24) : kx_v l yX2_draftPacked wsX2_draftPacked ({ frames := 2, cells := 0, slots := 0, locals := 48 } : Room) D (tyL k0) w0 sz [.ref o, .ref g, .int (nI at9), .int (nI sh)] (fun (u : va_W) => u[qd]? = some (a8, .inl (k0 0, 12, .inl (fun j => nI (dp_d (fun e => pq_of (me_of L n) (L e) * 2 ^ sh) at9 dr n j)))) ∧ kx_fr w0 u (fun j => j = qd)) 0 0 := by
  refine kx_of (Qf := fun A => va_Qv (fun (u : va_W) => u[qd]? = some (a8, .inl (k0 0, 12, .inl (fun j => nI (dp_d (fun e => pq_of (me_of L n) (L e) * 2 ^ sh) at9 dr n j)))) ∧ kx_fr w0 u (fun j => j = qd)) (kx_B D (tyL k0) A) A) (cc := cX2_draftPacked) (maxL := 6) (ret := none) (by decide +kernel) (Nat.le_of_ble_eq_true rfl) ?_
  intro p e s m below meth c A ls hx hb hml hown hts hr hlocks hnm hN hK hP hD hS hA hl
  have hown : s.vm.findClass RX2 = some m.cls := hown
  have hl : lv_has ls 6 [(0, .ref o), (1, .ref g), (2, .int (nI at9)), (3, .int (nI sh))] := hl
  have hfr : kx_fr w0 w0 (fun j => j = qd) := kx_fr_rf _ _
  have hmet : me_of L n < 2 ^ 24 := me_lt fun e he => gl_lt (hg2 e he)
  refine lv_aload_n hx hb dX2_draftPacked_0 rfl (lv_at hl 1 rfl) ?_
  refine kx_goi (va_runV (As := []) (rest := []) ⟨hx, hb, hml, hown, hts⟩ (c_met l D k0 w0 _ qg g ga gb L wt n vv oo hG hL hW (by omega)) ⟨(kg_B (k := 0) hts tw_177 tw_174 tw_21 (by decide +kernel) rfl rfl ⟨Nat.le_of_ble_eq_true rfl, Nat.le_of_ble_eq_true rfl⟩), hts _ tw_175, hts _ tw_176⟩ (kx_preV hN hK hP hD rfl hG) rfl rfl hl.1 rfl (lv_room (Nat.le_of_ble_eq_true rfl)) dX2_draftPacked_1 ⟨Nat.le_of_ble_eq_true rfl, Nat.le_of_ble_eq_true rfl⟩) hD hS hA (fun r_2 u_3 H locs hp_1 hP hD hS => ?_)
  obtain ⟨er_2, eu_3⟩ := hp_1
  rw [eu_3] at hP hD; subst er_2
  refine lv_istore (lv' := [(4, .int (nI (me_of L n))), (0, .ref o), (1, .ref g), (2, .int (nI at9)), (3, .int (nI sh))]) hx hb dX2_draftPacked_4 hl (by decide) rfl (fun ls hl => ?_)
  refine lv_iconst (v := nI 0) hx hb dX2_draftPacked_6 (by decide +kernel) ?_
  refine lv_istore (lv' := [(5, .int (nI 0)), (4, .int (nI (me_of L n))), (0, .ref o), (1, .ref g), (2, .int (nI at9)), (3, .int (nI sh))]) hx hb dX2_draftPacked_7 hl (by decide) rfl (fun ls hl => ?_)
  have loop_9 : ∀ (n9 : Nat) (e9 : Nat), (e9 ≤ n) → (n + 1 ≤ e9 + n9) → ∀ (w1 : va_W), w1[qo]? = some (o, .inr (2, [.ref a1, .ref a2, .ref a5, .ref a8])) → w1[qd]? = some (a8, .inl (k0 0, 12, .inl (fun y9 => nI ((dp_d (fun e => pq_of (me_of L n) (L e) * 2 ^ sh) at9 dr e9) y9)))) → w1[qg]? = some (g, .inr (1, [.ref ga, .ref gb, .int (nI n), .int vv, .int oo])) → w1[qg + 1]? = some (ga, .inl (k0 0, 12, .inl (fun y9 => nI (L y9)))) → w1[qg + 2]? = some (gb, .inl (k0 0, 12, .inl wt)) → kx_fr w0 w1 (fun j => j = qd) → ∀ (H : Heap) (locs : List Loc), va_P D vwCl w1 H → va_D A w1 → va_S A s.heap H locs → ∀ (ls : Array Slot), lv_has ls 6 [(5, .int (nI e9)), (4, .int (nI (me_of L n))), (0, .ref o), (1, .ref g), (2, .int (nI at9)), (3, .int (nI sh))] → W p l e ({ frames := 2, cells := 0, slots := 0, locals := 48 } : Room) s m ([.ref o, .ref g, .int (nI at9), .int (nI sh)] : List Value).toArray below meth c H locs 0 0 (MQ below (va_Qv (fun (u : va_W) => u[qd]? = some (a8, .inl (k0 0, 12, .inl (fun j => nI (dp_d (fun e => pq_of (me_of L n) (L e) * 2 ^ sh) at9 dr n j)))) ∧ kx_fr w0 u (fun j => j = qd)) (kx_B D (tyL k0) A) A) ([.ref o, .ref g, .int (nI at9), .int (nI sh)] : List Value).toArray s 0 0 A) (F0 m 9 ls []) := by
    intro n9
    induction n9 with
    | zero =>
      intro e9 he hme
      exact absurd hme (by omega)
    | succ n9 ih9 =>
      intro e9 he hme w1 F9_0 F9_1 F9_2 F9_3 F9_4 hfr H locs hP hD hS ls hl
      refine lv_iload hx hb dX2_draftPacked_9 (lv_at hl 0 rfl) ?_
      refine lv_aload_n hx hb dX2_draftPacked_11 rfl (lv_at hl 3 rfl) ?_
      refine va_get (D := D) (ci := 1) (v := .int (nI n)) (C := RX1) (T := TX1) (N := 5) hx hb hts inX1 hown hK hP qg F9_2 rfl 2 (by decide) (hts _ tw_64) (fun _ h9 => h9) rfl dX2_draftPacked_12 ?_
      refine lv_icmp_ge (tgt := 56) hx hb dX2_draftPacked_15 (by decide) (fun c_15 => ?_) (fun c_15 => ?_)
      · skip
        have hik : e9 = n := by
          have := (nI_leI (by omega) (by omega)).mp c_15
          omega
        subst hik
        exact kx_vret hx hb hr hlocks hK hP hD hS dX2_draftPacked_56 (⟨F9_1, hfr⟩)
      · skip
        have hik : e9 < n := by
          rcases Nat.lt_or_ge (e9) (n) with h | h
          · exact h
          · exact absurd ((nI_leI (by omega) (by omega)).mpr h) c_15
        refine lv_iload_n hx hb dX2_draftPacked_18 rfl (lv_at hl 4 rfl) ?_
        refine lv_iload hx hb dX2_draftPacked_19 (lv_at hl 0 rfl) ?_
        refine lv_iadd hx hb dX2_draftPacked_21 ?_
        refine lv_topi (fun z_4 ez_4 => ?_)
        have ez_4 : z_4 = nI (at9 + e9) := by rw [ez_4]; exact nI_add _ _
        subst ez_4
        refine lv_bipush (v := nI 12) hx hb dX2_draftPacked_22 (by decide +kernel) ?_
        refine lv_icmp_ge (tgt := 56) hx hb dX2_draftPacked_24 (by decide) (fun c_24 => ?_) (fun c_24 => ?_)
        · skip
          exact absurd c_24 (nI_ge (by omega) (by omega))
        · skip
          refine lv_aload_n hx hb dX2_draftPacked_27 rfl (lv_at hl 2 rfl) ?_
          refine va_get (D := D) (ci := 2) (v := .ref a8) (C := RX2) (T := TX2) (N := 4) hx hb hts inX2 hown hK hP qo F9_0 rfl 3 (by decide) (hts _ tw_81) (fun _ h9 => h9) rfl dX2_draftPacked_28 ?_
          refine lv_iload_n hx hb dX2_draftPacked_31 rfl (lv_at hl 4 rfl) ?_
          refine lv_iload hx hb dX2_draftPacked_32 (lv_at hl 0 rfl) ?_
          refine lv_iadd hx hb dX2_draftPacked_34 ?_
          refine lv_topi (fun z_5 ez_5 => ?_)
          have ez_5 : z_5 = nI (at9 + e9) := by rw [ez_5]; exact nI_add _ _
          subst ez_5
          refine lv_aload_n hx hb dX2_draftPacked_35 rfl (lv_at hl 3 rfl) ?_
          refine va_get (D := D) (ci := 1) (v := .ref ga) (C := RX1) (T := TX1) (N := 5) hx hb hts inX1 hown hK hP qg F9_2 rfl 0 (by decide) (hts _ tw_59) (fun _ h9 => h9) rfl dX2_draftPacked_36 ?_
          refine lv_iload hx hb dX2_draftPacked_39 (lv_at hl 0 rfl) ?_
          refine kx_nald hx hb hK hP (qg + 1) F9_3 rfl (i := e9) (by omega) (by decide) dX2_draftPacked_41 ?_
          refine lv_iload hx hb dX2_draftPacked_42 (lv_at hl 1 rfl) ?_
          refine kx_goi (va_runS (As := [.int (nI (L e9)), .int (nI (me_of L n))]) (rest := [.int (nI (at9 + e9)), .ref a8]) ⟨hx, hb, hml, hown, hts⟩ (c_packed l D k0 w1 _ (L e9) (me_of L n) (hg2 e9 hik) (me_sub hik) hmet) ⟨(kg_B (k := 2) hts tw_180 tw_178 tw_19 (by decide +kernel) rfl rfl ⟨Nat.le_of_ble_eq_true rfl, Nat.le_of_ble_eq_true rfl⟩), hts _ tw_179⟩ (kx_preS hN hK hP hD) rfl rfl hl.1 rfl (lv_room (Nat.le_of_ble_eq_true rfl)) dX2_draftPacked_44 ⟨Nat.le_of_ble_eq_true rfl, Nat.le_of_ble_eq_true rfl⟩) hD hS hA (fun r_7 u_8 H locs hp_6 hP hD hS => ?_)
          obtain ⟨er_7, eu_8⟩ := hp_6
          rw [eu_8] at hP hD; subst er_7
          refine lv_iload_n hx hb dX2_draftPacked_47 rfl (lv_at hl 5 rfl) ?_
          refine lv_ishl hx hb dX2_draftPacked_48 ?_
          refine lv_topi (fun z_9 ez_9 => ?_)
          have ez_9 : z_9 = nI (pq_of (me_of L n) (L e9) * 2 ^ sh) := by rw [ez_9]; exact kb_shl (by omega) (by
                  have k1 := pq_lt (me_sub (L := L) hik) (Nat.lt_trans hmet (by decide))
                  have k2 : pq_of (me_of L n) (L e9) * 2 ^ sh < 2 ^ cf_card 32 (me_of L n) * 2 ^ sh := Nat.mul_lt_mul_of_pos_right k1 (Nat.two_pow_pos sh)
                  rw [← Nat.pow_add] at k2
                  have k3 : 2 ^ (cf_card 32 (me_of L n) + sh) ≤ 2 ^ 24 := Nat.pow_le_pow_right (by omega) (by omega)
                  omega)
          subst ez_9
          refine kx_nast hx hb hK hP hD hS qd F9_1 rfl (i := (at9 + e9)) (x := (pq_of (me_of L n) (L e9) * 2 ^ sh)) (by omega) (by decide) dX2_draftPacked_49 (fun H locs hP hD hS => ?_)
          obtain ⟨w_10, ew_10⟩ : ∃ w, w = w1.set qd (a8, .inl (k0 0, 12, .inl (fun y9 => nI ((fo_up (dp_d (fun e => pq_of (me_of L n) (L e) * 2 ^ sh) at9 dr e9) (at9 + e9) (pq_of (me_of L n) (L e9) * 2 ^ sh)) y9)))) := ⟨_, rfl⟩
          have hP : va_P D vwCl w_10 H := by rw [ew_10]; exact hP
          have hD : va_D A w_10 := by rw [ew_10]; exact hD
          have f_11 : w_10[qo]? = some (o, .inr (2, [.ref a1, .ref a2, .ref a5, .ref a8])) := by rw [ew_10]; exact kx_set_ne F9_0 (by omega)
          have f_12 : w_10[qd]? = some (a8, .inl (k0 0, 12, .inl (fun y9 => nI ((fo_up (dp_d (fun e => pq_of (me_of L n) (L e) * 2 ^ sh) at9 dr e9) (at9 + e9) (pq_of (me_of L n) (L e9) * 2 ^ sh)) y9)))) := by rw [ew_10]; exact kx_set_self F9_1
          have f_13 : w_10[qg]? = some (g, .inr (1, [.ref ga, .ref gb, .int (nI n), .int vv, .int oo])) := by rw [ew_10]; exact kx_set_ne F9_2 (by omega)
          have f_14 : w_10[qg + 1]? = some (ga, .inl (k0 0, 12, .inl (fun y9 => nI (L y9)))) := by rw [ew_10]; exact kx_set_ne F9_3 (by omega)
          have f_15 : w_10[qg + 2]? = some (gb, .inl (k0 0, 12, .inl wt)) := by rw [ew_10]; exact kx_set_ne F9_4 (by omega)
          have hfr : kx_fr w0 w_10 (fun j => j = qd) := kx_fr_tr hfr (by rw [ew_10]; exact kx_fr_set (by omega))
          refine lv_iinc (v := nI (e9 + 1)) (lv' := [(5, .int (nI (e9 + 1))), (4, .int (nI (me_of L n))), (0, .ref o), (1, .ref g), (2, .int (nI at9)), (3, .int (nI sh))]) hx hb dX2_draftPacked_50 hl (k := 0) rfl (nI_1 _) (by decide) rfl (fun ls hl => ?_)
          refine lv_goto (tgt := 9) hx hb dX2_draftPacked_53 (by decide) ?_
          exact ih9 (e9 + 1) (by omega) (by omega) w_10 f_11 f_12 f_13 f_14 f_15 hfr _ _ hP hD hS _ (lv_sub hl [0, 1, 2, 3, 4, 5] rfl)
  exact loop_9 (n + 1) 0 (Nat.zero_le n) (by omega) w0 hO hd hG hL hW hfr _ _ hP hD hS _ (lv_sub hl [0, 1, 2, 3, 4, 5] rfl)

set_option maxHeartbeats 4000000 in
set_option maxRecDepth 100000 in
/-- beside(to, g, h) -/
theorem c_beside (l : Launch) (D : va_G) (k0 : Nat → ClassId) (w0 : va_W) (sz : Nat) (b : Nat) (ad nE nV : Nat → Nat) (op : Nat → Int32) (LL : Nat → Nat → Nat) (ww : Nat → Nat → Int32) (hC : atC w0 b k0 ad nE nV op LL ww) (hI : cinv nE nV LL ww) (x y z : Int32) : kx_i l yX2_beside wsX2_beside ({ frames := 3, cells := 0, slots := 0, locals := 80 } : Room) D (tyL k0) w0 sz [.ref (ad 0), .int x, .int y, .int z] (fun (r : Int32) (u : va_W) => ((∃ t i j, t < 8 ∧ i < 8 ∧ j < 8 ∧ nE i + nE j ≤ 12 ∧ x = nI t ∧ y = nI i ∧ z = nI j ∧ r = nI (nE i + nE j) ∧ ∃ (L9 : Nat → Nat) (f9 : Nat → Int32), atC u b k0 ad (va_up nE t (nE i + nE j)) (va_up nV t (nV t)) (va_up op t 0) (va_up LL t L9) (va_up ww t f9) ∧ (∀ k, k < nE i + nE j → L9 k = bs_L (fun e => pq_of (me_of (LL i) (nE i)) (LL i e)) (fun e => pq_of (me_of (LL j) (nE j)) (LL j e)) (nE i) (cf_card 32 (me_of (LL i) (nE i))) k) ∧ ∀ k, k < nE i + nE j → f9 k = 0) ∨ (¬ (∃ t i j, t < 8 ∧ i < 8 ∧ j < 8 ∧ nE i + nE j ≤ 12 ∧ x = nI t ∧ y = nI i ∧ z = nI j) ∧ r = -1 ∧ u = w0)) ∧ kx_fr w0 u (fun j => b ≤ j ∧ j < b + 33)) 0 0 := by
  refine kx_of (Qf := fun A => va_Qi (fun (r : Int32) (u : va_W) => ((∃ t i j, t < 8 ∧ i < 8 ∧ j < 8 ∧ nE i + nE j ≤ 12 ∧ x = nI t ∧ y = nI i ∧ z = nI j ∧ r = nI (nE i + nE j) ∧ ∃ (L9 : Nat → Nat) (f9 : Nat → Int32), atC u b k0 ad (va_up nE t (nE i + nE j)) (va_up nV t (nV t)) (va_up op t 0) (va_up LL t L9) (va_up ww t f9) ∧ (∀ k, k < nE i + nE j → L9 k = bs_L (fun e => pq_of (me_of (LL i) (nE i)) (LL i e)) (fun e => pq_of (me_of (LL j) (nE j)) (LL j e)) (nE i) (cf_card 32 (me_of (LL i) (nE i))) k) ∧ ∀ k, k < nE i + nE j → f9 k = 0) ∨ (¬ (∃ t i j, t < 8 ∧ i < 8 ∧ j < 8 ∧ nE i + nE j ≤ 12 ∧ x = nI t ∧ y = nI i ∧ z = nI j) ∧ r = -1 ∧ u = w0)) ∧ kx_fr w0 u (fun j => b ≤ j ∧ j < b + 33)) (kx_B D (tyL k0) A) A) (cc := cX2_beside) (maxL := 6) (ret := (some .int)) (by decide +kernel) (Nat.le_of_ble_eq_true rfl) ?_
  intro p e s m below meth c A ls hx hb hml hown hts hr hlocks hnm hN hK hP hD hS hA hl
  have hown : s.vm.findClass RX2 = some m.cls := hown
  have hl : lv_has ls 6 [(0, .ref (ad 0)), (1, .int x), (2, .int y), (3, .int z)] := hl
  have hfr : kx_fr w0 w0 (fun j => j = b + 8) := kx_fr_rf _ _
  obtain ⟨hO, ⟨fq, hQ, hfq⟩, ⟨r1, p1, k1, hF1, hR1, hT1⟩, ⟨r2, p2, k2, hF2, hR2, hT2⟩, ⟨dr, hd⟩, hgs⟩ := id hC
  refine lv_iload_n hx hb dX2_beside_0 rfl (lv_at hl 1 rfl) ?_
  refine kx_goi (va_runS (As := [.int x]) (rest := []) ⟨hx, hb, hml, hown, hts⟩ (c_isGraph l D k0 w0 _ x) ⟨(kg_B (k := 1) hts tw_97 tw_95 tw_19 (by decide +kernel) rfl rfl ⟨Nat.le_of_ble_eq_true rfl, Nat.le_of_ble_eq_true rfl⟩), hts _ tw_96⟩ (kx_preS hN hK hP hD) rfl rfl hl.1 rfl (lv_room (Nat.le_of_ble_eq_true rfl)) dX2_beside_1 ⟨Nat.le_of_ble_eq_true rfl, Nat.le_of_ble_eq_true rfl⟩) hD hS hA (fun r_2 u_3 H locs hp_1 hP hD hS => ?_)
  obtain ⟨hy_x, eu⟩ := hp_1
  rw [eu] at hP hD
  refine lv_if_eq (tgt := 21) hx hb dX2_beside_4 (by decide) (fun c_4 => ?_) (fun c_4 => ?_)
  · skip
    have hno0 := kg_0 hy_x c_4
    have hno : ¬ (∃ t i j, t < 8 ∧ i < 8 ∧ j < 8 ∧ nE i + nE j ≤ 12 ∧ x = nI t ∧ y = nI i ∧ z = nI j) := fun ⟨t, _, _, h1, _, _, _, h2, _⟩ => hno0 ⟨t, h1, h2⟩
    refine lv_iconst (v := -1) hx hb dX2_beside_21 (by decide +kernel) ?_
    exact kx_iret (v := -1) hx hb hr rfl hlocks hK hP hD hS dX2_beside_22 (⟨Or.inr ⟨hno, rfl, rfl⟩, kx_fr_rf _ _⟩)
  · skip
    obtain ⟨t, h8t, e_x⟩ := kg_1 hy_x c_4
    rw [e_x] at hl
    obtain ⟨hGt, hLt, hWt⟩ := hgs t h8t
    obtain ⟨hnt, hvt, hl2t, hw2t⟩ := hI t h8t
    refine lv_iload_n hx hb dX2_beside_7 rfl (lv_at hl 2 rfl) ?_
    refine kx_goi (va_runS (As := [.int y]) (rest := []) ⟨hx, hb, hml, hown, hts⟩ (c_isGraph l D k0 w0 _ y) ⟨(kg_B (k := 1) hts tw_97 tw_95 tw_19 (by decide +kernel) rfl rfl ⟨Nat.le_of_ble_eq_true rfl, Nat.le_of_ble_eq_true rfl⟩), hts _ tw_96⟩ (kx_preS hN hK hP hD) rfl rfl hl.1 rfl (lv_room (Nat.le_of_ble_eq_true rfl)) dX2_beside_8 ⟨Nat.le_of_ble_eq_true rfl, Nat.le_of_ble_eq_true rfl⟩) hD hS hA (fun r_5 u_6 H locs hp_4 hP hD hS => ?_)
    obtain ⟨hy_y, eu⟩ := hp_4
    rw [eu] at hP hD
    refine lv_if_eq (tgt := 21) hx hb dX2_beside_11 (by decide) (fun c_11 => ?_) (fun c_11 => ?_)
    · skip
      have hno0 := kg_0 hy_y c_11
      have hno : ¬ (∃ t i j, t < 8 ∧ i < 8 ∧ j < 8 ∧ nE i + nE j ≤ 12 ∧ x = nI t ∧ y = nI i ∧ z = nI j) := fun ⟨_, i, _, _, h1, _, _, _, h2, _⟩ => hno0 ⟨i, h1, h2⟩
      refine lv_iconst (v := -1) hx hb dX2_beside_21 (by decide +kernel) ?_
      exact kx_iret (v := -1) hx hb hr rfl hlocks hK hP hD hS dX2_beside_22 (⟨Or.inr ⟨hno, rfl, rfl⟩, kx_fr_rf _ _⟩)
    · skip
      obtain ⟨i, h8i, e_y⟩ := kg_1 hy_y c_11
      rw [e_y] at hl
      obtain ⟨hGi, hLi, hWi⟩ := hgs i h8i
      obtain ⟨hni, hvi, hl2i, hw2i⟩ := hI i h8i
      refine lv_iload_n hx hb dX2_beside_14 rfl (lv_at hl 3 rfl) ?_
      refine kx_goi (va_runS (As := [.int z]) (rest := []) ⟨hx, hb, hml, hown, hts⟩ (c_isGraph l D k0 w0 _ z) ⟨(kg_B (k := 1) hts tw_97 tw_95 tw_19 (by decide +kernel) rfl rfl ⟨Nat.le_of_ble_eq_true rfl, Nat.le_of_ble_eq_true rfl⟩), hts _ tw_96⟩ (kx_preS hN hK hP hD) rfl rfl hl.1 rfl (lv_room (Nat.le_of_ble_eq_true rfl)) dX2_beside_15 ⟨Nat.le_of_ble_eq_true rfl, Nat.le_of_ble_eq_true rfl⟩) hD hS hA (fun r_8 u_9 H locs hp_7 hP hD hS => ?_)
      obtain ⟨hy_z, eu⟩ := hp_7
      rw [eu] at hP hD
      refine lv_if_ne (tgt := 23) hx hb dX2_beside_18 (by decide) (fun c_18 => ?_) (fun c_18 => ?_)
      · skip
        obtain ⟨j, h8j, e_z⟩ := kg_1 hy_z c_18
        rw [e_z] at hl
        obtain ⟨hGj, hLj, hWj⟩ := hgs j h8j
        obtain ⟨hnj, hvj, hl2j, hw2j⟩ := hI j h8j
        have hc1 := me_card hl2i
        have hc2 := me_card hl2j
        have hm1 : (me_of (LL i) (nE i)) < 2 ^ 24 := me_lt fun e he => gl_lt (hl2i e he)
        refine lv_aload_n hx hb dX2_beside_23 rfl (lv_at hl 0 rfl) ?_
        refine va_get (D := D) (ci := 2) (v := .ref (ad 1)) (C := RX2) (T := TX2) (N := 4) hx hb hts inX2 hown hK hP b hO rfl 0 (by decide) (hts _ tw_78) (fun _ h9 => h9) rfl dX2_beside_24 ?_
        refine lv_iload_n hx hb dX2_beside_27 rfl (lv_at hl 2 rfl) ?_
        refine kx_qald hx hb hK hP (b + 1) 1 hQ rfl (i := i) (r := (ad (9 + 3 * i))) (by omega) (by decide) (hfq _ (by omega)) dX2_beside_28 ?_
        refine va_get (D := D) (ci := 1) (v := .int (nI (nE i))) (C := RX1) (T := TX1) (N := 5) hx hb hts inX1 hown hK hP (b + 9 + 3 * i) hGi rfl 2 (by decide) (hts _ tw_64) (fun _ h9 => h9) rfl dX2_beside_29 ?_
        refine lv_istore (lv' := [(4, .int (nI (nE i))), (0, .ref (ad 0)), (1, .int (nI t)), (2, .int (nI i)), (3, .int (nI j))]) hx hb dX2_beside_32 hl (by decide) rfl (fun ls hl => ?_)
        refine lv_iload hx hb dX2_beside_34 (lv_at hl 0 rfl) ?_
        refine lv_aload_n hx hb dX2_beside_36 rfl (lv_at hl 1 rfl) ?_
        refine va_get (D := D) (ci := 2) (v := .ref (ad 1)) (C := RX2) (T := TX2) (N := 4) hx hb hts inX2 hown hK hP b hO rfl 0 (by decide) (hts _ tw_78) (fun _ h9 => h9) rfl dX2_beside_37 ?_
        refine lv_iload_n hx hb dX2_beside_40 rfl (lv_at hl 4 rfl) ?_
        refine kx_qald hx hb hK hP (b + 1) 1 hQ rfl (i := j) (r := (ad (9 + 3 * j))) (by omega) (by decide) (hfq _ (by omega)) dX2_beside_41 ?_
        refine va_get (D := D) (ci := 1) (v := .int (nI (nE j))) (C := RX1) (T := TX1) (N := 5) hx hb hts inX1 hown hK hP (b + 9 + 3 * j) hGj rfl 2 (by decide) (hts _ tw_64) (fun _ h9 => h9) rfl dX2_beside_42 ?_
        refine lv_iadd hx hb dX2_beside_45 ?_
        refine lv_topi (fun z_10 ez_10 => ?_)
        have ez_10 : z_10 = nI (nE i + nE j) := by rw [ez_10]; exact nI_add _ _
        subst ez_10
        refine lv_istore (lv' := [(5, .int (nI (nE i + nE j))), (4, .int (nI (nE i))), (0, .ref (ad 0)), (1, .int (nI t)), (2, .int (nI i)), (3, .int (nI j))]) hx hb dX2_beside_46 hl (by decide) rfl (fun ls hl => ?_)
        refine lv_iload hx hb dX2_beside_48 (lv_at hl 0 rfl) ?_
        refine lv_bipush (v := nI 12) hx hb dX2_beside_50 (by decide +kernel) ?_
        refine lv_icmp_le (tgt := 57) hx hb dX2_beside_52 (by decide) (fun c_52 => ?_) (fun c_52 => ?_)
        · skip
          have h12 : nE i + nE j ≤ 12 := (nI_leI (by omega) (by omega)).mp c_52
          refine lv_aload_n hx hb dX2_beside_57 rfl (lv_at hl 2 rfl) ?_
          refine lv_aload_n hx hb dX2_beside_58 rfl (lv_at hl 2 rfl) ?_
          refine va_get (D := D) (ci := 2) (v := .ref (ad 1)) (C := RX2) (T := TX2) (N := 4) hx hb hts inX2 hown hK hP b hO rfl 0 (by decide) (hts _ tw_78) (fun _ h9 => h9) rfl dX2_beside_59 ?_
          refine lv_iload_n hx hb dX2_beside_62 rfl (lv_at hl 4 rfl) ?_
          refine kx_qald hx hb hK hP (b + 1) 1 hQ rfl (i := i) (r := (ad (9 + 3 * i))) (by omega) (by decide) (hfq _ (by omega)) dX2_beside_63 ?_
          refine lv_iconst (v := nI 0) hx hb dX2_beside_64 (by decide +kernel) ?_
          refine lv_iconst (v := nI 0) hx hb dX2_beside_65 (by decide +kernel) ?_
          refine kx_gov (va_runV (As := [.ref (ad (9 + 3 * i)), .int (nI 0), .int (nI 0)]) (rest := []) ⟨hx, hb, hml, hown, hts⟩ (c_draftPacked l D k0 w0 _ b (ad 0) (ad 1) (ad 2) (ad 5) (ad 8) hO (b + 8) (dr) hd (b + 9 + 3 * i) (ad (9 + 3 * i)) (ad (10 + 3 * i)) (ad (11 + 3 * i)) (LL i) (ww i) (nE i) (nI (nV i)) (op i) hGi hLi hWi ⟨by omega, by omega, by omega, by omega⟩ 0 0 (by omega) hl2i (by omega)) ⟨(kg_B (k := 3) hts tw_173 tw_170 tw_19 (by decide +kernel) rfl rfl ⟨Nat.le_of_ble_eq_true rfl, Nat.le_of_ble_eq_true rfl⟩), hts _ tw_172, hts _ tw_2⟩ (kx_preV hN hK hP hD rfl hO) rfl rfl hl.1 rfl (lv_room (Nat.le_of_ble_eq_true rfl)) dX2_beside_66 ⟨Nat.le_of_ble_eq_true rfl, Nat.le_of_ble_eq_true rfl⟩) hD hS hA (fun u_13 H locs hp_11 hP hD hS => ?_)
          obtain ⟨hd9, hq⟩ := hp_11
          have f_14 : u_13[b]? = some (ad 0, .inr (2, [.ref (ad 1), .ref (ad 2), .ref (ad 5), .ref (ad 8)])) := by rw [hq _ (by omega)]; exact hO
          have f_15 : u_13[b + 1]? = some (ad 1, .inl (k0 1, 8, .inr (.inr (.inr (.inr fq))))) := by rw [hq _ (by omega)]; exact hQ
          have f_16 : u_13[b + 8]? = some (ad 8, .inl (k0 0, 12, .inl (fun y9 => nI ((dp_d (fun e => pq_of (me_of (LL i) (nE i)) (LL i e) * 2 ^ 0) 0 dr (nE i)) y9)))) := hd9
          have f_17 : u_13[b + 9 + 3 * t]? = some (ad (9 + 3 * t), .inr (1, [.ref (ad (10 + 3 * t)), .ref (ad (11 + 3 * t)), .int (nI (nE t)), .int (nI (nV t)), .int (op t)])) := by rw [hq _ (by omega)]; exact hGt
          have f_18 : u_13[b + 9 + 3 * t + 1]? = some (ad (10 + 3 * t), .inl (k0 0, 12, .inl (fun y9 => nI ((LL t) y9)))) := by rw [hq _ (by omega)]; exact hLt
          have f_19 : u_13[b + 9 + 3 * t + 2]? = some (ad (11 + 3 * t), .inl (k0 0, 12, .inl (ww t))) := by rw [hq _ (by omega)]; exact hWt
          have f_20 : u_13[b + 9 + 3 * i]? = some (ad (9 + 3 * i), .inr (1, [.ref (ad (10 + 3 * i)), .ref (ad (11 + 3 * i)), .int (nI (nE i)), .int (nI (nV i)), .int (op i)])) := by rw [hq _ (by omega)]; exact hGi
          have f_21 : u_13[b + 9 + 3 * i + 1]? = some (ad (10 + 3 * i), .inl (k0 0, 12, .inl (fun y9 => nI ((LL i) y9)))) := by rw [hq _ (by omega)]; exact hLi
          have f_22 : u_13[b + 9 + 3 * i + 2]? = some (ad (11 + 3 * i), .inl (k0 0, 12, .inl (ww i))) := by rw [hq _ (by omega)]; exact hWi
          have f_23 : u_13[b + 9 + 3 * j]? = some (ad (9 + 3 * j), .inr (1, [.ref (ad (10 + 3 * j)), .ref (ad (11 + 3 * j)), .int (nI (nE j)), .int (nI (nV j)), .int (op j)])) := by rw [hq _ (by omega)]; exact hGj
          have f_24 : u_13[b + 9 + 3 * j + 1]? = some (ad (10 + 3 * j), .inl (k0 0, 12, .inl (fun y9 => nI ((LL j) y9)))) := by rw [hq _ (by omega)]; exact hLj
          have f_25 : u_13[b + 9 + 3 * j + 2]? = some (ad (11 + 3 * j), .inl (k0 0, 12, .inl (ww j))) := by rw [hq _ (by omega)]; exact hWj
          have hfr : kx_fr w0 u_13 (fun j => j = b + 8) := kx_fr_tr hfr (kx_fr_mono hq (fun j h => h))
          refine lv_aload_n hx hb dX2_beside_69 rfl (lv_at hl 2 rfl) ?_
          refine lv_aload_n hx hb dX2_beside_70 rfl (lv_at hl 2 rfl) ?_
          refine va_get (D := D) (ci := 2) (v := .ref (ad 1)) (C := RX2) (T := TX2) (N := 4) hx hb hts inX2 hown hK hP b f_14 rfl 0 (by decide) (hts _ tw_78) (fun _ h9 => h9) rfl dX2_beside_71 ?_
          refine lv_iload_n hx hb dX2_beside_74 rfl (lv_at hl 5 rfl) ?_
          refine kx_qald hx hb hK hP (b + 1) 1 f_15 rfl (i := j) (r := (ad (9 + 3 * j))) (by omega) (by decide) (hfq _ (by omega)) dX2_beside_75 ?_
          refine lv_iload hx hb dX2_beside_76 (lv_at hl 1 rfl) ?_
          refine lv_aload_n hx hb dX2_beside_78 rfl (lv_at hl 2 rfl) ?_
          refine va_get (D := D) (ci := 2) (v := .ref (ad 1)) (C := RX2) (T := TX2) (N := 4) hx hb hts inX2 hown hK hP b f_14 rfl 0 (by decide) (hts _ tw_78) (fun _ h9 => h9) rfl dX2_beside_79 ?_
          refine lv_iload_n hx hb dX2_beside_82 rfl (lv_at hl 4 rfl) ?_
          refine kx_qald hx hb hK hP (b + 1) 1 f_15 rfl (i := i) (r := (ad (9 + 3 * i))) (by omega) (by decide) (hfq _ (by omega)) dX2_beside_83 ?_
          refine kx_goi (va_runV (As := []) (rest := [.int (nI (nE i)), .ref (ad (9 + 3 * j)), .ref (ad 0)]) ⟨hx, hb, hml, hown, hts⟩ (c_met l D k0 u_13 _ (b + 9 + 3 * i) (ad (9 + 3 * i)) (ad (10 + 3 * i)) (ad (11 + 3 * i)) (LL i) (ww i) (nE i) (nI (nV i)) (op i) f_20 f_21 f_22 hni) ⟨(kg_B (k := 0) hts tw_177 tw_174 tw_21 (by decide +kernel) rfl rfl ⟨Nat.le_of_ble_eq_true rfl, Nat.le_of_ble_eq_true rfl⟩), hts _ tw_175, hts _ tw_176⟩ (kx_preV hN hK hP hD rfl f_20) rfl rfl hl.1 rfl (lv_room (Nat.le_of_ble_eq_true rfl)) dX2_beside_84 ⟨Nat.le_of_ble_eq_true rfl, Nat.le_of_ble_eq_true rfl⟩) hD hS hA (fun r_27 u_28 H locs hp_26 hP hD hS => ?_)
          obtain ⟨er_27, eu_28⟩ := hp_26
          rw [eu_28] at hP hD; subst er_27
          refine kx_goi (va_runS (As := [.int (nI (me_of (LL i) (nE i)))]) (rest := [.int (nI (nE i)), .ref (ad (9 + 3 * j)), .ref (ad 0)]) ⟨hx, hb, hml, hown, hts⟩ (c_bits l D k0 u_13 _ (me_of (LL i) (nE i)) (by omega)) ⟨(kg_B (k := 1) hts tw_183 tw_181 tw_24 (by decide +kernel) rfl rfl ⟨Nat.le_of_ble_eq_true rfl, Nat.le_of_ble_eq_true rfl⟩), hts _ tw_182⟩ (kx_preS hN hK hP hD) rfl rfl hl.1 rfl (lv_room (Nat.le_of_ble_eq_true rfl)) dX2_beside_87 ⟨Nat.le_of_ble_eq_true rfl, Nat.le_of_ble_eq_true rfl⟩) hD hS hA (fun r_30 u_31 H locs hp_29 hP hD hS => ?_)
          obtain ⟨er_30, eu_31⟩ := hp_29
          rw [eu_31] at hP hD; subst er_30
          refine kx_gov (va_runV (As := [.ref (ad (9 + 3 * j)), .int (nI (nE i)), .int (nI (cf_card 32 (me_of (LL i) (nE i))))]) (rest := []) ⟨hx, hb, hml, hown, hts⟩ (c_draftPacked l D k0 u_13 _ b (ad 0) (ad 1) (ad 2) (ad 5) (ad 8) f_14 (b + 8) (dp_d (fun e => pq_of (me_of (LL i) (nE i)) (LL i e) * 2 ^ 0) 0 dr (nE i)) f_16 (b + 9 + 3 * j) (ad (9 + 3 * j)) (ad (10 + 3 * j)) (ad (11 + 3 * j)) (LL j) (ww j) (nE j) (nI (nV j)) (op j) f_23 f_24 f_25 ⟨by omega, by omega, by omega, by omega⟩ (nE i) (cf_card 32 (me_of (LL i) (nE i))) (by omega) hl2j (by omega)) ⟨(kg_B (k := 3) hts tw_173 tw_170 tw_19 (by decide +kernel) rfl rfl ⟨Nat.le_of_ble_eq_true rfl, Nat.le_of_ble_eq_true rfl⟩), hts _ tw_172, hts _ tw_2⟩ (kx_preV hN hK hP hD rfl f_14) rfl rfl hl.1 rfl (lv_room (Nat.le_of_ble_eq_true rfl)) dX2_beside_90 ⟨Nat.le_of_ble_eq_true rfl, Nat.le_of_ble_eq_true rfl⟩) hD hS hA (fun u_34 H locs hp_32 hP hD hS => ?_)
          obtain ⟨hd9, hq⟩ := hp_32
          have f_35 : u_34[b]? = some (ad 0, .inr (2, [.ref (ad 1), .ref (ad 2), .ref (ad 5), .ref (ad 8)])) := by rw [hq _ (by omega)]; exact f_14
          have f_36 : u_34[b + 1]? = some (ad 1, .inl (k0 1, 8, .inr (.inr (.inr (.inr fq))))) := by rw [hq _ (by omega)]; exact f_15
          have f_37 : u_34[b + 8]? = some (ad 8, .inl (k0 0, 12, .inl (fun y9 => nI ((dp_d (fun e => pq_of (me_of (LL j) (nE j)) (LL j e) * 2 ^ cf_card 32 (me_of (LL i) (nE i))) (nE i) (dp_d (fun e => pq_of (me_of (LL i) (nE i)) (LL i e) * 2 ^ 0) 0 dr (nE i)) (nE j)) y9)))) := hd9
          have f_38 : u_34[b + 9 + 3 * t]? = some (ad (9 + 3 * t), .inr (1, [.ref (ad (10 + 3 * t)), .ref (ad (11 + 3 * t)), .int (nI (nE t)), .int (nI (nV t)), .int (op t)])) := by rw [hq _ (by omega)]; exact f_17
          have f_39 : u_34[b + 9 + 3 * t + 1]? = some (ad (10 + 3 * t), .inl (k0 0, 12, .inl (fun y9 => nI ((LL t) y9)))) := by rw [hq _ (by omega)]; exact f_18
          have f_40 : u_34[b + 9 + 3 * t + 2]? = some (ad (11 + 3 * t), .inl (k0 0, 12, .inl (ww t))) := by rw [hq _ (by omega)]; exact f_19
          have f_41 : u_34[b + 9 + 3 * i]? = some (ad (9 + 3 * i), .inr (1, [.ref (ad (10 + 3 * i)), .ref (ad (11 + 3 * i)), .int (nI (nE i)), .int (nI (nV i)), .int (op i)])) := by rw [hq _ (by omega)]; exact f_20
          have f_42 : u_34[b + 9 + 3 * i + 1]? = some (ad (10 + 3 * i), .inl (k0 0, 12, .inl (fun y9 => nI ((LL i) y9)))) := by rw [hq _ (by omega)]; exact f_21
          have f_43 : u_34[b + 9 + 3 * i + 2]? = some (ad (11 + 3 * i), .inl (k0 0, 12, .inl (ww i))) := by rw [hq _ (by omega)]; exact f_22
          have f_44 : u_34[b + 9 + 3 * j]? = some (ad (9 + 3 * j), .inr (1, [.ref (ad (10 + 3 * j)), .ref (ad (11 + 3 * j)), .int (nI (nE j)), .int (nI (nV j)), .int (op j)])) := by rw [hq _ (by omega)]; exact f_23
          have f_45 : u_34[b + 9 + 3 * j + 1]? = some (ad (10 + 3 * j), .inl (k0 0, 12, .inl (fun y9 => nI ((LL j) y9)))) := by rw [hq _ (by omega)]; exact f_24
          have f_46 : u_34[b + 9 + 3 * j + 2]? = some (ad (11 + 3 * j), .inl (k0 0, 12, .inl (ww j))) := by rw [hq _ (by omega)]; exact f_25
          have hfr : kx_fr w0 u_34 (fun j => j = b + 8) := kx_fr_tr hfr (kx_fr_mono hq (fun j h => h))
          have hC2 : atC u_34 b k0 ad nE nV op LL ww := atC_rest hC (kx_fr_mono hfr (fun j h => by omega)) ⟨r1, p1, k1, atF_fr ⟨hF1, hR1, hT1⟩ hfr ⟨by omega, by omega, by omega⟩⟩ ⟨r2, p2, k2, atF_fr ⟨hF2, hR2, hT2⟩ hfr ⟨by omega, by omega, by omega⟩⟩ ⟨_, f_37⟩
          refine lv_aload_n hx hb dX2_beside_93 rfl (lv_at hl 2 rfl) ?_
          refine va_get (D := D) (ci := 2) (v := .ref (ad 1)) (C := RX2) (T := TX2) (N := 4) hx hb hts inX2 hown hK hP b f_35 rfl 0 (by decide) (hts _ tw_78) (fun _ h9 => h9) rfl dX2_beside_94 ?_
          refine lv_iload_n hx hb dX2_beside_97 rfl (lv_at hl 3 rfl) ?_
          refine kx_qald hx hb hK hP (b + 1) 1 f_36 rfl (i := t) (r := (ad (9 + 3 * t))) (by omega) (by decide) (hfq _ (by omega)) dX2_beside_98 ?_
          refine lv_aload_n hx hb dX2_beside_99 rfl (lv_at hl 2 rfl) ?_
          refine va_get (D := D) (ci := 2) (v := .ref (ad 8)) (C := RX2) (T := TX2) (N := 4) hx hb hts inX2 hown hK hP b f_35 rfl 3 (by decide) (hts _ tw_81) (fun _ h9 => h9) rfl dX2_beside_100 ?_
          refine lv_iload hx hb dX2_beside_103 (lv_at hl 0 rfl) ?_
          refine kx_gov (va_runV (As := [.ref (ad 8), .int (nI (nE i + nE j))]) (rest := []) ⟨hx, hb, hml, hown, hts⟩ (c_become l D k0 u_34 _ (b + 9 + 3 * t) (ad (9 + 3 * t)) (ad (10 + 3 * t)) (ad (11 + 3 * t)) (LL t) (ww t) (nE t) (nI (nV t)) (op t) f_38 f_39 f_40 (b + 8) (ad 8) (dp_d (fun e => pq_of (me_of (LL j) (nE j)) (LL j e) * 2 ^ cf_card 32 (me_of (LL i) (nE i))) (nE i) (dp_d (fun e => pq_of (me_of (LL i) (nE i)) (LL i e) * 2 ^ 0) 0 dr (nE i)) (nE j)) f_37 (by omega) (nE i + nE j) (by omega)) ⟨(kg_B (k := 2) hts tw_164 tw_161 tw_21 (by decide +kernel) rfl rfl ⟨Nat.le_of_ble_eq_true rfl, Nat.le_of_ble_eq_true rfl⟩), hts _ tw_162, hts _ tw_163⟩ (kx_preV hN hK hP hD rfl f_38) rfl rfl hl.1 rfl (lv_room (Nat.le_of_ble_eq_true rfl)) dX2_beside_105 ⟨Nat.le_of_ble_eq_true rfl, Nat.le_of_ble_eq_true rfl⟩) hD hS hA (fun u_49 H locs hp_47 hP hD hS => ?_)
          obtain ⟨L9, f9, hg, hl9, hf9, hq9⟩ := hp_47
          refine lv_iload hx hb dX2_beside_108 (lv_at hl 0 rfl) ?_
          exact kx_iret (v := nI (nE i + nE j)) hx hb hr rfl hlocks hK hP hD hS dX2_beside_110 (⟨Or.inl ⟨t, i, j, h8t, h8i, h8j, h12, e_x, e_y, e_z, rfl, L9, f9, atC_put hC2 hq9 hg, fun k hk => by
                  rw [hl9 k hk]
                  unfold bs_L
                  by_cases c : k < nE i
                  · rw [if_pos c, dp_out (Or.inl c), dp_in (Nat.zero_le k) (by omega), Nat.sub_zero, Nat.pow_zero, Nat.mul_one]
                  · rw [if_neg c, dp_in (by omega) (by omega)], hf9⟩, kx_fr_tr (kx_fr_mono hfr (fun j h => by omega)) (kx_fr_mono hq9 (fun j h => by omega))⟩)
        · skip
          have hno : ¬ (∃ t i j, t < 8 ∧ i < 8 ∧ j < 8 ∧ nE i + nE j ≤ 12 ∧ x = nI t ∧ y = nI i ∧ z = nI j) := fun ⟨_, i2, j2, _, h1, h2, h3, _, h4, h5⟩ => by
            have hi2 : i2 = i := ((nI_eq (by omega) (by omega)).mp (h4.symm.trans e_y))
            subst hi2
            have hj2 : j2 = j := ((nI_eq (by omega) (by omega)).mp (h5.symm.trans e_z))
            subst hj2
            exact c_52 ((nI_leI (by omega) (by omega)).mpr h3)
          refine lv_iconst (v := -1) hx hb dX2_beside_55 (by decide +kernel) ?_
          exact kx_iret (v := -1) hx hb hr rfl hlocks hK hP hD hS dX2_beside_56 (⟨Or.inr ⟨hno, rfl, rfl⟩, kx_fr_rf _ _⟩)
      · skip
        have hno0 := kg_0 hy_z c_18
        have hno : ¬ (∃ t i j, t < 8 ∧ i < 8 ∧ j < 8 ∧ nE i + nE j ≤ 12 ∧ x = nI t ∧ y = nI i ∧ z = nI j) := fun ⟨_, _, j, _, _, h1, _, _, _, h2⟩ => hno0 ⟨j, h1, h2⟩
        refine lv_iconst (v := -1) hx hb dX2_beside_21 (by decide +kernel) ?_
        exact kx_iret (v := -1) hx hb hr rfl hlocks hK hP hD hS dX2_beside_22 (⟨Or.inr ⟨hno, rfl, rfl⟩, kx_fr_rf _ _⟩)
end
section
theorem gy_U_le2 {f : Nat → Int32} {n : Nat} (hn : n ≤ 12) (t : Nat) : gy_U f n t < 2 ^ 31 := by
  have h1 : cf_sub (gy_U f n t) (cf_full n) := by
    have := gy_U_le (f := f) (n := n) (a := 0) t
    rw [Nat.zero_add] at this
    exact this
  have := kb_le_full h1
  have := kb_full_lt hn
  omega

set_option maxHeartbeats 4000000 in
set_option maxRecDepth 100000 in
/-- best(g) -/
theorem c_best (l : Launch) (D : va_G) (k0 : Nat → ClassId) (w0 : va_W) (sz : Nat) (b : Nat) (ad nE nV : Nat → Nat) (op : Nat → Int32) (LL : Nat → Nat → Nat) (ww : Nat → Nat → Int32) (hC : atC w0 b k0 ad nE nV op LL ww) (hI : cinv nE nV LL ww) (x : Int32) : kx_i l yX2_best wsX2_best ({ frames := 3, cells := 0, slots := 0, locals := 80 } : Room) D (tyL k0) w0 sz [.ref (ad 0), .int x] (fun (r : Int32) (u : va_W) => ((∃ i F, i < 8 ∧ x = nI i ∧ r = nI F ∧ be_spec (LL i) (ww i) (nE i) F) ∨ ((¬ ∃ i, i < 8 ∧ x = nI i) ∧ r = -1)) ∧ atC u b k0 ad nE nV op LL ww ∧ kx_fr w0 u (fun j => b ≤ j ∧ j < b + 33)) 0 0 := by
  refine kx_of (Qf := fun A => va_Qi (fun (r : Int32) (u : va_W) => ((∃ i F, i < 8 ∧ x = nI i ∧ r = nI F ∧ be_spec (LL i) (ww i) (nE i) F) ∨ ((¬ ∃ i, i < 8 ∧ x = nI i) ∧ r = -1)) ∧ atC u b k0 ad nE nV op LL ww ∧ kx_fr w0 u (fun j => b ≤ j ∧ j < b + 33)) (kx_B D (tyL k0) A) A) (cc := cX2_best) (maxL := 7) (ret := (some .int)) (by decide +kernel) (Nat.le_of_ble_eq_true rfl) ?_
  intro p e s m below meth c A ls hx hb hml hown hts hr hlocks hnm hN hK hP hD hS hA hl
  have hown : s.vm.findClass RX2 = some m.cls := hown
  have hl : lv_has ls 7 [(0, .ref (ad 0)), (1, .int x)] := hl
  have hfr : kx_fr w0 w0 (fun j => j = b + 2 ∨ j = b + 3 ∨ j = b + 4) := kx_fr_rf _ _
  obtain ⟨hO, ⟨fq, hQ, hfq⟩, ⟨r1, p1, k1, hF1, hR1, hT1⟩, ⟨r2, p2, k2, hF2, hR2, hT2⟩, ⟨dr, hd⟩, hgs⟩ := id hC
  refine lv_iload_n hx hb dX2_best_0 rfl (lv_at hl 1 rfl) ?_
  refine kx_goi (va_runS (As := [.int x]) (rest := []) ⟨hx, hb, hml, hown, hts⟩ (c_isGraph l D k0 w0 _ x) ⟨(kg_B (k := 1) hts tw_97 tw_95 tw_19 (by decide +kernel) rfl rfl ⟨Nat.le_of_ble_eq_true rfl, Nat.le_of_ble_eq_true rfl⟩), hts _ tw_96⟩ (kx_preS hN hK hP hD) rfl rfl hl.1 rfl (lv_room (Nat.le_of_ble_eq_true rfl)) dX2_best_1 ⟨Nat.le_of_ble_eq_true rfl, Nat.le_of_ble_eq_true rfl⟩) hD hS hA (fun r_2 u_3 H locs hp_1 hP hD hS => ?_)
  obtain ⟨hy_x, eu⟩ := hp_1
  rw [eu] at hP hD
  refine lv_if_ne (tgt := 9) hx hb dX2_best_4 (by decide) (fun c_4 => ?_) (fun c_4 => ?_)
  · skip
    obtain ⟨i, h8i, e_x⟩ := kg_1 hy_x c_4
    rw [e_x] at hl
    obtain ⟨hGi, hLi, hWi⟩ := hgs i h8i
    obtain ⟨hni, hvi, hl2i, hw2i⟩ := hI i h8i
    refine lv_aload_n hx hb dX2_best_9 rfl (lv_at hl 0 rfl) ?_
    refine va_get (D := D) (ci := 2) (v := .ref (ad 1)) (C := RX2) (T := TX2) (N := 4) hx hb hts inX2 hown hK hP b hO rfl 0 (by decide) (hts _ tw_78) (fun _ h9 => h9) rfl dX2_best_10 ?_
    refine lv_iload_n hx hb dX2_best_13 rfl (lv_at hl 1 rfl) ?_
    refine kx_qald hx hb hK hP (b + 1) 1 hQ rfl (i := i) (r := (ad (9 + 3 * i))) (by omega) (by decide) (hfq _ (by omega)) dX2_best_14 ?_
    refine lv_astore_n (lv' := [(2, .ref (ad (9 + 3 * i))), (0, .ref (ad 0)), (1, .int (nI i))]) hx hb dX2_best_15 rfl hl (by decide) rfl (fun ls hl => ?_)
    refine lv_aload_n hx hb dX2_best_16 rfl (lv_at hl 0 rfl) ?_
    refine va_get (D := D) (ci := 1) (v := .int (nI (nE i))) (C := RX1) (T := TX1) (N := 5) hx hb hts inX1 hown hK hP (b + 9 + 3 * i) hGi rfl 2 (by decide) (hts _ tw_64) (fun _ h9 => h9) rfl dX2_best_17 ?_
    refine kx_goi (va_runS (As := [.int (nI (nE i))]) (rest := []) ⟨hx, hb, hml, hown, hts⟩ (c_all l D k0 w0 _ (nE i) hni) ⟨(kg_B (k := 1) hts tw_132 tw_130 tw_19 (by decide +kernel) rfl rfl ⟨Nat.le_of_ble_eq_true rfl, Nat.le_of_ble_eq_true rfl⟩), hts _ tw_131⟩ (kx_preS hN hK hP hD) rfl rfl hl.1 rfl (lv_room (Nat.le_of_ble_eq_true rfl)) dX2_best_20 ⟨Nat.le_of_ble_eq_true rfl, Nat.le_of_ble_eq_true rfl⟩) hD hS hA (fun r_5 u_6 H locs hp_4 hP hD hS => ?_)
    obtain ⟨er_5, eu_6⟩ := hp_4
    rw [eu_6] at hP hD; subst er_5
    refine lv_istore_n (lv' := [(3, .int (nI (cf_full (nE i)))), (2, .ref (ad (9 + 3 * i))), (0, .ref (ad 0)), (1, .int (nI i))]) hx hb dX2_best_23 rfl hl (by decide) rfl (fun ls hl => ?_)
    refine lv_iconst (v := nI 0) hx hb dX2_best_24 (by decide +kernel) ?_
    refine lv_istore (lv' := [(4, .int (nI 0)), (3, .int (nI (cf_full (nE i)))), (2, .ref (ad (9 + 3 * i))), (0, .ref (ad 0)), (1, .int (nI i))]) hx hb dX2_best_25 hl (by decide) rfl (fun ls hl => ?_)
    refine lv_aload_n hx hb dX2_best_27 rfl (lv_at hl 3 rfl) ?_
    refine va_get (D := D) (ci := 2) (v := .ref (ad 2)) (C := RX2) (T := TX2) (N := 4) hx hb hts inX2 hown hK hP b hO rfl 1 (by decide) (hts _ tw_79) (fun _ h9 => h9) rfl dX2_best_28 ?_
    refine kx_gov (va_runV (As := []) (rest := []) ⟨hx, hb, hml, hown, hts⟩ (c_clear l D k0 w0 _ (b + 2) (ad 2) (ad 3) (ad 4) r1 p1 k1 hF1 hR1 hT1) ⟨(kg_B (k := 0) hts tw_140 tw_203 tw_20 (by decide +kernel) rfl rfl ⟨Nat.le_of_ble_eq_true rfl, Nat.le_of_ble_eq_true rfl⟩), hts _ tw_138, hts _ tw_139⟩ (kx_preV hN hK hP hD rfl hF1) rfl rfl hl.1 rfl (lv_room (Nat.le_of_ble_eq_true rfl)) dX2_best_31 ⟨Nat.le_of_ble_eq_true rfl, Nat.le_of_ble_eq_true rfl⟩) hD hS hA (fun u_9 H locs hp_7 hP hD hS => ?_)
    obtain ⟨⟨hF9, hR9, hT9⟩, hq⟩ := hp_7
    have f_10 : u_9[b]? = some (ad 0, .inr (2, [.ref (ad 1), .ref (ad 2), .ref (ad 5), .ref (ad 8)])) := by rw [hq _ (by omega)]; exact hO
    have f_11 : u_9[b + 1]? = some (ad 1, .inl (k0 1, 8, .inr (.inr (.inr (.inr fq))))) := by rw [hq _ (by omega)]; exact hQ
    have f_12 : u_9[b + 2]? = some (ad 2, .inr (0, [.ref (ad 3), .ref (ad 4), .int (nI 0)])) := hF9
    have f_13 : u_9[b + 2 + 1]? = some (ad 3, .inl (k0 0, 12, .inl (fun y9 => nI (r1 y9)))) := hR9
    have f_14 : u_9[b + 2 + 2]? = some (ad 4, .inl (k0 0, 12, .inl (fun y9 => nI (p1 y9)))) := hT9
    have f_15 : u_9[b + 9 + 3 * i]? = some (ad (9 + 3 * i), .inr (1, [.ref (ad (10 + 3 * i)), .ref (ad (11 + 3 * i)), .int (nI (nE i)), .int (nI (nV i)), .int (op i)])) := by rw [hq _ (by omega)]; exact hGi
    have f_16 : u_9[b + 9 + 3 * i + 1]? = some (ad (10 + 3 * i), .inl (k0 0, 12, .inl (fun y9 => nI ((LL i) y9)))) := by rw [hq _ (by omega)]; exact hLi
    have f_17 : u_9[b + 9 + 3 * i + 2]? = some (ad (11 + 3 * i), .inl (k0 0, 12, .inl (ww i))) := by rw [hq _ (by omega)]; exact hWi
    have hfr : kx_fr w0 u_9 (fun j => j = b + 2 ∨ j = b + 3 ∨ j = b + 4) := kx_fr_tr hfr (kx_fr_mono hq (fun j h => by omega))
    refine lv_iconst (v := nI 0) hx hb dX2_best_34 (by decide +kernel) ?_
    refine lv_istore (lv' := [(5, .int (nI 0)), (4, .int (nI 0)), (3, .int (nI (cf_full (nE i)))), (2, .ref (ad (9 + 3 * i))), (0, .ref (ad 0)), (1, .int (nI i))]) hx hb dX2_best_35 hl (by decide) rfl (fun ls hl => ?_)
    have loop_37 : ∀ (n37 : Nat) (t9 : Nat) (F : Nat) (FF : fo_St), (t9 ≤ nE i) → (gy_ok (LL i) (ww i) (nE i) t9 F) → (fo_ok (LL i) (nE i) F FF.1 FF.2.1 FF.2.2) → (∀ j, j < FF.2.2 → FF.1 j < 2 ^ 24) → (nE i + 1 ≤ t9 + n37) → ∀ (w1 : va_W), w1[b]? = some (ad 0, .inr (2, [.ref (ad 1), .ref (ad 2), .ref (ad 5), .ref (ad 8)])) → w1[b + 1]? = some (ad 1, .inl (k0 1, 8, .inr (.inr (.inr (.inr fq))))) → w1[b + 2]? = some (ad 2, .inr (0, [.ref (ad 3), .ref (ad 4), .int (nI FF.2.2)])) → w1[b + 2 + 1]? = some (ad 3, .inl (k0 0, 12, .inl (fun y9 => nI (FF.1 y9)))) → w1[b + 2 + 2]? = some (ad 4, .inl (k0 0, 12, .inl (fun y9 => nI (FF.2.1 y9)))) → w1[b + 9 + 3 * i]? = some (ad (9 + 3 * i), .inr (1, [.ref (ad (10 + 3 * i)), .ref (ad (11 + 3 * i)), .int (nI (nE i)), .int (nI (nV i)), .int (op i)])) → w1[b + 9 + 3 * i + 1]? = some (ad (10 + 3 * i), .inl (k0 0, 12, .inl (fun y9 => nI ((LL i) y9)))) → w1[b + 9 + 3 * i + 2]? = some (ad (11 + 3 * i), .inl (k0 0, 12, .inl (ww i))) → kx_fr w0 w1 (fun j => j = b + 2 ∨ j = b + 3 ∨ j = b + 4) → ∀ (H : Heap) (locs : List Loc), va_P D vwCl w1 H → va_D A w1 → va_S A s.heap H locs → ∀ (ls : Array Slot), lv_has ls 7 [(5, .int (nI t9)), (4, .int (nI F)), (3, .int (nI (gy_U (ww i) (nE i) t9))), (2, .ref (ad (9 + 3 * i))), (0, .ref (ad 0)), (1, .int (nI i))] → W p l e ({ frames := 3, cells := 0, slots := 0, locals := 80 } : Room) s m ([.ref (ad 0), .int x] : List Value).toArray below meth c H locs 0 0 (MQ below (va_Qi (fun (r : Int32) (u : va_W) => ((∃ i F, i < 8 ∧ x = nI i ∧ r = nI F ∧ be_spec (LL i) (ww i) (nE i) F) ∨ ((¬ ∃ i, i < 8 ∧ x = nI i) ∧ r = -1)) ∧ atC u b k0 ad nE nV op LL ww ∧ kx_fr w0 u (fun j => b ≤ j ∧ j < b + 33)) (kx_B D (tyL k0) A) A) ([.ref (ad 0), .int x] : List Value).toArray s 0 0 A) (F0 m 37 ls []) := by
      intro n37
      induction n37 with
      | zero =>
        intro t9 F FF ht hgy hfo hrw hme
        exact absurd hme (by omega)
      | succ n37 ih37 =>
        intro t9 F FF ht hgy hfo hrw hme w1 F37_0 F37_1 F37_2 F37_3 F37_4 F37_5 F37_6 F37_7 hfr H locs hP hD hS ls hl
        refine lv_iload hx hb dX2_best_37 (lv_at hl 0 rfl) ?_
        refine lv_aload_n hx hb dX2_best_39 rfl (lv_at hl 3 rfl) ?_
        refine va_get (D := D) (ci := 1) (v := .int (nI (nE i))) (C := RX1) (T := TX1) (N := 5) hx hb hts inX1 hown hK hP (b + 9 + 3 * i) F37_5 rfl 2 (by decide) (hts _ tw_64) (fun _ h9 => h9) rfl dX2_best_40 ?_
        refine lv_icmp_ge (tgt := 96) hx hb dX2_best_43 (by decide) (fun c_43 => ?_) (fun c_43 => ?_)
        · skip
          have hik : t9 = nE i := by
            have := (nI_leI (by omega) (by omega)).mp c_43
            omega
          rw [hik] at hgy
          refine lv_iload hx hb dX2_best_96 (lv_at hl 1 rfl) ?_
          exact kx_iret (v := nI F) hx hb hr rfl hlocks hK hP hD hS dX2_best_98 (⟨Or.inl ⟨i, F, h8i, e_x, rfl, gy_best hw2i hgy⟩, atC_rest hC (kx_fr_mono hfr (fun j h => by omega)) ⟨_, _, _, F37_2, F37_3, F37_4⟩ ⟨r2, p2, k2, atF_fr ⟨hF2, hR2, hT2⟩ hfr ⟨by omega, by omega, by omega⟩⟩ ⟨dr, by rw [hfr _ (by omega)]; exact hd⟩, kx_fr_mono hfr (fun j h => by omega)⟩)
        · skip
          have hik : t9 < nE i := by
            rcases Nat.lt_or_ge (t9) (nE i) with h | h
            · exact h
            · exact absurd ((nI_leI (by omega) (by omega)).mpr h) c_43
          obtain ⟨hs1, hs2⟩ := (gy_U_card hw2i t9 ht).2 hik
          refine lv_aload_n hx hb dX2_best_46 rfl (lv_at hl 3 rfl) ?_
          refine lv_iload_n hx hb dX2_best_47 rfl (lv_at hl 2 rfl) ?_
          refine kx_goi (va_runV (As := [.int (nI (gy_U (ww i) (nE i) t9))]) (rest := []) ⟨hx, hb, hml, hown, hts⟩ (c_heaviest l D k0 w1 _ (b + 9 + 3 * i) (ad (9 + 3 * i)) (ad (10 + 3 * i)) (ad (11 + 3 * i)) (LL i) (ww i) (nE i) (nI (nV i)) (op i) F37_5 F37_6 F37_7 hni (gy_U (ww i) (nE i) t9) (gy_U_le2 hni t9)) ⟨(kg_B (k := 1) hts tw_207 tw_204 tw_21 (by decide +kernel) rfl rfl ⟨Nat.le_of_ble_eq_true rfl, Nat.le_of_ble_eq_true rfl⟩), hts _ tw_205, hts _ tw_206⟩ (kx_preV hN hK hP hD rfl F37_5) rfl rfl hl.1 rfl (lv_room (Nat.le_of_ble_eq_true rfl)) dX2_best_48 ⟨Nat.le_of_ble_eq_true rfl, Nat.le_of_ble_eq_true rfl⟩) hD hS hA (fun r_19 u_20 H locs hp_18 hP hD hS => ?_)
          obtain ⟨er_19, eu_20⟩ := hp_18
          rw [eu_20] at hP hD; subst er_19
          refine lv_istore (lv' := [(6, .int (nI (gy_s (ww i) (nE i) t9))), (5, .int (nI t9)), (4, .int (nI F)), (3, .int (nI (gy_U (ww i) (nE i) t9))), (2, .ref (ad (9 + 3 * i))), (0, .ref (ad 0)), (1, .int (nI i))]) hx hb dX2_best_51 hl (by decide) rfl (fun ls hl => ?_)
          refine lv_iload_n hx hb dX2_best_53 rfl (lv_at hl 3 rfl) ?_
          refine lv_iconst (v := 1) hx hb dX2_best_54 (by decide +kernel) ?_
          refine lv_iload hx hb dX2_best_55 (lv_at hl 0 rfl) ?_
          refine lv_ishl hx hb dX2_best_57 ?_
          refine lv_topi (fun z_21 ez_21 => ?_)
          have ez_21 : z_21 = nI (2 ^ gy_s (ww i) (nE i) t9) := by rw [ez_21]; exact kb_one (by omega)
          subst ez_21
          refine lv_iconst (v := -1) hx hb dX2_best_58 (by decide +kernel) ?_
          refine lv_ixor hx hb dX2_best_59 ?_
          refine lv_iand hx hb dX2_best_60 ?_
          refine lv_topi (fun z_22 ez_22 => ?_)
          have ez_22 : z_22 = nI (gy_U (ww i) (nE i) (t9 + 1)) := by rw [ez_22]; exact kb_not (gy_U_le2 hni t9)
          subst ez_22
          refine lv_istore_n (lv' := [(3, .int (nI (gy_U (ww i) (nE i) (t9 + 1)))), (6, .int (nI (gy_s (ww i) (nE i) t9))), (5, .int (nI t9)), (4, .int (nI F)), (2, .ref (ad (9 + 3 * i))), (0, .ref (ad 0)), (1, .int (nI i))]) hx hb dX2_best_61 rfl hl (by decide) rfl (fun ls hl => ?_)
          refine lv_aload_n hx hb dX2_best_62 rfl (lv_at hl 5 rfl) ?_
          refine va_get (D := D) (ci := 2) (v := .ref (ad 2)) (C := RX2) (T := TX2) (N := 4) hx hb hts inX2 hown hK hP b F37_0 rfl 1 (by decide) (hts _ tw_79) (fun _ h9 => h9) rfl dX2_best_63 ?_
          refine lv_iload hx hb dX2_best_66 (lv_at hl 1 rfl) ?_
          refine lv_aload_n hx hb dX2_best_68 rfl (lv_at hl 4 rfl) ?_
          refine va_get (D := D) (ci := 1) (v := .ref (ad (10 + 3 * i))) (C := RX1) (T := TX1) (N := 5) hx hb hts inX1 hown hK hP (b + 9 + 3 * i) F37_5 rfl 0 (by decide) (hts _ tw_59) (fun _ h9 => h9) rfl dX2_best_69 ?_
          refine lv_iload hx hb dX2_best_72 (lv_at hl 1 rfl) ?_
          refine kx_nald hx hb hK hP (b + 9 + 3 * i + 1) F37_6 rfl (i := (gy_s (ww i) (nE i) t9)) (by omega) (by decide) dX2_best_74 ?_
          refine kx_goi (va_runV (As := [.int (nI (gy_s (ww i) (nE i) t9)), .int (nI ((LL i) (gy_s (ww i) (nE i) t9)))]) (rest := []) ⟨hx, hb, hml, hown, hts⟩ (c_takes l D k0 w1 _ (b + 2) (ad 2) (ad 3) (ad 4) FF.1 FF.2.1 FF.2.2 F37_2 F37_3 F37_4 (by have := cf_card_le (nE i) F; rw [hfo.2.2.1] at this; omega) hrw (gy_s (ww i) (nE i) t9) (LL i (gy_s (ww i) (nE i) t9)) (by omega) (gl_lt (hl2i _ hs1)) (fun h => by have := fo_room hfo hs1 h; omega)) ⟨(kg_B (k := 2) hts tw_147 tw_209 tw_20 (by decide +kernel) rfl rfl ⟨Nat.le_of_ble_eq_true rfl, Nat.le_of_ble_eq_true rfl⟩), hts _ tw_145, hts _ tw_146⟩ (kx_preV hN hK hP hD rfl F37_2) rfl rfl hl.1 rfl (lv_room (Nat.le_of_ble_eq_true rfl)) dX2_best_75 ⟨Nat.le_of_ble_eq_true rfl, Nat.le_of_ble_eq_true rfl⟩) hD hS hA (fun r_24 u_25 H locs hp_23 hP hD hS => ?_)
          rcases hp_23 with ⟨h0, er, eu⟩ | ⟨h0, er, hF9, hq⟩
          · skip
            subst er
            rw [eu] at hP hD
            refine lv_if_eq (tgt := 90) hx hb dX2_best_78 (by decide) (fun c_78 => ?_) (fun c_78 => ?_)
            · skip
              refine lv_iinc (v := nI (t9 + 1)) (lv' := [(5, .int (nI (t9 + 1))), (3, .int (nI (gy_U (ww i) (nE i) (t9 + 1)))), (6, .int (nI (gy_s (ww i) (nE i) t9))), (4, .int (nI F)), (2, .ref (ad (9 + 3 * i))), (0, .ref (ad 0)), (1, .int (nI i))]) hx hb dX2_best_90 hl (k := 2) rfl (nI_1 _) (by decide) rfl (fun ls hl => ?_)
              refine lv_goto (tgt := 37) hx hb dX2_best_93 (by decide) ?_
              exact ih37 (t9 + 1) F FF (by omega) (gy_ok_out hgy ((fo_rest_iff hfo _).mp h0)) hfo hrw (by omega) w1 F37_0 F37_1 F37_2 F37_3 F37_4 F37_5 F37_6 F37_7 hfr _ _ hP hD hS _ (lv_sub hl [0, 3, 1, 4, 5, 6] rfl)
            · skip
              exact absurd rfl c_78
          · skip
            subst er
            obtain ⟨hF9, hR9, hT9⟩ := hF9
            have hq5 : True := trivial
            obtain hq6 := hq5
            have f_26 : u_25[b]? = some (ad 0, .inr (2, [.ref (ad 1), .ref (ad 2), .ref (ad 5), .ref (ad 8)])) := by rw [hq _ (by omega)]; exact F37_0
            have f_27 : u_25[b + 1]? = some (ad 1, .inl (k0 1, 8, .inr (.inr (.inr (.inr fq))))) := by rw [hq _ (by omega)]; exact F37_1
            have f_28 : u_25[b + 2]? = some (ad 2, .inr (0, [.ref (ad 3), .ref (ad 4), .int (nI (FF.2.2 + 1))])) := hF9
            have f_29 : u_25[b + 2 + 1]? = some (ad 3, .inl (k0 0, 12, .inl (fun y9 => nI (((fo_up FF.1 FF.2.2 (fo_rest FF.1 (LL i (gy_s (ww i) (nE i) t9)) FF.2.2), fo_up FF.2.1 FF.2.2 (fo_way FF.1 FF.2.1 (LL i (gy_s (ww i) (nE i) t9)) FF.2.2 ^^^ 2 ^ gy_s (ww i) (nE i) t9), FF.2.2 + 1).1) y9)))) := hR9
            have f_30 : u_25[b + 2 + 2]? = some (ad 4, .inl (k0 0, 12, .inl (fun y9 => nI (((fo_up FF.1 FF.2.2 (fo_rest FF.1 (LL i (gy_s (ww i) (nE i) t9)) FF.2.2), fo_up FF.2.1 FF.2.2 (fo_way FF.1 FF.2.1 (LL i (gy_s (ww i) (nE i) t9)) FF.2.2 ^^^ 2 ^ gy_s (ww i) (nE i) t9), FF.2.2 + 1).2.1) y9)))) := hT9
            have f_31 : u_25[b + 9 + 3 * i]? = some (ad (9 + 3 * i), .inr (1, [.ref (ad (10 + 3 * i)), .ref (ad (11 + 3 * i)), .int (nI (nE i)), .int (nI (nV i)), .int (op i)])) := by rw [hq _ (by omega)]; exact F37_5
            have f_32 : u_25[b + 9 + 3 * i + 1]? = some (ad (10 + 3 * i), .inl (k0 0, 12, .inl (fun y9 => nI ((LL i) y9)))) := by rw [hq _ (by omega)]; exact F37_6
            have f_33 : u_25[b + 9 + 3 * i + 2]? = some (ad (11 + 3 * i), .inl (k0 0, 12, .inl (ww i))) := by rw [hq _ (by omega)]; exact F37_7
            have hfr : kx_fr w0 u_25 (fun j => j = b + 2 ∨ j = b + 3 ∨ j = b + 4) := kx_fr_tr hfr (kx_fr_mono hq (fun j h => by omega))
            have f_34 : u_25[b + 2]? = some (ad 2, .inr (0, [.ref (ad 3), .ref (ad 4), .int (nI (fo_up FF.1 FF.2.2 (fo_rest FF.1 (LL i (gy_s (ww i) (nE i) t9)) FF.2.2), fo_up FF.2.1 FF.2.2 (fo_way FF.1 FF.2.1 (LL i (gy_s (ww i) (nE i) t9)) FF.2.2 ^^^ 2 ^ gy_s (ww i) (nE i) t9), FF.2.2 + 1).2.2)])) := by skip; exact f_28
            refine lv_if_eq (tgt := 90) hx hb dX2_best_78 (by decide) (fun c_78 => ?_) (fun c_78 => ?_)
            · skip
              exact absurd c_78 (by decide)
            · skip
              refine lv_iload hx hb dX2_best_81 (lv_at hl 3 rfl) ?_
              refine lv_iconst (v := 1) hx hb dX2_best_83 (by decide +kernel) ?_
              refine lv_iload hx hb dX2_best_84 (lv_at hl 1 rfl) ?_
              refine lv_ishl hx hb dX2_best_86 ?_
              refine lv_topi (fun z_35 ez_35 => ?_)
              have ez_35 : z_35 = nI (2 ^ gy_s (ww i) (nE i) t9) := by rw [ez_35]; exact kb_one (by omega)
              subst ez_35
              refine lv_ior hx hb dX2_best_87 ?_
              refine lv_topi (fun z_36 ez_36 => ?_)
              have ez_36 : z_36 = nI (F ||| 2 ^ gy_s (ww i) (nE i) t9) := by rw [ez_36]; exact kb_or _ _
              subst ez_36
              refine lv_istore (lv' := [(4, .int (nI (F ||| 2 ^ gy_s (ww i) (nE i) t9))), (3, .int (nI (gy_U (ww i) (nE i) (t9 + 1)))), (6, .int (nI (gy_s (ww i) (nE i) t9))), (5, .int (nI t9)), (2, .ref (ad (9 + 3 * i))), (0, .ref (ad 0)), (1, .int (nI i))]) hx hb dX2_best_88 hl (by decide) rfl (fun ls hl => ?_)
              refine lv_iinc (v := nI (t9 + 1)) (lv' := [(5, .int (nI (t9 + 1))), (4, .int (nI (F ||| 2 ^ gy_s (ww i) (nE i) t9))), (3, .int (nI (gy_U (ww i) (nE i) (t9 + 1)))), (6, .int (nI (gy_s (ww i) (nE i) t9))), (2, .ref (ad (9 + 3 * i))), (0, .ref (ad 0)), (1, .int (nI i))]) hx hb dX2_best_90 hl (k := 3) rfl (nI_1 _) (by decide) rfl (fun ls hl => ?_)
              refine lv_goto (tgt := 37) hx hb dX2_best_93 (by decide) ?_
              exact ih37 (t9 + 1) (F ||| 2 ^ gy_s (ww i) (nE i) t9) (fo_up FF.1 FF.2.2 (fo_rest FF.1 (LL i (gy_s (ww i) (nE i) t9)) FF.2.2), fo_up FF.2.1 FF.2.2 (fo_way FF.1 FF.2.1 (LL i (gy_s (ww i) (nE i) t9)) FF.2.2 ^^^ 2 ^ gy_s (ww i) (nE i) t9), FF.2.2 + 1) (by omega) (gy_ok_in hw2i (by omega) hgy (fun q9 => h0 ((fo_rest_iff hfo _).mpr q9))) (fo_take hfo hs1 h0) (fun j h => by
                  dsimp only at h ⊢
                  rcases Nat.lt_or_ge j FF.2.2 with q9 | q9
                  · rw [fo_up_lt _ _ q9]; exact hrw j q9
                  · rw [show j = FF.2.2 by omega, fo_up_self]; exact fo_rest_lt (gl_lt (hl2i _ hs1)) hrw _ (Nat.le_refl _)) (by omega) u_25 f_26 f_27 f_34 f_29 f_30 f_31 f_32 f_33 hfr _ _ hP hD hS _ (lv_sub hl [0, 1, 2, 4, 5, 6] rfl)
    exact loop_37 (nE i + 1) 0 0 (r1, p1, 0) (Nat.zero_le _) (gy_ok_0 _ _ _) (fo_ok_0 _ _ _ _) (fun j h => absurd h (Nat.not_lt_zero j)) (by omega) u_9 f_10 f_11 f_12 f_13 f_14 f_15 f_16 f_17 hfr _ _ hP hD hS _ (lv_sub hl [0, 1, 2, 3, 4, 5] rfl)
  · skip
    have hno := kg_0 hy_x c_4
    refine lv_iconst (v := -1) hx hb dX2_best_7 (by decide +kernel) ?_
    exact kx_iret (v := -1) hx hb hr rfl hlocks hK hP hD hS dX2_best_8 (⟨Or.inr ⟨hno, rfl⟩, hC, kx_fr_rf _ _⟩)
end
section
def sr (d : Nat) : Room := { frames := 4 + d, cells := 0, slots := 0, locals := 100 + 28 * d }
theorem se_no1 {L M : Nat → Nat} {n e S J : Nat} (he : e < n) (h : cf_sp L n S (L e)) (hS : ∀ i, e ≤ i → S.testBit i = false) (hJ : se_ext L M n e S J) : J.testBit e = false := by
  cases c : J.testBit e with
  | false => rfl
  | true =>
    refine absurd (cf_sp_mono (fun i hi => ?_) h) (cf_ind_nsp he hJ.2.1 c)
    have hie : i < e := by
      rcases Nat.lt_or_ge i e with q | q
      · exact q
      · rw [hS i q] at hi; cases hi
    have hne : ¬ e = i := by omega
    rw [cf_diff_bit, cf_one_bit, hJ.2.2.2 i hie, hi]; simp [hne]
theorem se_no2 {L M : Nat → Nat} {n e S J : Nat} (he : e < n) (h : cf_sp M n S (M e)) (hS : ∀ i, e ≤ i → S.testBit i = false) (hJ : se_ext L M n e S J) : J.testBit e = false :=
  se_no1 (L := M) (M := L) he h hS ⟨hJ.1, hJ.2.2.1, hJ.2.1, hJ.2.2.2⟩
theorem cf_card_32 {n S : Nat} (hn : n ≤ 32) (h : cf_sub S (cf_full n)) : cf_card 32 S = cf_card n S := by
  have e : S % 2 ^ n = S := Nat.mod_eq_of_lt (by
    have := kb_le_full h
    have := Nat.one_le_two_pow (n := n)
    unfold cf_full at this
    have h2 : S ≤ 2 ^ n - 1 := by assumption
    omega)
  have := cf_card_mod (n := 32) S hn
  rw [e] at this; exact this
theorem kb_minN {a b : Nat} (ha : a < 2 ^ 31) (hb : b < 2 ^ 31) : (if nI b < nI a then nI b else nI a) = nI (min a b) := by
  rw [kb_min ha hb]
  congr 1
  split <;> omega
/-- agreement below a bound goes on -/
def fo_ag (k : Nat) (r p r' p' : Nat → Nat) : Prop := ∀ j, j < k → r' j = r j ∧ p' j = p j
theorem fo_ag_rf (k : Nat) (r p : Nat → Nat) : fo_ag k r p r p := fun _ _ => ⟨rfl, rfl⟩
theorem fo_ag_tr {k : Nat} {r p r' p' r'' p'' : Nat → Nat} (h : fo_ag k r p r' p') (q : fo_ag k r' p' r'' p'') : fo_ag k r p r'' p'' := fun j hj => ⟨(q j hj).1.trans (h j hj).1, (q j hj).2.trans (h j hj).2⟩
theorem fo_ag_lt {k : Nat} {r p r' p' : Nat → Nat} (h : fo_ag (k + 1) r p r' p') : fo_ag k r p r' p' := fun j hj => h j (by omega)
theorem fo_ag_up (k : Nat) (r p : Nat → Nat) (x y : Nat) : fo_ag k r p (fo_up r k x) (fo_up p k y) := fun j hj => ⟨fo_up_lt _ _ hj, fo_up_lt _ _ hj⟩
theorem fo_ag_ok {L : Nat → Nat} {n B k : Nat} {r p r' p' : Nat → Nat} (h : fo_ok L n B r p k) (a : fo_ag k r p r' p') : fo_ok L n B r' p' k := fo_ok_congr h (fun i hi => (a i hi).1.symm) (fun i hi => (a i hi).2.symm)
theorem fo_ag_row {k : Nat} {r p r' p' : Nat → Nat} (h : ∀ j, j < k → r j < 2 ^ 24) (a : fo_ag k r p r' p') : ∀ j, j < k → r' j < 2 ^ 24 := fun j hj => by rw [(a j hj).1]; exact h j hj
theorem fo_up_row {k x : Nat} {r : Nat → Nat} (h : ∀ j, j < k → r j < 2 ^ 24) (hx : x < 2 ^ 24) : ∀ j, j < k + 1 → fo_up r k x j < 2 ^ 24 := fun j hj => by
  rcases Nat.lt_or_ge j k with q | q
  · rw [fo_up_lt _ _ q]; exact h j q
  · rw [show j = k by omega, fo_up_self]; exact hx

def srC (l : Launch) (D : va_G) (k0 : Nat → ClassId) (d : Nat) : Prop := ∀ (w0 : va_W) (sz : Nat) (b o a1 a8 : Nat) (f ra pa : Nat) (rows parts : Nat → Nat) (k : Nat) (hF : w0[b + 2]? = some (f, .inr (0, [.ref ra, .ref pa, .int (nI k)]))) (hR : w0[b + 2 + 1]? = some (ra, .inl (k0 0, 12, .inl (fun j => nI (rows j))))) (hT : w0[b + 2 + 2]? = some (pa, .inl (k0 0, 12, .inl (fun j => nI (parts j))))) (f2 rb pb : Nat) (rows2 parts2 : Nat → Nat) (kk : Nat) (hF2 : w0[b + 5]? = some (f2, .inr (0, [.ref rb, .ref pb, .int (nI kk)]))) (hR2 : w0[b + 5 + 1]? = some (rb, .inl (k0 0, 12, .inl (fun j => nI (rows2 j))))) (hT2 : w0[b + 5 + 2]? = some (pb, .inl (k0 0, 12, .inl (fun j => nI (parts2 j))))) (hO : w0[b]? = some (o, .inr (2, [.ref a1, .ref f, .ref f2, .ref a8]))) (qg g ga gb : Nat) (L : Nat → Nat) (wt : Nat → Int32) (n : Nat) (vv oo : Int32) (hG : w0[qg]? = some (g, .inr (1, [.ref ga, .ref gb, .int (nI n), .int vv, .int oo]))) (hL : w0[qg + 1]? = some (ga, .inl (k0 0, 12, .inl (fun j => nI (L j))))) (hW : w0[qg + 2]? = some (gb, .inl (k0 0, 12, .inl wt))) (qh g2 ma mb : Nat) (M : Nat → Nat) (wt2 : Nat → Int32) (vv2 oo2 : Int32) (hG2 : w0[qh]? = some (g2, .inr (1, [.ref ma, .ref mb, .int (nI n), .int vv2, .int oo2]))) (hL2 : w0[qh + 1]? = some (ma, .inl (k0 0, 12, .inl (fun j => nI (M j))))) (hW2 : w0[qh + 2]? = some (mb, .inl (k0 0, 12, .inl wt2))) (hag : b + 9 ≤ qg) (hah : b + 9 ≤ qh) (hn : n ≤ 12) (hLb : ∀ j, j < n → L j < 2 ^ 24) (hMb : ∀ j, j < n → M j < 2 ^ 24) (e9 S fd lim : Nat) (hed : e9 + d = n) (hSz : ∀ i, e9 ≤ i → S.testBit i = false) (hfo1 : fo_ok L n S rows parts k) (hfo2 : fo_ok M n S rows2 parts2 kk) (hrow1 : ∀ j, j < k → rows j < 2 ^ 24) (hrow2 : ∀ j, j < kk → rows2 j < 2 ^ 24) (hfd : cf_sub fd (cf_full n)) (hlim : ∀ J, cf_ind L n J → cf_ind M n J → cf_card n J ≤ lim) (hlb : lim ≤ 12), kx_i l yX2_searched wsX2_searched (sr d) D (tyL k0) w0 sz [.ref o, .ref g, .ref g2, .int (nI e9), .int (nI S), .int (nI fd), .int (nI lim)] (fun (r : Int32) (u : va_W) => ∃ res, r = nI res ∧ cf_sub res (cf_full n) ∧ se_spec L M n e9 S fd res ∧ ∃ (ro1 pt1 ro2 pt2 : Nat → Nat), atF u (b + 2) k0 f ra pa ro1 pt1 k ∧ atF u (b + 5) k0 f2 rb pb ro2 pt2 kk ∧ fo_ag k rows parts ro1 pt1 ∧ fo_ag kk rows2 parts2 ro2 pt2 ∧ kx_fr w0 u (fun j => b + 2 ≤ j ∧ j < b + 8)) 0 0

set_option maxHeartbeats 4000000 in
set_option maxRecDepth 100000 in
/-- searched(g, h, e, set, found, limit): a step -/
theorem c_srStep (l : Launch) (D : va_G) (k0 : Nat → ClassId) (d : Nat) (ih : ∀ d1, d = d1 + 1 → srC l D k0 d1) (w0 : va_W) (sz : Nat) (b o a1 a8 : Nat) (f ra pa : Nat) (rows parts : Nat → Nat) (k : Nat) (hF : w0[b + 2]? = some (f, .inr (0, [.ref ra, .ref pa, .int (nI k)]))) (hR : w0[b + 2 + 1]? = some (ra, .inl (k0 0, 12, .inl (fun j => nI (rows j))))) (hT : w0[b + 2 + 2]? = some (pa, .inl (k0 0, 12, .inl (fun j => nI (parts j))))) (f2 rb pb : Nat) (rows2 parts2 : Nat → Nat) (kk : Nat) (hF2 : w0[b + 5]? = some (f2, .inr (0, [.ref rb, .ref pb, .int (nI kk)]))) (hR2 : w0[b + 5 + 1]? = some (rb, .inl (k0 0, 12, .inl (fun j => nI (rows2 j))))) (hT2 : w0[b + 5 + 2]? = some (pb, .inl (k0 0, 12, .inl (fun j => nI (parts2 j))))) (hO : w0[b]? = some (o, .inr (2, [.ref a1, .ref f, .ref f2, .ref a8]))) (qg g ga gb : Nat) (L : Nat → Nat) (wt : Nat → Int32) (n : Nat) (vv oo : Int32) (hG : w0[qg]? = some (g, .inr (1, [.ref ga, .ref gb, .int (nI n), .int vv, .int oo]))) (hL : w0[qg + 1]? = some (ga, .inl (k0 0, 12, .inl (fun j => nI (L j))))) (hW : w0[qg + 2]? = some (gb, .inl (k0 0, 12, .inl wt))) (qh g2 ma mb : Nat) (M : Nat → Nat) (wt2 : Nat → Int32) (vv2 oo2 : Int32) (hG2 : w0[qh]? = some (g2, .inr (1, [.ref ma, .ref mb, .int (nI n), .int vv2, .int oo2]))) (hL2 : w0[qh + 1]? = some (ma, .inl (k0 0, 12, .inl (fun j => nI (M j))))) (hW2 : w0[qh + 2]? = some (mb, .inl (k0 0, 12, .inl wt2))) (hag : b + 9 ≤ qg) (hah : b + 9 ≤ qh) (hn : n ≤ 12) (hLb : ∀ j, j < n → L j < 2 ^ 24) (hMb : ∀ j, j < n → M j < 2 ^ 24) (e9 S fd lim : Nat) (hed : e9 + d = n) (hSz : ∀ i, e9 ≤ i → S.testBit i = false) (hfo1 : fo_ok L n S rows parts k) (hfo2 : fo_ok M n S rows2 parts2 kk) (hrow1 : ∀ j, j < k → rows j < 2 ^ 24) (hrow2 : ∀ j, j < kk → rows2 j < 2 ^ 24) (hfd : cf_sub fd (cf_full n)) (hlim : ∀ J, cf_ind L n J → cf_ind M n J → cf_card n J ≤ lim) (hlb : lim ≤ 12) : kx_i l yX2_searched wsX2_searched (sr d) D (tyL k0) w0 sz [.ref o, .ref g, .ref g2, .int (nI e9), .int (nI S), .int (nI fd), .int (nI lim)] (fun (r : Int32) (u : va_W) => ∃ res, r = nI res ∧ cf_sub res (cf_full n) ∧ se_spec L M n e9 S fd res ∧ ∃ (ro1 pt1 ro2 pt2 : Nat → Nat), atF u (b + 2) k0 f ra pa ro1 pt1 k ∧ atF u (b + 5) k0 f2 rb pb ro2 pt2 kk ∧ fo_ag k rows parts ro1 pt1 ∧ fo_ag kk rows2 parts2 ro2 pt2 ∧ kx_fr w0 u (fun j => b + 2 ≤ j ∧ j < b + 8)) 0 0 := by
  refine kx_of (Qf := fun A => va_Qi (fun (r : Int32) (u : va_W) => ∃ res, r = nI res ∧ cf_sub res (cf_full n) ∧ se_spec L M n e9 S fd res ∧ ∃ (ro1 pt1 ro2 pt2 : Nat → Nat), atF u (b + 2) k0 f ra pa ro1 pt1 k ∧ atF u (b + 5) k0 f2 rb pb ro2 pt2 kk ∧ fo_ag k rows parts ro1 pt1 ∧ fo_ag kk rows2 parts2 ro2 pt2 ∧ kx_fr w0 u (fun j => b + 2 ≤ j ∧ j < b + 8)) (kx_B D (tyL k0) A) A) (cc := cX2_searched) (maxL := 9) (ret := (some .int)) (by decide +kernel) (Nat.le_of_ble_eq_true rfl) ?_
  intro p e s m below meth c A ls hx hb hml hown hts hr hlocks hnm hN hK hP hD hS hA hl
  have hown : s.vm.findClass RX2 = some m.cls := hown
  have hl : lv_has ls 9 [(0, .ref o), (1, .ref g), (2, .ref g2), (3, .int (nI e9)), (4, .int (nI S)), (5, .int (nI fd)), (6, .int (nI lim))] := hl
  have hfr : kx_fr w0 w0 (fun j => b + 2 ≤ j ∧ j < b + 8) := kx_fr_rf _ _
  have hSs := hfo1.1
  have hSb := kb_le_full hSs
  have hfb := kb_le_full hfd
  have hfl := kb_full_lt hn
  have cS := cf_card_32 (by omega) hSs
  have cF := cf_card_32 (by omega) hfd
  have cSl := cf_card_le n S
  have cFl := cf_card_le n fd
  have hk12 := hfo1.2.2.1
  have hkk12 := hfo2.2.2.1
  refine lv_iload hx hb dX2_searched_0 (lv_at hl 6 rfl) ?_
  refine lv_iload hx hb dX2_searched_2 (lv_at hl 4 rfl) ?_
  refine kx_goi (va_runS (As := [.int (nI S)]) (rest := [.int (nI lim)]) ⟨hx, hb, hml, hown, hts⟩ (c_bits l D k0 w0 _ S (by omega)) ⟨(kg_B (k := 1) hts tw_183 tw_181 tw_24 (by decide +kernel) rfl rfl ⟨by show (0 : Nat) + 1 ≤ 4 + d; omega, by show (8 : Nat) + (1 + 11) + 0 ≤ 100 + 28 * d; omega⟩), hts _ tw_182⟩ (kx_preS hN hK hP hD) rfl rfl hl.1 rfl (lv_room (Nat.le_of_ble_eq_true rfl)) dX2_searched_4 ⟨Nat.zero_le _, Nat.zero_le _⟩) hD hS hA (fun r_2 u_3 H locs hp_1 hP hD hS => ?_)
  obtain ⟨er_2, eu_3⟩ := hp_1
  rw [eu_3] at hP hD; subst er_2
  refine lv_topi (fun z_4 ez_4 => ?_)
  have ez_4 : z_4 = nI (cf_card n S) := by rw [ez_4]; rw [cS]
  subst ez_4
  refine lv_aload_n hx hb dX2_searched_7 rfl (lv_at hl 1 rfl) ?_
  refine va_get (D := D) (ci := 1) (v := .int (nI n)) (C := RX1) (T := TX1) (N := 5) hx hb hts inX1 hown hK hP qg hG rfl 2 (by decide) (hts _ tw_64) (fun _ h9 => h9) rfl dX2_searched_8 ?_
  refine lv_iadd hx hb dX2_searched_11 ?_
  refine lv_topi (fun z_5 ez_5 => ?_)
  have ez_5 : z_5 = nI (cf_card n S + n) := by rw [ez_5]; exact nI_add _ _
  subst ez_5
  refine lv_iload_n hx hb dX2_searched_12 rfl (lv_at hl 3 rfl) ?_
  refine lv_isub hx hb dX2_searched_13 ?_
  refine lv_topi (fun z_6 ez_6 => ?_)
  have ez_6 : z_6 = nI (cf_card n S + n - e9) := by rw [ez_6]; exact pk_sub (by omega)
  subst ez_6
  refine va_mmin hx hb (by rw [hml]; exact hl.1.symm) hown (hts _ tw_222) (hts _ tw_153) (hts _ tw_23) (hts _ tw_min) (by show (1 : Nat) ≤ 4 + d; omega) (by show _ ≤ 100 + 28 * d; exact Nat.le_trans (Nat.le_of_ble_eq_true rfl : _ ≤ (30 : Nat)) (by omega)) (Nat.zero_le _) (Nat.zero_le _) dX2_searched_14 ?_
  refine lv_topi (fun z_7 ez_7 => ?_)
  have ez_7 : z_7 = nI (min lim (cf_card n S + n - e9)) := by rw [ez_7]; exact kb_minN (by omega) (by omega)
  subst ez_7
  refine lv_istore (lv' := [(7, .int (nI (min lim (cf_card n S + n - e9)))), (0, .ref o), (1, .ref g), (2, .ref g2), (3, .int (nI e9)), (4, .int (nI S)), (5, .int (nI fd)), (6, .int (nI lim))]) hx hb dX2_searched_17 hl (by decide) rfl (fun ls hl => ?_)
  refine lv_iload hx hb dX2_searched_19 (lv_at hl 0 rfl) ?_
  refine lv_iload hx hb dX2_searched_21 (lv_at hl 6 rfl) ?_
  refine kx_goi (va_runS (As := [.int (nI fd)]) (rest := [.int (nI (min lim (cf_card n S + n - e9)))]) ⟨hx, hb, hml, hown, hts⟩ (c_bits l D k0 w0 _ fd (by omega)) ⟨(kg_B (k := 1) hts tw_183 tw_181 tw_24 (by decide +kernel) rfl rfl ⟨by show (0 : Nat) + 1 ≤ 4 + d; omega, by show (8 : Nat) + (1 + 11) + 0 ≤ 100 + 28 * d; omega⟩), hts _ tw_182⟩ (kx_preS hN hK hP hD) rfl rfl hl.1 rfl (lv_room (Nat.le_of_ble_eq_true rfl)) dX2_searched_23 ⟨Nat.zero_le _, Nat.zero_le _⟩) hD hS hA (fun r_9 u_10 H locs hp_8 hP hD hS => ?_)
  obtain ⟨er_9, eu_10⟩ := hp_8
  rw [eu_10] at hP hD; subst er_9
  refine lv_topi (fun z_11 ez_11 => ?_)
  have ez_11 : z_11 = nI (cf_card n fd) := by rw [ez_11]; rw [cF]
  subst ez_11
  refine lv_icmp_gt (tgt := 32) hx hb dX2_searched_26 (by decide) (fun c_26 => ?_) (fun c_26 => ?_)
  · skip
    have hre : cf_card n fd < min lim (cf_card n S + n - e9) := (nI_ltI (by omega) (by omega)).mp c_26
    refine lv_iload_n hx hb dX2_searched_32 rfl (lv_at hl 4 rfl) ?_
    refine lv_aload_n hx hb dX2_searched_33 rfl (lv_at hl 2 rfl) ?_
    refine va_get (D := D) (ci := 1) (v := .int (nI n)) (C := RX1) (T := TX1) (N := 5) hx hb hts inX1 hown hK hP qg hG rfl 2 (by decide) (hts _ tw_64) (fun _ h9 => h9) rfl dX2_searched_34 ?_
    refine lv_icmp_lt (tgt := 43) hx hb dX2_searched_37 (by decide) (fun c_37 => ?_) (fun c_37 => ?_)
    · skip
      have hlt : e9 < n := (nI_ltI (by omega) (by omega)).mp c_37
      have hSe : S.testBit e9 = false := hSz e9 (Nat.le_refl e9)
      obtain ⟨d1, hd1⟩ : ∃ d1, d = d1 + 1 := ⟨d - 1, by omega⟩
      refine lv_iload hx hb dX2_searched_43 (lv_at hl 6 rfl) ?_
      refine lv_istore (lv' := [(8, .int (nI fd)), (7, .int (nI (min lim (cf_card n S + n - e9)))), (0, .ref o), (1, .ref g), (2, .ref g2), (3, .int (nI e9)), (4, .int (nI S)), (5, .int (nI fd)), (6, .int (nI lim))]) hx hb dX2_searched_45 hl (by decide) rfl (fun ls hl => ?_)
      refine lv_aload_n hx hb dX2_searched_47 rfl (lv_at hl 2 rfl) ?_
      refine va_get (D := D) (ci := 2) (v := .ref f) (C := RX2) (T := TX2) (N := 4) hx hb hts inX2 hown hK hP b hO rfl 1 (by decide) (hts _ tw_79) (fun _ h9 => h9) rfl dX2_searched_48 ?_
      refine lv_iload_n hx hb dX2_searched_51 rfl (lv_at hl 5 rfl) ?_
      refine lv_aload_n hx hb dX2_searched_52 rfl (lv_at hl 3 rfl) ?_
      refine va_get (D := D) (ci := 1) (v := .ref ga) (C := RX1) (T := TX1) (N := 5) hx hb hts inX1 hown hK hP qg hG rfl 0 (by decide) (hts _ tw_59) (fun _ h9 => h9) rfl dX2_searched_53 ?_
      refine lv_iload_n hx hb dX2_searched_56 rfl (lv_at hl 5 rfl) ?_
      refine kx_nald hx hb hK hP (qg + 1) hL rfl (i := e9) (by omega) (by decide) dX2_searched_57 ?_
      refine kx_goi (va_runV (As := [.int (nI e9), .int (nI (L e9))]) (rest := []) ⟨hx, hb, hml, hown, hts⟩ (c_takes l D k0 w0 _ (b + 2) f ra pa rows parts k hF hR hT (by omega) hrow1 e9 (L e9) (by omega) (hLb e9 hlt) (fun h => by have := fo_room hfo1 hlt h; omega)) ⟨(kg_B (k := 2) hts tw_147 tw_209 tw_20 (by decide +kernel) rfl rfl ⟨by show (2 : Nat) + 1 ≤ 4 + d; omega, by show (8 : Nat) + (4 + 11) + 48 ≤ 100 + 28 * d; omega⟩), hts _ tw_145, hts _ tw_146⟩ (kx_preV hN hK hP hD rfl hF) rfl rfl hl.1 rfl (lv_room (Nat.le_of_ble_eq_true rfl)) dX2_searched_58 ⟨Nat.zero_le _, Nat.zero_le _⟩) hD hS hA (fun r_13 u_14 H locs hp_12 hP hD hS => ?_)
      rcases hp_12 with ⟨h01, er, eu⟩ | ⟨h01, er, hF9, hq⟩
      · skip
        subst er
        rw [eu] at hP hD
        refine lv_if_eq (tgt := 116) hx hb dX2_searched_61 (by decide) (fun c_61 => ?_) (fun c_61 => ?_)
        · skip
          refine lv_aload_n hx hb dX2_searched_116 rfl (lv_at hl 2 rfl) ?_
          refine lv_aload_n hx hb dX2_searched_117 rfl (lv_at hl 3 rfl) ?_
          refine lv_aload_n hx hb dX2_searched_118 rfl (lv_at hl 4 rfl) ?_
          refine lv_iload_n hx hb dX2_searched_119 rfl (lv_at hl 5 rfl) ?_
          refine lv_iconst (v := 1) hx hb dX2_searched_120 (by decide +kernel) ?_
          refine lv_iadd hx hb dX2_searched_121 ?_
          refine lv_topi (fun z_15 ez_15 => ?_)
          have ez_15 : z_15 = nI (e9 + 1) := by rw [ez_15]; exact nI_1 _
          subst ez_15
          refine lv_iload hx hb dX2_searched_122 (lv_at hl 6 rfl) ?_
          refine lv_iload hx hb dX2_searched_124 (lv_at hl 0 rfl) ?_
          refine lv_iload hx hb dX2_searched_126 (lv_at hl 8 rfl) ?_
          refine kx_goi (va_runV (As := [.ref g, .ref g2, .int (nI (e9 + 1)), .int (nI S), .int (nI fd), .int (nI lim)]) (rest := []) ⟨hx, hb, hml, hown, hts⟩ (ih d1 hd1 w0 _ b o a1 a8 f ra pa rows parts k hF hR hT f2 rb pb rows2 parts2 kk hF2 hR2 hT2 hO qg g ga gb L wt n vv oo hG hL hW qh g2 ma mb M wt2 vv2 oo2 hG2 hL2 hW2 hag hah hn hLb hMb (e9 + 1) S fd lim (by omega) (fun i hi => hSz i (by omega)) (fo_ag_ok hfo1 (fo_ag_rf _ _ _)) (fo_ag_ok hfo2 (fo_ag_rf _ _ _)) (fo_ag_row (p := parts) (p' := parts) hrow1 (fo_ag_rf _ _ _)) (fo_ag_row (p := parts2) (p' := parts2) hrow2 (fo_ag_rf _ _ _)) hfd hlim hlb) ⟨(kg_B (k := 6) hts tw_226 tw_223 tw_19 (by decide +kernel) rfl rfl ⟨by show 4 + d1 + 1 ≤ 4 + d; omega, by show (8 : Nat) + (9 + 11) + (100 + 28 * d1) ≤ 100 + 28 * d; omega⟩), hts _ tw_225, hts _ tw_5⟩ (kx_preV hN hK hP hD rfl hO) rfl rfl hl.1 rfl (lv_room (Nat.le_of_ble_eq_true rfl)) dX2_searched_128 ⟨Nat.zero_le _, Nat.zero_le _⟩) hD hS hA (fun r_17 u_18 H locs hp_16 hP hD hS => ?_)
          obtain ⟨res2, er, hsub2, hsp2, so1, st1, so2, st2, hF9, hF8, hag1b, hag2b, hq⟩ := hp_16
          subst er
          have hfr : kx_fr w0 u_18 (fun j => b + 2 ≤ j ∧ j < b + 8) := kx_fr_tr hfr hq
          exact kx_iret (v := nI res2) hx hb hr rfl hlocks hK hP hD hS dX2_searched_131 (⟨res2, rfl, hsub2, se_out hSe (fun J hJ => se_no1 hlt ((fo_rest_iff hfo1 _).mp h01) hSz hJ) hsp2, so1, st1, so2, st2, hF9, hF8, fo_ag_tr (fo_ag_rf _ _ _) hag1b, fo_ag_tr (fo_ag_rf _ _ _) hag2b, hfr⟩)
        · skip
          exact absurd rfl c_61
      · skip
        subst er
        obtain ⟨hF9, hR9, hT9⟩ := hF9
        have hq5 : True := trivial
        obtain hq6 := hq5
        have f_19 : u_14[b]? = some (o, .inr (2, [.ref a1, .ref f, .ref f2, .ref a8])) := by rw [hq _ (by omega)]; exact hO
        have f_20 : u_14[b + 2]? = some (f, .inr (0, [.ref ra, .ref pa, .int (nI (k + 1))])) := hF9
        have f_21 : u_14[b + 2 + 1]? = some (ra, .inl (k0 0, 12, .inl (fun y9 => nI ((fo_up rows k (fo_rest rows (L e9) k)) y9)))) := hR9
        have f_22 : u_14[b + 2 + 2]? = some (pa, .inl (k0 0, 12, .inl (fun y9 => nI ((fo_up parts k (fo_way rows parts (L e9) k ^^^ 2 ^ e9)) y9)))) := hT9
        have f_23 : u_14[b + 5]? = some (f2, .inr (0, [.ref rb, .ref pb, .int (nI kk)])) := by rw [hq _ (by omega)]; exact hF2
        have f_24 : u_14[b + 5 + 1]? = some (rb, .inl (k0 0, 12, .inl (fun y9 => nI (rows2 y9)))) := by rw [hq _ (by omega)]; exact hR2
        have f_25 : u_14[b + 5 + 2]? = some (pb, .inl (k0 0, 12, .inl (fun y9 => nI (parts2 y9)))) := by rw [hq _ (by omega)]; exact hT2
        have f_26 : u_14[qg]? = some (g, .inr (1, [.ref ga, .ref gb, .int (nI n), .int vv, .int oo])) := by rw [hq _ (by omega)]; exact hG
        have f_27 : u_14[qg + 1]? = some (ga, .inl (k0 0, 12, .inl (fun y9 => nI (L y9)))) := by rw [hq _ (by omega)]; exact hL
        have f_28 : u_14[qg + 2]? = some (gb, .inl (k0 0, 12, .inl wt)) := by rw [hq _ (by omega)]; exact hW
        have f_29 : u_14[qh]? = some (g2, .inr (1, [.ref ma, .ref mb, .int (nI n), .int vv2, .int oo2])) := by rw [hq _ (by omega)]; exact hG2
        have f_30 : u_14[qh + 1]? = some (ma, .inl (k0 0, 12, .inl (fun y9 => nI (M y9)))) := by rw [hq _ (by omega)]; exact hL2
        have f_31 : u_14[qh + 2]? = some (mb, .inl (k0 0, 12, .inl wt2)) := by rw [hq _ (by omega)]; exact hW2
        have hfr : kx_fr w0 u_14 (fun j => b + 2 ≤ j ∧ j < b + 8) := kx_fr_tr hfr (kx_fr_mono hq (fun j h => by omega))
        have hfo1b := fo_take hfo1 hlt h01
        have hkr1 := fo_room hfo1 hlt h01
        have hrow1b := fo_up_row hrow1 (fo_rest_lt (hLb e9 hlt) hrow1 k (Nat.le_refl k))
        refine lv_if_eq (tgt := 116) hx hb dX2_searched_61 (by decide) (fun c_61 => ?_) (fun c_61 => ?_)
        · skip
          exact absurd c_61 (by decide)
        · skip
          refine lv_aload_n hx hb dX2_searched_64 rfl (lv_at hl 2 rfl) ?_
          refine va_get (D := D) (ci := 2) (v := .ref f2) (C := RX2) (T := TX2) (N := 4) hx hb hts inX2 hown hK hP b f_19 rfl 2 (by decide) (hts _ tw_80) (fun _ h9 => h9) rfl dX2_searched_65 ?_
          refine lv_iload_n hx hb dX2_searched_68 rfl (lv_at hl 5 rfl) ?_
          refine lv_aload_n hx hb dX2_searched_69 rfl (lv_at hl 4 rfl) ?_
          refine va_get (D := D) (ci := 1) (v := .ref ma) (C := RX1) (T := TX1) (N := 5) hx hb hts inX1 hown hK hP qh f_29 rfl 0 (by decide) (hts _ tw_59) (fun _ h9 => h9) rfl dX2_searched_70 ?_
          refine lv_iload_n hx hb dX2_searched_73 rfl (lv_at hl 5 rfl) ?_
          refine kx_nald hx hb hK hP (qh + 1) f_30 rfl (i := e9) (by omega) (by decide) dX2_searched_74 ?_
          refine kx_goi (va_runV (As := [.int (nI e9), .int (nI (M e9))]) (rest := []) ⟨hx, hb, hml, hown, hts⟩ (c_takes l D k0 u_14 _ (b + 5) f2 rb pb rows2 parts2 kk f_23 f_24 f_25 (by omega) hrow2 e9 (M e9) (by omega) (hMb e9 hlt) (fun h => by have := fo_room hfo2 hlt h; omega)) ⟨(kg_B (k := 2) hts tw_147 tw_209 tw_20 (by decide +kernel) rfl rfl ⟨by show (2 : Nat) + 1 ≤ 4 + d; omega, by show (8 : Nat) + (4 + 11) + 48 ≤ 100 + 28 * d; omega⟩), hts _ tw_145, hts _ tw_146⟩ (kx_preV hN hK hP hD rfl f_23) rfl rfl hl.1 rfl (lv_room (Nat.le_of_ble_eq_true rfl)) dX2_searched_75 ⟨Nat.zero_le _, Nat.zero_le _⟩) hD hS hA (fun r_33 u_34 H locs hp_32 hP hD hS => ?_)
          rcases hp_32 with ⟨h02, er, eu⟩ | ⟨h02, er, hF9, hq⟩
          · skip
            subst er
            rw [eu] at hP hD
            refine lv_if_eq (tgt := 109) hx hb dX2_searched_78 (by decide) (fun c_78 => ?_) (fun c_78 => ?_)
            · skip
              refine lv_aload_n hx hb dX2_searched_109 rfl (lv_at hl 2 rfl) ?_
              refine va_get (D := D) (ci := 2) (v := .ref f) (C := RX2) (T := TX2) (N := 4) hx hb hts inX2 hown hK hP b f_19 rfl 1 (by decide) (hts _ tw_79) (fun _ h9 => h9) rfl dX2_searched_110 ?_
              refine kx_gov (va_runV (As := []) (rest := []) ⟨hx, hb, hml, hown, hts⟩ (c_drop l D k0 u_14 _ (b + 2) f ra pa (fo_up rows k (fo_rest rows (L e9) k)) (fo_up parts k (fo_way rows parts (L e9) k ^^^ 2 ^ e9)) (k + 1) f_20 f_21 f_22 (by omega) (by omega)) ⟨(kg_B (k := 0) hts tw_230 tw_227 tw_20 (by decide +kernel) rfl rfl ⟨by show (0 : Nat) + 1 ≤ 4 + d; omega, by show (8 : Nat) + (1 + 11) + 0 ≤ 100 + 28 * d; omega⟩), hts _ tw_228, hts _ tw_229⟩ (kx_preV hN hK hP hD rfl f_20) rfl rfl hl.1 rfl (lv_room (Nat.le_of_ble_eq_true rfl)) dX2_searched_113 ⟨Nat.zero_le _, Nat.zero_le _⟩) hD hS hA (fun u_37 H locs hp_35 hP hD hS => ?_)
              obtain ⟨⟨hF9, hR9, hT9⟩, hq⟩ := hp_35
              have f_38 : u_37[b]? = some (o, .inr (2, [.ref a1, .ref f, .ref f2, .ref a8])) := by rw [hq _ (by omega)]; exact f_19
              have f_39 : u_37[b + 2]? = some (f, .inr (0, [.ref ra, .ref pa, .int (nI k)])) := hF9
              have f_40 : u_37[b + 2 + 1]? = some (ra, .inl (k0 0, 12, .inl (fun y9 => nI ((fo_up rows k (fo_rest rows (L e9) k)) y9)))) := hR9
              have f_41 : u_37[b + 2 + 2]? = some (pa, .inl (k0 0, 12, .inl (fun y9 => nI ((fo_up parts k (fo_way rows parts (L e9) k ^^^ 2 ^ e9)) y9)))) := hT9
              have f_42 : u_37[b + 5]? = some (f2, .inr (0, [.ref rb, .ref pb, .int (nI kk)])) := by rw [hq _ (by omega)]; exact f_23
              have f_43 : u_37[b + 5 + 1]? = some (rb, .inl (k0 0, 12, .inl (fun y9 => nI (rows2 y9)))) := by rw [hq _ (by omega)]; exact f_24
              have f_44 : u_37[b + 5 + 2]? = some (pb, .inl (k0 0, 12, .inl (fun y9 => nI (parts2 y9)))) := by rw [hq _ (by omega)]; exact f_25
              have f_45 : u_37[qg]? = some (g, .inr (1, [.ref ga, .ref gb, .int (nI n), .int vv, .int oo])) := by rw [hq _ (by omega)]; exact f_26
              have f_46 : u_37[qg + 1]? = some (ga, .inl (k0 0, 12, .inl (fun y9 => nI (L y9)))) := by rw [hq _ (by omega)]; exact f_27
              have f_47 : u_37[qg + 2]? = some (gb, .inl (k0 0, 12, .inl wt)) := by rw [hq _ (by omega)]; exact f_28
              have f_48 : u_37[qh]? = some (g2, .inr (1, [.ref ma, .ref mb, .int (nI n), .int vv2, .int oo2])) := by rw [hq _ (by omega)]; exact f_29
              have f_49 : u_37[qh + 1]? = some (ma, .inl (k0 0, 12, .inl (fun y9 => nI (M y9)))) := by rw [hq _ (by omega)]; exact f_30
              have f_50 : u_37[qh + 2]? = some (mb, .inl (k0 0, 12, .inl wt2)) := by rw [hq _ (by omega)]; exact f_31
              have hfr : kx_fr w0 u_37 (fun j => b + 2 ≤ j ∧ j < b + 8) := kx_fr_tr hfr (kx_fr_mono hq (fun j h => by omega))
              refine lv_aload_n hx hb dX2_searched_116 rfl (lv_at hl 2 rfl) ?_
              refine lv_aload_n hx hb dX2_searched_117 rfl (lv_at hl 3 rfl) ?_
              refine lv_aload_n hx hb dX2_searched_118 rfl (lv_at hl 4 rfl) ?_
              refine lv_iload_n hx hb dX2_searched_119 rfl (lv_at hl 5 rfl) ?_
              refine lv_iconst (v := 1) hx hb dX2_searched_120 (by decide +kernel) ?_
              refine lv_iadd hx hb dX2_searched_121 ?_
              refine lv_topi (fun z_51 ez_51 => ?_)
              have ez_51 : z_51 = nI (e9 + 1) := by rw [ez_51]; exact nI_1 _
              subst ez_51
              refine lv_iload hx hb dX2_searched_122 (lv_at hl 6 rfl) ?_
              refine lv_iload hx hb dX2_searched_124 (lv_at hl 0 rfl) ?_
              refine lv_iload hx hb dX2_searched_126 (lv_at hl 8 rfl) ?_
              refine kx_goi (va_runV (As := [.ref g, .ref g2, .int (nI (e9 + 1)), .int (nI S), .int (nI fd), .int (nI lim)]) (rest := []) ⟨hx, hb, hml, hown, hts⟩ (ih d1 hd1 u_37 _ b o a1 a8 f ra pa (fo_up rows k (fo_rest rows (L e9) k)) (fo_up parts k (fo_way rows parts (L e9) k ^^^ 2 ^ e9)) k f_39 f_40 f_41 f2 rb pb rows2 parts2 kk f_42 f_43 f_44 f_38 qg g ga gb L wt n vv oo f_45 f_46 f_47 qh g2 ma mb M wt2 vv2 oo2 f_48 f_49 f_50 hag hah hn hLb hMb (e9 + 1) S fd lim (by omega) (fun i hi => hSz i (by omega)) (fo_ag_ok hfo1 (fo_ag_up _ _ _ _ _)) (fo_ag_ok hfo2 (fo_ag_rf _ _ _)) (fo_ag_row (p := parts) (p' := fo_up parts k (fo_way rows parts (L e9) k ^^^ 2 ^ e9)) hrow1 (fo_ag_up _ _ _ _ _)) (fo_ag_row (p := parts2) (p' := parts2) hrow2 (fo_ag_rf _ _ _)) hfd hlim hlb) ⟨(kg_B (k := 6) hts tw_226 tw_223 tw_19 (by decide +kernel) rfl rfl ⟨by show 4 + d1 + 1 ≤ 4 + d; omega, by show (8 : Nat) + (9 + 11) + (100 + 28 * d1) ≤ 100 + 28 * d; omega⟩), hts _ tw_225, hts _ tw_5⟩ (kx_preV hN hK hP hD rfl f_38) rfl rfl hl.1 rfl (lv_room (Nat.le_of_ble_eq_true rfl)) dX2_searched_128 ⟨Nat.zero_le _, Nat.zero_le _⟩) hD hS hA (fun r_53 u_54 H locs hp_52 hP hD hS => ?_)
              obtain ⟨res2, er, hsub2, hsp2, so1, st1, so2, st2, hF9, hF8, hag1b, hag2b, hq⟩ := hp_52
              subst er
              have hfr : kx_fr w0 u_54 (fun j => b + 2 ≤ j ∧ j < b + 8) := kx_fr_tr hfr hq
              exact kx_iret (v := nI res2) hx hb hr rfl hlocks hK hP hD hS dX2_searched_131 (⟨res2, rfl, hsub2, se_out hSe (fun J hJ => se_no2 hlt ((fo_rest_iff hfo2 _).mp h02) hSz hJ) hsp2, so1, st1, so2, st2, hF9, hF8, fo_ag_tr (fo_ag_up _ _ _ _ _) hag1b, fo_ag_tr (fo_ag_rf _ _ _) hag2b, hfr⟩)
            · skip
              exact absurd rfl c_78
          · skip
            subst er
            obtain ⟨hF9, hR9, hT9⟩ := hF9
            have hq5 : True := trivial
            obtain hq6 := hq5
            have f_55 : u_34[b]? = some (o, .inr (2, [.ref a1, .ref f, .ref f2, .ref a8])) := by rw [hq _ (by omega)]; exact f_19
            have f_56 : u_34[b + 2]? = some (f, .inr (0, [.ref ra, .ref pa, .int (nI (k + 1))])) := by rw [hq _ (by omega)]; exact f_20
            have f_57 : u_34[b + 2 + 1]? = some (ra, .inl (k0 0, 12, .inl (fun y9 => nI ((fo_up rows k (fo_rest rows (L e9) k)) y9)))) := by rw [hq _ (by omega)]; exact f_21
            have f_58 : u_34[b + 2 + 2]? = some (pa, .inl (k0 0, 12, .inl (fun y9 => nI ((fo_up parts k (fo_way rows parts (L e9) k ^^^ 2 ^ e9)) y9)))) := by rw [hq _ (by omega)]; exact f_22
            have f_59 : u_34[b + 5]? = some (f2, .inr (0, [.ref rb, .ref pb, .int (nI (kk + 1))])) := hF9
            have f_60 : u_34[b + 5 + 1]? = some (rb, .inl (k0 0, 12, .inl (fun y9 => nI ((fo_up rows2 kk (fo_rest rows2 (M e9) kk)) y9)))) := hR9
            have f_61 : u_34[b + 5 + 2]? = some (pb, .inl (k0 0, 12, .inl (fun y9 => nI ((fo_up parts2 kk (fo_way rows2 parts2 (M e9) kk ^^^ 2 ^ e9)) y9)))) := hT9
            have f_62 : u_34[qg]? = some (g, .inr (1, [.ref ga, .ref gb, .int (nI n), .int vv, .int oo])) := by rw [hq _ (by omega)]; exact f_26
            have f_63 : u_34[qg + 1]? = some (ga, .inl (k0 0, 12, .inl (fun y9 => nI (L y9)))) := by rw [hq _ (by omega)]; exact f_27
            have f_64 : u_34[qg + 2]? = some (gb, .inl (k0 0, 12, .inl wt)) := by rw [hq _ (by omega)]; exact f_28
            have f_65 : u_34[qh]? = some (g2, .inr (1, [.ref ma, .ref mb, .int (nI n), .int vv2, .int oo2])) := by rw [hq _ (by omega)]; exact f_29
            have f_66 : u_34[qh + 1]? = some (ma, .inl (k0 0, 12, .inl (fun y9 => nI (M y9)))) := by rw [hq _ (by omega)]; exact f_30
            have f_67 : u_34[qh + 2]? = some (mb, .inl (k0 0, 12, .inl wt2)) := by rw [hq _ (by omega)]; exact f_31
            have hfr : kx_fr w0 u_34 (fun j => b + 2 ≤ j ∧ j < b + 8) := kx_fr_tr hfr (kx_fr_mono hq (fun j h => by omega))
            have hfo2b := fo_take hfo2 hlt h02
            have hkr2 := fo_room hfo2 hlt h02
            have hrow2b := fo_up_row hrow2 (fo_rest_lt (hMb e9 hlt) hrow2 kk (Nat.le_refl kk))
            refine lv_if_eq (tgt := 109) hx hb dX2_searched_78 (by decide) (fun c_78 => ?_) (fun c_78 => ?_)
            · skip
              exact absurd c_78 (by decide)
            · skip
              refine lv_aload_n hx hb dX2_searched_81 rfl (lv_at hl 2 rfl) ?_
              refine lv_aload_n hx hb dX2_searched_82 rfl (lv_at hl 3 rfl) ?_
              refine lv_aload_n hx hb dX2_searched_83 rfl (lv_at hl 4 rfl) ?_
              refine lv_iload_n hx hb dX2_searched_84 rfl (lv_at hl 5 rfl) ?_
              refine lv_iconst (v := 1) hx hb dX2_searched_85 (by decide +kernel) ?_
              refine lv_iadd hx hb dX2_searched_86 ?_
              refine lv_topi (fun z_68 ez_68 => ?_)
              have ez_68 : z_68 = nI (e9 + 1) := by rw [ez_68]; exact nI_1 _
              subst ez_68
              refine lv_iload hx hb dX2_searched_87 (lv_at hl 6 rfl) ?_
              refine lv_iconst (v := 1) hx hb dX2_searched_89 (by decide +kernel) ?_
              refine lv_iload_n hx hb dX2_searched_90 rfl (lv_at hl 5 rfl) ?_
              refine lv_ishl hx hb dX2_searched_91 ?_
              refine lv_topi (fun z_69 ez_69 => ?_)
              have ez_69 : z_69 = nI (2 ^ e9) := by rw [ez_69]; exact kb_one (by omega)
              subst ez_69
              refine lv_ior hx hb dX2_searched_92 ?_
              refine lv_topi (fun z_70 ez_70 => ?_)
              have ez_70 : z_70 = nI (S ||| 2 ^ e9) := by rw [ez_70]; exact kb_or _ _
              subst ez_70
              refine lv_iload hx hb dX2_searched_93 (lv_at hl 7 rfl) ?_
              refine lv_iload hx hb dX2_searched_95 (lv_at hl 8 rfl) ?_
              refine kx_goi (va_runV (As := [.ref g, .ref g2, .int (nI (e9 + 1)), .int (nI (S ||| 2 ^ e9)), .int (nI fd), .int (nI lim)]) (rest := []) ⟨hx, hb, hml, hown, hts⟩ (ih d1 hd1 u_34 _ b o a1 a8 f ra pa (fo_up rows k (fo_rest rows (L e9) k)) (fo_up parts k (fo_way rows parts (L e9) k ^^^ 2 ^ e9)) (k + 1) f_56 f_57 f_58 f2 rb pb (fo_up rows2 kk (fo_rest rows2 (M e9) kk)) (fo_up parts2 kk (fo_way rows2 parts2 (M e9) kk ^^^ 2 ^ e9)) (kk + 1) f_59 f_60 f_61 f_55 qg g ga gb L wt n vv oo f_62 f_63 f_64 qh g2 ma mb M wt2 vv2 oo2 f_65 f_66 f_67 hag hah hn hLb hMb (e9 + 1) (S ||| 2 ^ e9) fd lim (by omega) (fun i hi => by
                  rw [cf_add_bit, hSz i (by omega)]
                  have : ¬ e9 = i := by omega
                  simp [this]) hfo1b hfo2b hrow1b hrow2b hfd hlim hlb) ⟨(kg_B (k := 6) hts tw_226 tw_223 tw_19 (by decide +kernel) rfl rfl ⟨by show 4 + d1 + 1 ≤ 4 + d; omega, by show (8 : Nat) + (9 + 11) + (100 + 28 * d1) ≤ 100 + 28 * d; omega⟩), hts _ tw_225, hts _ tw_5⟩ (kx_preV hN hK hP hD rfl f_55) rfl rfl hl.1 rfl (lv_room (Nat.le_of_ble_eq_true rfl)) dX2_searched_97 ⟨Nat.zero_le _, Nat.zero_le _⟩) hD hS hA (fun r_72 u_73 H locs hp_71 hP hD hS => ?_)
              obtain ⟨res1, er, hsub1, hsp1, ro1, pt1, ro2, pt2, ⟨hF9, hR9, hT9⟩, ⟨hF8, hR8, hT8⟩, hag1, hag2, hq⟩ := hp_71
              subst er
              have hq5 : True := trivial
              obtain hq6 := hq5
              have f_74 : u_73[b]? = some (o, .inr (2, [.ref a1, .ref f, .ref f2, .ref a8])) := by rw [hq _ (by omega)]; exact f_55
              have f_75 : u_73[b + 2]? = some (f, .inr (0, [.ref ra, .ref pa, .int (nI (k + 1))])) := hF9
              have f_76 : u_73[b + 2 + 1]? = some (ra, .inl (k0 0, 12, .inl (fun y9 => nI (ro1 y9)))) := hR9
              have f_77 : u_73[b + 2 + 2]? = some (pa, .inl (k0 0, 12, .inl (fun y9 => nI (pt1 y9)))) := hT9
              have f_78 : u_73[b + 5]? = some (f2, .inr (0, [.ref rb, .ref pb, .int (nI (kk + 1))])) := hF8
              have f_79 : u_73[b + 5 + 1]? = some (rb, .inl (k0 0, 12, .inl (fun y9 => nI (ro2 y9)))) := hR8
              have f_80 : u_73[b + 5 + 2]? = some (pb, .inl (k0 0, 12, .inl (fun y9 => nI (pt2 y9)))) := hT8
              have f_81 : u_73[qg]? = some (g, .inr (1, [.ref ga, .ref gb, .int (nI n), .int vv, .int oo])) := by rw [hq _ (by omega)]; exact f_62
              have f_82 : u_73[qg + 1]? = some (ga, .inl (k0 0, 12, .inl (fun y9 => nI (L y9)))) := by rw [hq _ (by omega)]; exact f_63
              have f_83 : u_73[qg + 2]? = some (gb, .inl (k0 0, 12, .inl wt)) := by rw [hq _ (by omega)]; exact f_64
              have f_84 : u_73[qh]? = some (g2, .inr (1, [.ref ma, .ref mb, .int (nI n), .int vv2, .int oo2])) := by rw [hq _ (by omega)]; exact f_65
              have f_85 : u_73[qh + 1]? = some (ma, .inl (k0 0, 12, .inl (fun y9 => nI (M y9)))) := by rw [hq _ (by omega)]; exact f_66
              have f_86 : u_73[qh + 2]? = some (mb, .inl (k0 0, 12, .inl wt2)) := by rw [hq _ (by omega)]; exact f_67
              have hfr : kx_fr w0 u_73 (fun j => b + 2 ≤ j ∧ j < b + 8) := kx_fr_tr hfr (kx_fr_mono hq (fun j h => h))
              refine lv_istore (lv' := [(8, .int (nI res1)), (7, .int (nI (min lim (cf_card n S + n - e9)))), (0, .ref o), (1, .ref g), (2, .ref g2), (3, .int (nI e9)), (4, .int (nI S)), (5, .int (nI fd)), (6, .int (nI lim))]) hx hb dX2_searched_100 hl (by decide) rfl (fun ls hl => ?_)
              refine lv_aload_n hx hb dX2_searched_102 rfl (lv_at hl 2 rfl) ?_
              refine va_get (D := D) (ci := 2) (v := .ref f2) (C := RX2) (T := TX2) (N := 4) hx hb hts inX2 hown hK hP b f_74 rfl 2 (by decide) (hts _ tw_80) (fun _ h9 => h9) rfl dX2_searched_103 ?_
              refine kx_gov (va_runV (As := []) (rest := []) ⟨hx, hb, hml, hown, hts⟩ (c_drop l D k0 u_73 _ (b + 5) f2 rb pb ro2 pt2 (kk + 1) f_78 f_79 f_80 (by omega) (by omega)) ⟨(kg_B (k := 0) hts tw_230 tw_227 tw_20 (by decide +kernel) rfl rfl ⟨by show (0 : Nat) + 1 ≤ 4 + d; omega, by show (8 : Nat) + (1 + 11) + 0 ≤ 100 + 28 * d; omega⟩), hts _ tw_228, hts _ tw_229⟩ (kx_preV hN hK hP hD rfl f_78) rfl rfl hl.1 rfl (lv_room (Nat.le_of_ble_eq_true rfl)) dX2_searched_106 ⟨Nat.zero_le _, Nat.zero_le _⟩) hD hS hA (fun u_89 H locs hp_87 hP hD hS => ?_)
              obtain ⟨⟨hF9, hR9, hT9⟩, hq⟩ := hp_87
              have f_90 : u_89[b]? = some (o, .inr (2, [.ref a1, .ref f, .ref f2, .ref a8])) := by rw [hq _ (by omega)]; exact f_74
              have f_91 : u_89[b + 2]? = some (f, .inr (0, [.ref ra, .ref pa, .int (nI (k + 1))])) := by rw [hq _ (by omega)]; exact f_75
              have f_92 : u_89[b + 2 + 1]? = some (ra, .inl (k0 0, 12, .inl (fun y9 => nI (ro1 y9)))) := by rw [hq _ (by omega)]; exact f_76
              have f_93 : u_89[b + 2 + 2]? = some (pa, .inl (k0 0, 12, .inl (fun y9 => nI (pt1 y9)))) := by rw [hq _ (by omega)]; exact f_77
              have f_94 : u_89[b + 5]? = some (f2, .inr (0, [.ref rb, .ref pb, .int (nI kk)])) := hF9
              have f_95 : u_89[b + 5 + 1]? = some (rb, .inl (k0 0, 12, .inl (fun y9 => nI (ro2 y9)))) := hR9
              have f_96 : u_89[b + 5 + 2]? = some (pb, .inl (k0 0, 12, .inl (fun y9 => nI (pt2 y9)))) := hT9
              have f_97 : u_89[qg]? = some (g, .inr (1, [.ref ga, .ref gb, .int (nI n), .int vv, .int oo])) := by rw [hq _ (by omega)]; exact f_81
              have f_98 : u_89[qg + 1]? = some (ga, .inl (k0 0, 12, .inl (fun y9 => nI (L y9)))) := by rw [hq _ (by omega)]; exact f_82
              have f_99 : u_89[qg + 2]? = some (gb, .inl (k0 0, 12, .inl wt)) := by rw [hq _ (by omega)]; exact f_83
              have f_100 : u_89[qh]? = some (g2, .inr (1, [.ref ma, .ref mb, .int (nI n), .int vv2, .int oo2])) := by rw [hq _ (by omega)]; exact f_84
              have f_101 : u_89[qh + 1]? = some (ma, .inl (k0 0, 12, .inl (fun y9 => nI (M y9)))) := by rw [hq _ (by omega)]; exact f_85
              have f_102 : u_89[qh + 2]? = some (mb, .inl (k0 0, 12, .inl wt2)) := by rw [hq _ (by omega)]; exact f_86
              have hfr : kx_fr w0 u_89 (fun j => b + 2 ≤ j ∧ j < b + 8) := kx_fr_tr hfr (kx_fr_mono hq (fun j h => by omega))
              refine lv_aload_n hx hb dX2_searched_109 rfl (lv_at hl 2 rfl) ?_
              refine va_get (D := D) (ci := 2) (v := .ref f) (C := RX2) (T := TX2) (N := 4) hx hb hts inX2 hown hK hP b f_90 rfl 1 (by decide) (hts _ tw_79) (fun _ h9 => h9) rfl dX2_searched_110 ?_
              refine kx_gov (va_runV (As := []) (rest := []) ⟨hx, hb, hml, hown, hts⟩ (c_drop l D k0 u_89 _ (b + 2) f ra pa ro1 pt1 (k + 1) f_91 f_92 f_93 (by omega) (by omega)) ⟨(kg_B (k := 0) hts tw_230 tw_227 tw_20 (by decide +kernel) rfl rfl ⟨by show (0 : Nat) + 1 ≤ 4 + d; omega, by show (8 : Nat) + (1 + 11) + 0 ≤ 100 + 28 * d; omega⟩), hts _ tw_228, hts _ tw_229⟩ (kx_preV hN hK hP hD rfl f_91) rfl rfl hl.1 rfl (lv_room (Nat.le_of_ble_eq_true rfl)) dX2_searched_113 ⟨Nat.zero_le _, Nat.zero_le _⟩) hD hS hA (fun u_105 H locs hp_103 hP hD hS => ?_)
              obtain ⟨⟨hF9, hR9, hT9⟩, hq⟩ := hp_103
              have f_106 : u_105[b]? = some (o, .inr (2, [.ref a1, .ref f, .ref f2, .ref a8])) := by rw [hq _ (by omega)]; exact f_90
              have f_107 : u_105[b + 2]? = some (f, .inr (0, [.ref ra, .ref pa, .int (nI k)])) := hF9
              have f_108 : u_105[b + 2 + 1]? = some (ra, .inl (k0 0, 12, .inl (fun y9 => nI (ro1 y9)))) := hR9
              have f_109 : u_105[b + 2 + 2]? = some (pa, .inl (k0 0, 12, .inl (fun y9 => nI (pt1 y9)))) := hT9
              have f_110 : u_105[b + 5]? = some (f2, .inr (0, [.ref rb, .ref pb, .int (nI kk)])) := by rw [hq _ (by omega)]; exact f_94
              have f_111 : u_105[b + 5 + 1]? = some (rb, .inl (k0 0, 12, .inl (fun y9 => nI (ro2 y9)))) := by rw [hq _ (by omega)]; exact f_95
              have f_112 : u_105[b + 5 + 2]? = some (pb, .inl (k0 0, 12, .inl (fun y9 => nI (pt2 y9)))) := by rw [hq _ (by omega)]; exact f_96
              have f_113 : u_105[qg]? = some (g, .inr (1, [.ref ga, .ref gb, .int (nI n), .int vv, .int oo])) := by rw [hq _ (by omega)]; exact f_97
              have f_114 : u_105[qg + 1]? = some (ga, .inl (k0 0, 12, .inl (fun y9 => nI (L y9)))) := by rw [hq _ (by omega)]; exact f_98
              have f_115 : u_105[qg + 2]? = some (gb, .inl (k0 0, 12, .inl wt)) := by rw [hq _ (by omega)]; exact f_99
              have f_116 : u_105[qh]? = some (g2, .inr (1, [.ref ma, .ref mb, .int (nI n), .int vv2, .int oo2])) := by rw [hq _ (by omega)]; exact f_100
              have f_117 : u_105[qh + 1]? = some (ma, .inl (k0 0, 12, .inl (fun y9 => nI (M y9)))) := by rw [hq _ (by omega)]; exact f_101
              have f_118 : u_105[qh + 2]? = some (mb, .inl (k0 0, 12, .inl wt2)) := by rw [hq _ (by omega)]; exact f_102
              have hfr : kx_fr w0 u_105 (fun j => b + 2 ≤ j ∧ j < b + 8) := kx_fr_tr hfr (kx_fr_mono hq (fun j h => by omega))
              refine lv_aload_n hx hb dX2_searched_116 rfl (lv_at hl 2 rfl) ?_
              refine lv_aload_n hx hb dX2_searched_117 rfl (lv_at hl 3 rfl) ?_
              refine lv_aload_n hx hb dX2_searched_118 rfl (lv_at hl 4 rfl) ?_
              refine lv_iload_n hx hb dX2_searched_119 rfl (lv_at hl 5 rfl) ?_
              refine lv_iconst (v := 1) hx hb dX2_searched_120 (by decide +kernel) ?_
              refine lv_iadd hx hb dX2_searched_121 ?_
              refine lv_topi (fun z_119 ez_119 => ?_)
              have ez_119 : z_119 = nI (e9 + 1) := by rw [ez_119]; exact nI_1 _
              subst ez_119
              refine lv_iload hx hb dX2_searched_122 (lv_at hl 6 rfl) ?_
              refine lv_iload hx hb dX2_searched_124 (lv_at hl 0 rfl) ?_
              refine lv_iload hx hb dX2_searched_126 (lv_at hl 8 rfl) ?_
              refine kx_goi (va_runV (As := [.ref g, .ref g2, .int (nI (e9 + 1)), .int (nI S), .int (nI res1), .int (nI lim)]) (rest := []) ⟨hx, hb, hml, hown, hts⟩ (ih d1 hd1 u_105 _ b o a1 a8 f ra pa ro1 pt1 k f_107 f_108 f_109 f2 rb pb ro2 pt2 kk f_110 f_111 f_112 f_106 qg g ga gb L wt n vv oo f_113 f_114 f_115 qh g2 ma mb M wt2 vv2 oo2 f_116 f_117 f_118 hag hah hn hLb hMb (e9 + 1) S res1 lim (by omega) (fun i hi => hSz i (by omega)) (fo_ag_ok hfo1 (fo_ag_tr (fo_ag_up _ _ _ _ _) (fo_ag_lt hag1))) (fo_ag_ok hfo2 (fo_ag_tr (fo_ag_up _ _ _ _ _) (fo_ag_lt hag2))) (fo_ag_row (p := parts) (p' := pt1) hrow1 (fo_ag_tr (fo_ag_up _ _ _ _ _) (fo_ag_lt hag1))) (fo_ag_row (p := parts2) (p' := pt2) hrow2 (fo_ag_tr (fo_ag_up _ _ _ _ _) (fo_ag_lt hag2))) hsub1 hlim hlb) ⟨(kg_B (k := 6) hts tw_226 tw_223 tw_19 (by decide +kernel) rfl rfl ⟨by show 4 + d1 + 1 ≤ 4 + d; omega, by show (8 : Nat) + (9 + 11) + (100 + 28 * d1) ≤ 100 + 28 * d; omega⟩), hts _ tw_225, hts _ tw_5⟩ (kx_preV hN hK hP hD rfl f_106) rfl rfl hl.1 rfl (lv_room (Nat.le_of_ble_eq_true rfl)) dX2_searched_128 ⟨Nat.zero_le _, Nat.zero_le _⟩) hD hS hA (fun r_121 u_122 H locs hp_120 hP hD hS => ?_)
              obtain ⟨res2, er, hsub2, hsp2, so1, st1, so2, st2, hF9, hF8, hag1b, hag2b, hq⟩ := hp_120
              subst er
              have hfr : kx_fr w0 u_122 (fun j => b + 2 ≤ j ∧ j < b + 8) := kx_fr_tr hfr hq
              exact kx_iret (v := nI res2) hx hb hr rfl hlocks hK hP hD hS dX2_searched_131 (⟨res2, rfl, hsub2, se_in hSe hsp1 hsp2, so1, st1, so2, st2, hF9, hF8, fo_ag_tr (fo_ag_tr (fo_ag_up _ _ _ _ _) (fo_ag_lt hag1)) hag1b, fo_ag_tr (fo_ag_tr (fo_ag_up _ _ _ _ _) (fo_ag_lt hag2)) hag2b, hfr⟩)
    · skip
      have hen : e9 = n := by
        rcases Nat.lt_or_ge e9 n with h | h
        · exact absurd ((nI_ltI (by omega) (by omega)).mpr h) c_37
        · omega
      refine lv_iload hx hb dX2_searched_40 (lv_at hl 5 rfl) ?_
      exact kx_iret (v := nI S) hx hb hr rfl hlocks hK hP hD hS dX2_searched_42 (⟨S, rfl, hSs, by rw [hen]; exact se_leaf hSs hfo1.2.1 hfo2.2.1 (by omega), rows, parts, rows2, parts2, ⟨hF, hR, hT⟩, ⟨hF2, hR2, hT2⟩, fo_ag_rf _ _ _, fo_ag_rf _ _ _, hfr⟩)
  · skip
    have hre : min lim (cf_card n S + n - e9) ≤ cf_card n fd := by
      rcases Nat.lt_or_ge (cf_card n fd) (min lim (cf_card n S + n - e9)) with h | h
      · exact absurd ((nI_ltI (by omega) (by omega)).mpr h) c_26
      · exact h
    refine lv_iload hx hb dX2_searched_29 (lv_at hl 6 rfl) ?_
    exact kx_iret (v := nI fd) hx hb hr rfl hlocks hK hP hD hS dX2_searched_31 (⟨fd, rfl, hfd, se_prune (by omega) hSz hlim hre, rows, parts, rows2, parts2, ⟨hF, hR, hT⟩, ⟨hF2, hR2, hT2⟩, fo_ag_rf _ _ _, fo_ag_rf _ _ _, hfr⟩)

theorem c_searched (l : Launch) (D : va_G) (k0 : Nat → ClassId) : ∀ d, srC l D k0 d := by
  intro d
  induction d with
  | zero => intro w0 sz; exact c_srStep l D k0 0 (fun d1 h => by omega) w0 sz
  | succ d ih => intro w0 sz; exact c_srStep l D k0 (d + 1) (fun d1 h => by have : d = d1 := by omega
                                                                            rw [← this]; exact ih) w0 sz
end
section
set_option maxHeartbeats 4000000 in
set_option maxRecDepth 100000 in
/-- largestInBoth(g, h) -/
theorem c_largest (l : Launch) (D : va_G) (k0 : Nat → ClassId)  (w0 : va_W) (sz : Nat) (b o a1 a8 : Nat) (f ra pa : Nat) (rows parts : Nat → Nat) (k : Nat) (hF : w0[b + 2]? = some (f, .inr (0, [.ref ra, .ref pa, .int (nI k)]))) (hR : w0[b + 2 + 1]? = some (ra, .inl (k0 0, 12, .inl (fun j => nI (rows j))))) (hT : w0[b + 2 + 2]? = some (pa, .inl (k0 0, 12, .inl (fun j => nI (parts j))))) (f2 rb pb : Nat) (rows2 parts2 : Nat → Nat) (kk : Nat) (hF2 : w0[b + 5]? = some (f2, .inr (0, [.ref rb, .ref pb, .int (nI kk)]))) (hR2 : w0[b + 5 + 1]? = some (rb, .inl (k0 0, 12, .inl (fun j => nI (rows2 j))))) (hT2 : w0[b + 5 + 2]? = some (pb, .inl (k0 0, 12, .inl (fun j => nI (parts2 j))))) (hO : w0[b]? = some (o, .inr (2, [.ref a1, .ref f, .ref f2, .ref a8]))) (qg g ga gb : Nat) (L : Nat → Nat) (wt : Nat → Int32) (n : Nat) (vv oo : Int32) (hG : w0[qg]? = some (g, .inr (1, [.ref ga, .ref gb, .int (nI n), .int vv, .int oo]))) (hL : w0[qg + 1]? = some (ga, .inl (k0 0, 12, .inl (fun j => nI (L j))))) (hW : w0[qg + 2]? = some (gb, .inl (k0 0, 12, .inl wt))) (qh g2 ma mb : Nat) (M : Nat → Nat) (wt2 : Nat → Int32) (vv2 oo2 : Int32) (hG2 : w0[qh]? = some (g2, .inr (1, [.ref ma, .ref mb, .int (nI n), .int vv2, .int oo2]))) (hL2 : w0[qh + 1]? = some (ma, .inl (k0 0, 12, .inl (fun j => nI (M j))))) (hW2 : w0[qh + 2]? = some (mb, .inl (k0 0, 12, .inl wt2))) (hag : b + 9 ≤ qg) (hah : b + 9 ≤ qh) (hn : n ≤ 12) (hLb : ∀ j, j < n → L j < 2 ^ 24) (hMb : ∀ j, j < n → M j < 2 ^ 24) : kx_i l yX2_largestInBoth wsX2_largestInBoth ({ frames := 17, cells := 0, slots := 0, locals := 464 } : Room) D (tyL k0) w0 sz [.ref o, .ref g, .ref g2] (fun (r : Int32) (u : va_W) => ∃ res, r = nI res ∧ cm_spec L M n res ∧ ∃ (ro1 pt1 ro2 pt2 : Nat → Nat), atF u (b + 2) k0 f ra pa ro1 pt1 0 ∧ atF u (b + 5) k0 f2 rb pb ro2 pt2 0 ∧ kx_fr w0 u (fun j => b + 2 ≤ j ∧ j < b + 8)) 0 0 := by
  refine kx_of (Qf := fun A => va_Qi (fun (r : Int32) (u : va_W) => ∃ res, r = nI res ∧ cm_spec L M n res ∧ ∃ (ro1 pt1 ro2 pt2 : Nat → Nat), atF u (b + 2) k0 f ra pa ro1 pt1 0 ∧ atF u (b + 5) k0 f2 rb pb ro2 pt2 0 ∧ kx_fr w0 u (fun j => b + 2 ≤ j ∧ j < b + 8)) (kx_B D (tyL k0) A) A) (cc := cX2_largestInBoth) (maxL := 4) (ret := (some .int)) (by decide +kernel) (Nat.le_of_ble_eq_true rfl) ?_
  intro p e s m below meth c A ls hx hb hml hown hts hr hlocks hnm hN hK hP hD hS hA hl
  have hown : s.vm.findClass RX2 = some m.cls := hown
  have hl : lv_has ls 4 [(0, .ref o), (1, .ref g), (2, .ref g2)] := hl
  have hfr : kx_fr w0 w0 (fun j => b + 2 ≤ j ∧ j < b + 8) := kx_fr_rf _ _
  have hfl := kb_full_lt hn
  refine lv_aload_n hx hb dX2_largestInBoth_0 rfl (lv_at hl 0 rfl) ?_
  refine va_get (D := D) (ci := 2) (v := .ref f) (C := RX2) (T := TX2) (N := 4) hx hb hts inX2 hown hK hP b hO rfl 1 (by decide) (hts _ tw_79) (fun _ h9 => h9) rfl dX2_largestInBoth_1 ?_
  refine lv_aload_n hx hb dX2_largestInBoth_4 rfl (lv_at hl 1 rfl) ?_
  refine lv_aload_n hx hb dX2_largestInBoth_5 rfl (lv_at hl 1 rfl) ?_
  refine va_get (D := D) (ci := 1) (v := .int (nI n)) (C := RX1) (T := TX1) (N := 5) hx hb hts inX1 hown hK hP qg hG rfl 2 (by decide) (hts _ tw_64) (fun _ h9 => h9) rfl dX2_largestInBoth_6 ?_
  refine kx_goi (va_runS (As := [.int (nI n)]) (rest := [.ref g, .ref f]) ⟨hx, hb, hml, hown, hts⟩ (c_all l D k0 w0 _ n hn) ⟨(kg_B (k := 1) hts tw_132 tw_130 tw_19 (by decide +kernel) rfl rfl ⟨Nat.le_of_ble_eq_true rfl, Nat.le_of_ble_eq_true rfl⟩), hts _ tw_131⟩ (kx_preS hN hK hP hD) rfl rfl hl.1 rfl (lv_room (Nat.le_of_ble_eq_true rfl)) dX2_largestInBoth_9 ⟨Nat.le_of_ble_eq_true rfl, Nat.le_of_ble_eq_true rfl⟩) hD hS hA (fun r_2 u_3 H locs hp_1 hP hD hS => ?_)
  obtain ⟨er_2, eu_3⟩ := hp_1
  rw [eu_3] at hP hD; subst er_2
  refine kx_goi (va_runV (As := [.ref g, .int (nI (cf_full n))]) (rest := []) ⟨hx, hb, hml, hown, hts⟩ (c_fill l D k0 w0 _ (b + 2) f ra pa rows parts k hF hR hT qg g ga gb L wt n vv oo hG hL hW (by omega) hn hLb (cf_full n) (by omega)) ⟨(kg_B (k := 2) hts tw_136 tw_133 tw_20 (by decide +kernel) rfl rfl ⟨Nat.le_of_ble_eq_true rfl, Nat.le_of_ble_eq_true rfl⟩), hts _ tw_134, hts _ tw_135⟩ (kx_preV hN hK hP hD rfl hF) rfl rfl hl.1 rfl (lv_room (Nat.le_of_ble_eq_true rfl)) dX2_largestInBoth_12 ⟨Nat.le_of_ble_eq_true rfl, Nat.le_of_ble_eq_true rfl⟩) hD hS hA (fun r_5 u_6 H locs hp_4 hP hD hS => ?_)
  obtain ⟨FA, eFA⟩ : ∃ F : fo_St, F = fo_fill L (cf_full n) rows parts n := ⟨_, rfl⟩
  rw [← eFA] at hp_4
  obtain ⟨erFA, ⟨hF9, hR9, hT9⟩, hq⟩ := hp_4
  have f_7 : u_6[b]? = some (o, .inr (2, [.ref a1, .ref f, .ref f2, .ref a8])) := by rw [hq _ (by omega)]; exact hO
  have f_8 : u_6[b + 2]? = some (f, .inr (0, [.ref ra, .ref pa, .int (nI FA.2.2)])) := hF9
  have f_9 : u_6[b + 2 + 1]? = some (ra, .inl (k0 0, 12, .inl (fun y9 => nI (FA.1 y9)))) := hR9
  have f_10 : u_6[b + 2 + 2]? = some (pa, .inl (k0 0, 12, .inl (fun y9 => nI (FA.2.1 y9)))) := hT9
  have f_11 : u_6[b + 5]? = some (f2, .inr (0, [.ref rb, .ref pb, .int (nI kk)])) := by rw [hq _ (by omega)]; exact hF2
  have f_12 : u_6[b + 5 + 1]? = some (rb, .inl (k0 0, 12, .inl (fun y9 => nI (rows2 y9)))) := by rw [hq _ (by omega)]; exact hR2
  have f_13 : u_6[b + 5 + 2]? = some (pb, .inl (k0 0, 12, .inl (fun y9 => nI (parts2 y9)))) := by rw [hq _ (by omega)]; exact hT2
  have f_14 : u_6[qg]? = some (g, .inr (1, [.ref ga, .ref gb, .int (nI n), .int vv, .int oo])) := by rw [hq _ (by omega)]; exact hG
  have f_15 : u_6[qg + 1]? = some (ga, .inl (k0 0, 12, .inl (fun y9 => nI (L y9)))) := by rw [hq _ (by omega)]; exact hL
  have f_16 : u_6[qg + 2]? = some (gb, .inl (k0 0, 12, .inl wt)) := by rw [hq _ (by omega)]; exact hW
  have f_17 : u_6[qh]? = some (g2, .inr (1, [.ref ma, .ref mb, .int (nI n), .int vv2, .int oo2])) := by rw [hq _ (by omega)]; exact hG2
  have f_18 : u_6[qh + 1]? = some (ma, .inl (k0 0, 12, .inl (fun y9 => nI (M y9)))) := by rw [hq _ (by omega)]; exact hL2
  have f_19 : u_6[qh + 2]? = some (mb, .inl (k0 0, 12, .inl wt2)) := by rw [hq _ (by omega)]; exact hW2
  have hfr : kx_fr w0 u_6 (fun j => b + 2 ≤ j ∧ j < b + 8) := kx_fr_tr hfr (kx_fr_mono hq (fun j h => by omega))
  subst erFA
  refine lv_aload_n hx hb dX2_largestInBoth_15 rfl (lv_at hl 0 rfl) ?_
  refine va_get (D := D) (ci := 2) (v := .ref f2) (C := RX2) (T := TX2) (N := 4) hx hb hts inX2 hown hK hP b f_7 rfl 2 (by decide) (hts _ tw_80) (fun _ h9 => h9) rfl dX2_largestInBoth_16 ?_
  refine lv_aload_n hx hb dX2_largestInBoth_19 rfl (lv_at hl 2 rfl) ?_
  refine lv_aload_n hx hb dX2_largestInBoth_20 rfl (lv_at hl 2 rfl) ?_
  refine va_get (D := D) (ci := 1) (v := .int (nI n)) (C := RX1) (T := TX1) (N := 5) hx hb hts inX1 hown hK hP qh f_17 rfl 2 (by decide) (hts _ tw_64) (fun _ h9 => h9) rfl dX2_largestInBoth_21 ?_
  refine kx_goi (va_runS (As := [.int (nI n)]) (rest := [.ref g2, .ref f2, .int (nI FA.2.2)]) ⟨hx, hb, hml, hown, hts⟩ (c_all l D k0 u_6 _ n hn) ⟨(kg_B (k := 1) hts tw_132 tw_130 tw_19 (by decide +kernel) rfl rfl ⟨Nat.le_of_ble_eq_true rfl, Nat.le_of_ble_eq_true rfl⟩), hts _ tw_131⟩ (kx_preS hN hK hP hD) rfl rfl hl.1 rfl (lv_room (Nat.le_of_ble_eq_true rfl)) dX2_largestInBoth_24 ⟨Nat.le_of_ble_eq_true rfl, Nat.le_of_ble_eq_true rfl⟩) hD hS hA (fun r_21 u_22 H locs hp_20 hP hD hS => ?_)
  obtain ⟨er_21, eu_22⟩ := hp_20
  rw [eu_22] at hP hD; subst er_21
  refine kx_goi (va_runV (As := [.ref g2, .int (nI (cf_full n))]) (rest := [.int (nI FA.2.2)]) ⟨hx, hb, hml, hown, hts⟩ (c_fill l D k0 u_6 _ (b + 5) f2 rb pb rows2 parts2 kk f_11 f_12 f_13 qh g2 ma mb M wt2 n vv2 oo2 f_17 f_18 f_19 (by omega) hn hMb (cf_full n) (by omega)) ⟨(kg_B (k := 2) hts tw_136 tw_133 tw_20 (by decide +kernel) rfl rfl ⟨Nat.le_of_ble_eq_true rfl, Nat.le_of_ble_eq_true rfl⟩), hts _ tw_134, hts _ tw_135⟩ (kx_preV hN hK hP hD rfl f_11) rfl rfl hl.1 rfl (lv_room (Nat.le_of_ble_eq_true rfl)) dX2_largestInBoth_27 ⟨Nat.le_of_ble_eq_true rfl, Nat.le_of_ble_eq_true rfl⟩) hD hS hA (fun r_24 u_25 H locs hp_23 hP hD hS => ?_)
  obtain ⟨FB, eFB⟩ : ∃ F : fo_St, F = fo_fill M (cf_full n) rows2 parts2 n := ⟨_, rfl⟩
  rw [← eFB] at hp_23
  obtain ⟨erFB, ⟨hF9, hR9, hT9⟩, hq⟩ := hp_23
  have f_26 : u_25[b]? = some (o, .inr (2, [.ref a1, .ref f, .ref f2, .ref a8])) := by rw [hq _ (by omega)]; exact f_7
  have f_27 : u_25[b + 2]? = some (f, .inr (0, [.ref ra, .ref pa, .int (nI FA.2.2)])) := by rw [hq _ (by omega)]; exact f_8
  have f_28 : u_25[b + 2 + 1]? = some (ra, .inl (k0 0, 12, .inl (fun y9 => nI (FA.1 y9)))) := by rw [hq _ (by omega)]; exact f_9
  have f_29 : u_25[b + 2 + 2]? = some (pa, .inl (k0 0, 12, .inl (fun y9 => nI (FA.2.1 y9)))) := by rw [hq _ (by omega)]; exact f_10
  have f_30 : u_25[b + 5]? = some (f2, .inr (0, [.ref rb, .ref pb, .int (nI FB.2.2)])) := hF9
  have f_31 : u_25[b + 5 + 1]? = some (rb, .inl (k0 0, 12, .inl (fun y9 => nI (FB.1 y9)))) := hR9
  have f_32 : u_25[b + 5 + 2]? = some (pb, .inl (k0 0, 12, .inl (fun y9 => nI (FB.2.1 y9)))) := hT9
  have f_33 : u_25[qg]? = some (g, .inr (1, [.ref ga, .ref gb, .int (nI n), .int vv, .int oo])) := by rw [hq _ (by omega)]; exact f_14
  have f_34 : u_25[qg + 1]? = some (ga, .inl (k0 0, 12, .inl (fun y9 => nI (L y9)))) := by rw [hq _ (by omega)]; exact f_15
  have f_35 : u_25[qg + 2]? = some (gb, .inl (k0 0, 12, .inl wt)) := by rw [hq _ (by omega)]; exact f_16
  have f_36 : u_25[qh]? = some (g2, .inr (1, [.ref ma, .ref mb, .int (nI n), .int vv2, .int oo2])) := by rw [hq _ (by omega)]; exact f_17
  have f_37 : u_25[qh + 1]? = some (ma, .inl (k0 0, 12, .inl (fun y9 => nI (M y9)))) := by rw [hq _ (by omega)]; exact f_18
  have f_38 : u_25[qh + 2]? = some (mb, .inl (k0 0, 12, .inl wt2)) := by rw [hq _ (by omega)]; exact f_19
  have hfr : kx_fr w0 u_25 (fun j => b + 2 ≤ j ∧ j < b + 8) := kx_fr_tr hfr (kx_fr_mono hq (fun j h => by omega))
  subst erFB
  have eA := fo_fill_rk L n (cf_full n) rows parts
  have eB := fo_fill_rk M n (cf_full n) rows2 parts2
  rw [← eFA] at eA
  rw [← eFB] at eB
  have hA12 : FA.2.2 ≤ 12 := by rw [eA]; exact Nat.le_trans cf_rk_le (Nat.le_trans (cf_card_le _ _) hn)
  have hB12 : FB.2.2 ≤ 12 := by rw [eB]; exact Nat.le_trans cf_rk_le (Nat.le_trans (cf_card_le _ _) hn)
  have hfull : ∀ J j : Nat, j < n → J.testBit j = true → (cf_full n).testBit j = true := fun J j hj _ => by rw [cf_full_bit]; exact decide_eq_true hj
  have hlim : ∀ J, cf_ind L n J → cf_ind M n J → cf_card n J ≤ min FA.2.2 FB.2.2 := fun J h1 h2 => by
    have k1 := cf_rk_ind (S := cf_full n) h1 (hfull J)
    have k2 := cf_rk_ind (S := cf_full n) h2 (hfull J)
    omega
  refine va_mmin hx hb (by rw [hml]; exact hl.1.symm) hown (hts _ tw_222) (hts _ tw_153) (hts _ tw_23) (hts _ tw_min) (Nat.le_of_ble_eq_true rfl) (Nat.le_of_ble_eq_true rfl) (Nat.le_of_ble_eq_true rfl) (Nat.le_of_ble_eq_true rfl) dX2_largestInBoth_30 ?_
  refine lv_topi (fun z_39 ez_39 => ?_)
  have ez_39 : z_39 = nI (min FA.2.2 FB.2.2) := by rw [ez_39]; exact kb_minN (by omega) (by omega)
  subst ez_39
  refine lv_istore_n (lv' := [(3, .int (nI (min FA.2.2 FB.2.2))), (0, .ref o), (1, .ref g), (2, .ref g2)]) hx hb dX2_largestInBoth_33 rfl hl (by decide) rfl (fun ls hl => ?_)
  refine lv_aload_n hx hb dX2_largestInBoth_34 rfl (lv_at hl 1 rfl) ?_
  refine va_get (D := D) (ci := 2) (v := .ref f) (C := RX2) (T := TX2) (N := 4) hx hb hts inX2 hown hK hP b f_26 rfl 1 (by decide) (hts _ tw_79) (fun _ h9 => h9) rfl dX2_largestInBoth_35 ?_
  refine kx_gov (va_runV (As := []) (rest := []) ⟨hx, hb, hml, hown, hts⟩ (c_clear l D k0 u_25 _ (b + 2) f ra pa FA.1 FA.2.1 FA.2.2 f_27 f_28 f_29) ⟨(kg_B (k := 0) hts tw_140 tw_203 tw_20 (by decide +kernel) rfl rfl ⟨Nat.le_of_ble_eq_true rfl, Nat.le_of_ble_eq_true rfl⟩), hts _ tw_138, hts _ tw_139⟩ (kx_preV hN hK hP hD rfl f_27) rfl rfl hl.1 rfl (lv_room (Nat.le_of_ble_eq_true rfl)) dX2_largestInBoth_38 ⟨Nat.le_of_ble_eq_true rfl, Nat.le_of_ble_eq_true rfl⟩) hD hS hA (fun u_42 H locs hp_40 hP hD hS => ?_)
  obtain ⟨⟨hF9, hR9, hT9⟩, hq⟩ := hp_40
  have f_43 : u_42[b]? = some (o, .inr (2, [.ref a1, .ref f, .ref f2, .ref a8])) := by rw [hq _ (by omega)]; exact f_26
  have f_44 : u_42[b + 2]? = some (f, .inr (0, [.ref ra, .ref pa, .int (nI 0)])) := hF9
  have f_45 : u_42[b + 2 + 1]? = some (ra, .inl (k0 0, 12, .inl (fun y9 => nI (FA.1 y9)))) := hR9
  have f_46 : u_42[b + 2 + 2]? = some (pa, .inl (k0 0, 12, .inl (fun y9 => nI (FA.2.1 y9)))) := hT9
  have f_47 : u_42[b + 5]? = some (f2, .inr (0, [.ref rb, .ref pb, .int (nI FB.2.2)])) := by rw [hq _ (by omega)]; exact f_30
  have f_48 : u_42[b + 5 + 1]? = some (rb, .inl (k0 0, 12, .inl (fun y9 => nI (FB.1 y9)))) := by rw [hq _ (by omega)]; exact f_31
  have f_49 : u_42[b + 5 + 2]? = some (pb, .inl (k0 0, 12, .inl (fun y9 => nI (FB.2.1 y9)))) := by rw [hq _ (by omega)]; exact f_32
  have f_50 : u_42[qg]? = some (g, .inr (1, [.ref ga, .ref gb, .int (nI n), .int vv, .int oo])) := by rw [hq _ (by omega)]; exact f_33
  have f_51 : u_42[qg + 1]? = some (ga, .inl (k0 0, 12, .inl (fun y9 => nI (L y9)))) := by rw [hq _ (by omega)]; exact f_34
  have f_52 : u_42[qg + 2]? = some (gb, .inl (k0 0, 12, .inl wt)) := by rw [hq _ (by omega)]; exact f_35
  have f_53 : u_42[qh]? = some (g2, .inr (1, [.ref ma, .ref mb, .int (nI n), .int vv2, .int oo2])) := by rw [hq _ (by omega)]; exact f_36
  have f_54 : u_42[qh + 1]? = some (ma, .inl (k0 0, 12, .inl (fun y9 => nI (M y9)))) := by rw [hq _ (by omega)]; exact f_37
  have f_55 : u_42[qh + 2]? = some (mb, .inl (k0 0, 12, .inl wt2)) := by rw [hq _ (by omega)]; exact f_38
  have hfr : kx_fr w0 u_42 (fun j => b + 2 ≤ j ∧ j < b + 8) := kx_fr_tr hfr (kx_fr_mono hq (fun j h => by omega))
  refine lv_aload_n hx hb dX2_largestInBoth_41 rfl (lv_at hl 1 rfl) ?_
  refine va_get (D := D) (ci := 2) (v := .ref f2) (C := RX2) (T := TX2) (N := 4) hx hb hts inX2 hown hK hP b f_43 rfl 2 (by decide) (hts _ tw_80) (fun _ h9 => h9) rfl dX2_largestInBoth_42 ?_
  refine kx_gov (va_runV (As := []) (rest := []) ⟨hx, hb, hml, hown, hts⟩ (c_clear l D k0 u_42 _ (b + 5) f2 rb pb FB.1 FB.2.1 FB.2.2 f_47 f_48 f_49) ⟨(kg_B (k := 0) hts tw_140 tw_203 tw_20 (by decide +kernel) rfl rfl ⟨Nat.le_of_ble_eq_true rfl, Nat.le_of_ble_eq_true rfl⟩), hts _ tw_138, hts _ tw_139⟩ (kx_preV hN hK hP hD rfl f_47) rfl rfl hl.1 rfl (lv_room (Nat.le_of_ble_eq_true rfl)) dX2_largestInBoth_45 ⟨Nat.le_of_ble_eq_true rfl, Nat.le_of_ble_eq_true rfl⟩) hD hS hA (fun u_58 H locs hp_56 hP hD hS => ?_)
  obtain ⟨⟨hF9, hR9, hT9⟩, hq⟩ := hp_56
  have f_59 : u_58[b]? = some (o, .inr (2, [.ref a1, .ref f, .ref f2, .ref a8])) := by rw [hq _ (by omega)]; exact f_43
  have f_60 : u_58[b + 2]? = some (f, .inr (0, [.ref ra, .ref pa, .int (nI 0)])) := by rw [hq _ (by omega)]; exact f_44
  have f_61 : u_58[b + 2 + 1]? = some (ra, .inl (k0 0, 12, .inl (fun y9 => nI (FA.1 y9)))) := by rw [hq _ (by omega)]; exact f_45
  have f_62 : u_58[b + 2 + 2]? = some (pa, .inl (k0 0, 12, .inl (fun y9 => nI (FA.2.1 y9)))) := by rw [hq _ (by omega)]; exact f_46
  have f_63 : u_58[b + 5]? = some (f2, .inr (0, [.ref rb, .ref pb, .int (nI 0)])) := hF9
  have f_64 : u_58[b + 5 + 1]? = some (rb, .inl (k0 0, 12, .inl (fun y9 => nI (FB.1 y9)))) := hR9
  have f_65 : u_58[b + 5 + 2]? = some (pb, .inl (k0 0, 12, .inl (fun y9 => nI (FB.2.1 y9)))) := hT9
  have f_66 : u_58[qg]? = some (g, .inr (1, [.ref ga, .ref gb, .int (nI n), .int vv, .int oo])) := by rw [hq _ (by omega)]; exact f_50
  have f_67 : u_58[qg + 1]? = some (ga, .inl (k0 0, 12, .inl (fun y9 => nI (L y9)))) := by rw [hq _ (by omega)]; exact f_51
  have f_68 : u_58[qg + 2]? = some (gb, .inl (k0 0, 12, .inl wt)) := by rw [hq _ (by omega)]; exact f_52
  have f_69 : u_58[qh]? = some (g2, .inr (1, [.ref ma, .ref mb, .int (nI n), .int vv2, .int oo2])) := by rw [hq _ (by omega)]; exact f_53
  have f_70 : u_58[qh + 1]? = some (ma, .inl (k0 0, 12, .inl (fun y9 => nI (M y9)))) := by rw [hq _ (by omega)]; exact f_54
  have f_71 : u_58[qh + 2]? = some (mb, .inl (k0 0, 12, .inl wt2)) := by rw [hq _ (by omega)]; exact f_55
  have hfr : kx_fr w0 u_58 (fun j => b + 2 ≤ j ∧ j < b + 8) := kx_fr_tr hfr (kx_fr_mono hq (fun j h => by omega))
  refine lv_aload_n hx hb dX2_largestInBoth_48 rfl (lv_at hl 1 rfl) ?_
  refine lv_aload_n hx hb dX2_largestInBoth_49 rfl (lv_at hl 2 rfl) ?_
  refine lv_aload_n hx hb dX2_largestInBoth_50 rfl (lv_at hl 3 rfl) ?_
  refine lv_iconst (v := nI 0) hx hb dX2_largestInBoth_51 (by decide +kernel) ?_
  refine lv_iconst (v := nI 0) hx hb dX2_largestInBoth_52 (by decide +kernel) ?_
  refine lv_iconst (v := nI 0) hx hb dX2_largestInBoth_53 (by decide +kernel) ?_
  refine lv_iload_n hx hb dX2_largestInBoth_54 rfl (lv_at hl 0 rfl) ?_
  refine kx_goi (va_runV (As := [.ref g, .ref g2, .int (nI 0), .int (nI 0), .int (nI 0), .int (nI (min FA.2.2 FB.2.2))]) (rest := []) ⟨hx, hb, hml, hown, hts⟩ (c_searched l D k0 n u_58 _ b o a1 a8 f ra pa FA.1 FA.2.1 0 f_60 f_61 f_62 f2 rb pb FB.1 FB.2.1 0 f_63 f_64 f_65 f_59 qg g ga gb L wt n vv oo f_66 f_67 f_68 qh g2 ma mb M wt2 vv2 oo2 f_69 f_70 f_71 hag hah hn hLb hMb 0 0 0 (min FA.2.2 FB.2.2) (Nat.zero_add n) (fun i _ => Nat.zero_testBit i) (fo_ok_0 _ _ _ _) (fo_ok_0 _ _ _ _) (fun j h => absurd h (Nat.not_lt_zero j)) (fun j h => absurd h (Nat.not_lt_zero j)) (cf_sub_0 _) hlim (by omega)) ⟨(kg_B (k := 6) hts tw_226 tw_223 tw_19 (by decide +kernel) rfl rfl ⟨by show 4 + n + 1 ≤ (17 : Nat); omega, by show (8 : Nat) + (9 + 11) + (100 + 28 * n) ≤ 464; omega⟩), hts _ tw_225, hts _ tw_5⟩ (kx_preV hN hK hP hD rfl f_59) rfl rfl hl.1 rfl (lv_room (Nat.le_of_ble_eq_true rfl)) dX2_largestInBoth_55 ⟨Nat.le_of_ble_eq_true rfl, Nat.le_of_ble_eq_true rfl⟩) hD hS hA (fun r_73 u_74 H locs hp_72 hP hD hS => ?_)
  obtain ⟨res, er, _, hsp, so1, st1, so2, st2, hF9, hF8, _, _, hq⟩ := hp_72
  subst er
  have hfr : kx_fr w0 u_74 (fun j => b + 2 ≤ j ∧ j < b + 8) := kx_fr_tr hfr hq
  exact kx_iret (v := nI res) hx hb hr rfl hlocks hK hP hD hS dX2_largestInBoth_58 (⟨res, rfl, cm_of_se hsp, so1, st1, so2, st2, hF9, hF8, hfr⟩)

theorem cv_grown_lt {I C n : Nat} {w1 w2 : Nat → Nat} (hn : n ≤ 12) (hC : C < 2 ^ 12) (h1 : ∀ e, e < n → w1 e < 2 ^ 12) : ∀ m, m ≤ n → cv_grown I w1 w2 C m < 2 ^ 12 := by
  intro m
  induction m with
  | zero => intro _; exact hC
  | succ m ih =>
    intro hm
    have h := ih (by omega)
    simp only [cv_grown]
    split
    · exact h
    · split
      · exact Nat.or_lt_two_pow h (h1 m (by omega))
      · split
        · exact h
        · exact Nat.or_lt_two_pow h (Nat.pow_lt_pow_right (by omega) (by omega))
theorem cv_g_1 {I C e : Nat} {w1 w2 : Nat → Nat} (h : I.testBit e = true) : cv_grown I w1 w2 C (e + 1) = cv_grown I w1 w2 C e := by simp only [cv_grown]; rw [if_pos h]
theorem cv_g_2 {I C e : Nat} {w1 w2 : Nat → Nat} (h : I.testBit e = false) (h2 : (cv_grown I w1 w2 C e).testBit e = true) : cv_grown I w1 w2 C (e + 1) = cv_grown I w1 w2 C e ||| w1 e := by simp only [cv_grown]; rw [if_neg (by rw [h]; simp), if_pos h2]
theorem cv_g_3 {I C e : Nat} {w1 w2 : Nat → Nat} (h : I.testBit e = false) (h2 : (cv_grown I w1 w2 C e).testBit e = false) (h3 : w2 e &&& cv_grown I w1 w2 C e = 0) : cv_grown I w1 w2 C (e + 1) = cv_grown I w1 w2 C e := by simp only [cv_grown]; rw [if_neg (by rw [h]; simp), if_neg (by rw [h2]; simp), if_pos h3]
theorem cv_g_4 {I C e : Nat} {w1 w2 : Nat → Nat} (h : I.testBit e = false) (h2 : (cv_grown I w1 w2 C e).testBit e = false) (h3 : ¬ w2 e &&& cv_grown I w1 w2 C e = 0) : cv_grown I w1 w2 C (e + 1) = cv_grown I w1 w2 C e ||| 2 ^ e := by simp only [cv_grown]; rw [if_neg (by rw [h]; simp), if_neg (by rw [h2]; simp), if_neg h3]

set_option maxHeartbeats 4000000 in
set_option maxRecDepth 100000 in
/-- grown(g, h, common, cover) -/
theorem c_grown (l : Launch) (D : va_G) (k0 : Nat → ClassId)  (w0 : va_W) (sz : Nat) (b o a1 a8 : Nat) (f ra pa : Nat) (rows parts : Nat → Nat) (k : Nat) (hF : w0[b + 2]? = some (f, .inr (0, [.ref ra, .ref pa, .int (nI k)]))) (hR : w0[b + 2 + 1]? = some (ra, .inl (k0 0, 12, .inl (fun j => nI (rows j))))) (hT : w0[b + 2 + 2]? = some (pa, .inl (k0 0, 12, .inl (fun j => nI (parts j))))) (f2 rb pb : Nat) (rows2 parts2 : Nat → Nat) (kk : Nat) (hF2 : w0[b + 5]? = some (f2, .inr (0, [.ref rb, .ref pb, .int (nI kk)]))) (hR2 : w0[b + 5 + 1]? = some (rb, .inl (k0 0, 12, .inl (fun j => nI (rows2 j))))) (hT2 : w0[b + 5 + 2]? = some (pb, .inl (k0 0, 12, .inl (fun j => nI (parts2 j))))) (hO : w0[b]? = some (o, .inr (2, [.ref a1, .ref f, .ref f2, .ref a8]))) (qg g ga gb : Nat) (L : Nat → Nat) (wt : Nat → Int32) (n : Nat) (vv oo : Int32) (hG : w0[qg]? = some (g, .inr (1, [.ref ga, .ref gb, .int (nI n), .int vv, .int oo]))) (hL : w0[qg + 1]? = some (ga, .inl (k0 0, 12, .inl (fun j => nI (L j))))) (hW : w0[qg + 2]? = some (gb, .inl (k0 0, 12, .inl wt))) (qh g2 ma mb : Nat) (M : Nat → Nat) (wt2 : Nat → Int32) (vv2 oo2 : Int32) (hG2 : w0[qh]? = some (g2, .inr (1, [.ref ma, .ref mb, .int (nI n), .int vv2, .int oo2]))) (hL2 : w0[qh + 1]? = some (ma, .inl (k0 0, 12, .inl (fun j => nI (M j))))) (hW2 : w0[qh + 2]? = some (mb, .inl (k0 0, 12, .inl wt2))) (hag : b + 9 ≤ qg) (hah : b + 9 ≤ qh) (hn : n ≤ 12) (hLb : ∀ j, j < n → L j < 2 ^ 24) (hMb : ∀ j, j < n → M j < 2 ^ 24) (hk : k ≤ 12) (hkk : kk ≤ 12) (hrow1 : ∀ j, j < k → rows j < 2 ^ 24) (hrow2 : ∀ j, j < kk → rows2 j < 2 ^ 24) (hpt1 : ∀ j, j < k → parts j < 2 ^ 12) (hpt2 : ∀ j, j < kk → parts2 j < 2 ^ 12) (I9 C : Nat) (hI9 : I9 < 2 ^ 12) (hC9 : C < 2 ^ 12) : kx_i l yX2_grown wsX2_grown ({ frames := 1, cells := 0, slots := 0, locals := 32 } : Room) D (tyL k0) w0 sz [.ref o, .ref g, .ref g2, .int (nI I9), .int (nI C)] (fun (r : Int32) (u : va_W) => r = nI (cv_grown I9 (fun e => fo_way rows parts (L e) k) (fun e => fo_way rows2 parts2 (M e) kk) C n) ∧ u = w0) 0 0 := by
  refine kx_of (Qf := fun A => va_Qi (fun (r : Int32) (u : va_W) => r = nI (cv_grown I9 (fun e => fo_way rows parts (L e) k) (fun e => fo_way rows2 parts2 (M e) kk) C n) ∧ u = w0) (kx_B D (tyL k0) A) A) (cc := cX2_grown) (maxL := 7) (ret := (some .int)) (by decide +kernel) (Nat.le_of_ble_eq_true rfl) ?_
  intro p e s m below meth c A ls hx hb hml hown hts hr hlocks hnm hN hK hP hD hS hA hl
  have hown : s.vm.findClass RX2 = some m.cls := hown
  have hl : lv_has ls 7 [(0, .ref o), (1, .ref g), (2, .ref g2), (3, .int (nI I9)), (4, .int (nI C))] := hl
  skip
  refine lv_iload hx hb dX2_grown_0 (lv_at hl 4 rfl) ?_
  refine lv_istore (lv' := [(5, .int (nI C)), (0, .ref o), (1, .ref g), (2, .ref g2), (3, .int (nI I9)), (4, .int (nI C))]) hx hb dX2_grown_2 hl (by decide) rfl (fun ls hl => ?_)
  refine lv_iconst (v := nI 0) hx hb dX2_grown_4 (by decide +kernel) ?_
  refine lv_istore (lv' := [(6, .int (nI 0)), (5, .int (nI C)), (0, .ref o), (1, .ref g), (2, .ref g2), (3, .int (nI I9)), (4, .int (nI C))]) hx hb dX2_grown_5 hl (by decide) rfl (fun ls hl => ?_)
  have loop_7 : ∀ (n7 : Nat) (e9 : Nat), (e9 ≤ n) → (n + 1 ≤ e9 + n7) → ∀ (H : Heap) (locs : List Loc), va_P D vwCl w0 H → va_D A w0 → va_S A s.heap H locs → ∀ (ls : Array Slot), lv_has ls 7 [(6, .int (nI e9)), (5, .int (nI (cv_grown I9 (fun e => fo_way rows parts (L e) k) (fun e => fo_way rows2 parts2 (M e) kk) C e9))), (0, .ref o), (1, .ref g), (2, .ref g2), (3, .int (nI I9)), (4, .int (nI C))] → W p l e ({ frames := 1, cells := 0, slots := 0, locals := 32 } : Room) s m ([.ref o, .ref g, .ref g2, .int (nI I9), .int (nI C)] : List Value).toArray below meth c H locs 0 0 (MQ below (va_Qi (fun (r : Int32) (u : va_W) => r = nI (cv_grown I9 (fun e => fo_way rows parts (L e) k) (fun e => fo_way rows2 parts2 (M e) kk) C n) ∧ u = w0) (kx_B D (tyL k0) A) A) ([.ref o, .ref g, .ref g2, .int (nI I9), .int (nI C)] : List Value).toArray s 0 0 A) (F0 m 7 ls []) := by
    intro n7
    induction n7 with
    | zero =>
      intro e9 he hme
      exact absurd hme (by omega)
    | succ n7 ih7 =>
      intro e9 he hme  H locs hP hD hS ls hl
      refine lv_iload hx hb dX2_grown_7 (lv_at hl 0 rfl) ?_
      refine lv_aload_n hx hb dX2_grown_9 rfl (lv_at hl 3 rfl) ?_
      refine va_get (D := D) (ci := 1) (v := .int (nI n)) (C := RX1) (T := TX1) (N := 5) hx hb hts inX1 hown hK hP qg hG rfl 2 (by decide) (hts _ tw_64) (fun _ h9 => h9) rfl dX2_grown_10 ?_
      refine lv_icmp_ge (tgt := 95) hx hb dX2_grown_13 (by decide) (fun c_13 => ?_) (fun c_13 => ?_)
      · skip
        have hik : e9 = n := by
          have := (nI_leI (by omega) (by omega)).mp c_13
          omega
        subst hik
        refine lv_iload hx hb dX2_grown_95 (lv_at hl 1 rfl) ?_
        exact kx_iret (v := nI (cv_grown I9 (fun e => fo_way rows parts (L e) k) (fun e => fo_way rows2 parts2 (M e) kk) C e9)) hx hb hr rfl hlocks hK hP hD hS dX2_grown_97 (⟨rfl, rfl⟩)
      · skip
        have hik : e9 < n := by
          rcases Nat.lt_or_ge (e9) (n) with h | h
          · exact h
          · exact absurd ((nI_leI (by omega) (by omega)).mpr h) c_13
        have hgl : cv_grown I9 (fun e => fo_way rows parts (L e) k) (fun e => fo_way rows2 parts2 (M e) kk) C e9 < 2 ^ 12 := cv_grown_lt hn hC9 (fun e _ => fo_way_lt hpt1 k (Nat.le_refl k)) e9 he
        have hw2 : fo_way rows2 parts2 (M e9) kk < 2 ^ 12 := fo_way_lt hpt2 kk (Nat.le_refl kk)
        refine lv_iload_n hx hb dX2_grown_16 rfl (lv_at hl 5 rfl) ?_
        refine lv_iload hx hb dX2_grown_17 (lv_at hl 0 rfl) ?_
        refine kx_goi (va_runS (As := [.int (nI I9), .int (nI e9)]) (rest := []) ⟨hx, hb, hml, hown, hts⟩ (c_has l D k0 w0 _ I9 e9 (by omega) (by omega)) ⟨(kg_B (k := 2) hts tw_143 tw_159 tw_19 (by decide +kernel) rfl rfl ⟨Nat.le_of_ble_eq_true rfl, Nat.le_of_ble_eq_true rfl⟩), hts _ tw_142⟩ (kx_preS hN hK hP hD) rfl rfl hl.1 rfl (lv_room (Nat.le_of_ble_eq_true rfl)) dX2_grown_19 ⟨Nat.le_of_ble_eq_true rfl, Nat.le_of_ble_eq_true rfl⟩) hD hS hA (fun r_2 u_3 H locs hp_1 hP hD hS => ?_)
        obtain ⟨er_2, eu_3⟩ := hp_1
        rw [eu_3] at hP hD; subst er_2
        refine lv_if_eq (tgt := 28) hx hb dX2_grown_22 (by decide) (fun c_22 => ?_) (fun c_22 => ?_)
        · skip
          have hT22 : (I9).testBit e9 = false := (kb_bool _).mp c_22
          refine lv_iload hx hb dX2_grown_28 (lv_at hl 1 rfl) ?_
          refine lv_iload hx hb dX2_grown_30 (lv_at hl 0 rfl) ?_
          refine kx_goi (va_runS (As := [.int (nI (cv_grown I9 (fun e => fo_way rows parts (L e) k) (fun e => fo_way rows2 parts2 (M e) kk) C e9)), .int (nI e9)]) (rest := []) ⟨hx, hb, hml, hown, hts⟩ (c_has l D k0 w0 _ (cv_grown I9 (fun e => fo_way rows parts (L e) k) (fun e => fo_way rows2 parts2 (M e) kk) C e9) e9 (by omega) (by omega)) ⟨(kg_B (k := 2) hts tw_143 tw_159 tw_19 (by decide +kernel) rfl rfl ⟨Nat.le_of_ble_eq_true rfl, Nat.le_of_ble_eq_true rfl⟩), hts _ tw_142⟩ (kx_preS hN hK hP hD) rfl rfl hl.1 rfl (lv_room (Nat.le_of_ble_eq_true rfl)) dX2_grown_32 ⟨Nat.le_of_ble_eq_true rfl, Nat.le_of_ble_eq_true rfl⟩) hD hS hA (fun r_5 u_6 H locs hp_4 hP hD hS => ?_)
          obtain ⟨er_5, eu_6⟩ := hp_4
          rw [eu_6] at hP hD; subst er_5
          refine lv_if_eq (tgt := 60) hx hb dX2_grown_35 (by decide) (fun c_35 => ?_) (fun c_35 => ?_)
          · skip
            have hT35 : (cv_grown I9 (fun e => fo_way rows parts (L e) k) (fun e => fo_way rows2 parts2 (M e) kk) C e9).testBit e9 = false := (kb_bool _).mp c_35
            refine lv_aload_n hx hb dX2_grown_60 rfl (lv_at hl 2 rfl) ?_
            refine va_get (D := D) (ci := 2) (v := .ref f2) (C := RX2) (T := TX2) (N := 4) hx hb hts inX2 hown hK hP b hO rfl 2 (by decide) (hts _ tw_80) (fun _ h9 => h9) rfl dX2_grown_61 ?_
            refine lv_aload_n hx hb dX2_grown_64 rfl (lv_at hl 4 rfl) ?_
            refine va_get (D := D) (ci := 1) (v := .ref ma) (C := RX1) (T := TX1) (N := 5) hx hb hts inX1 hown hK hP qh hG2 rfl 0 (by decide) (hts _ tw_59) (fun _ h9 => h9) rfl dX2_grown_65 ?_
            refine lv_iload hx hb dX2_grown_68 (lv_at hl 0 rfl) ?_
            refine kx_nald hx hb hK hP (qh + 1) hL2 rfl (i := e9) (by omega) (by decide) dX2_grown_70 ?_
            refine kx_goi (va_runV (As := [.int (nI (M e9))]) (rest := []) ⟨hx, hb, hml, hown, hts⟩ (c_way l D k0 w0 _ (b + 5) f2 rb pb rows2 parts2 kk hF2 hR2 hT2 hkk hrow2 (M e9) (hMb e9 hik)) ⟨(kg_B (k := 1) hts tw_158 tw_243 tw_20 (by decide +kernel) rfl rfl ⟨Nat.le_of_ble_eq_true rfl, Nat.le_of_ble_eq_true rfl⟩), hts _ tw_156, hts _ tw_157⟩ (kx_preV hN hK hP hD rfl hF2) rfl rfl hl.1 rfl (lv_room (Nat.le_of_ble_eq_true rfl)) dX2_grown_71 ⟨Nat.le_of_ble_eq_true rfl, Nat.le_of_ble_eq_true rfl⟩) hD hS hA (fun r_8 u_9 H locs hp_7 hP hD hS => ?_)
            obtain ⟨er_8, eu_9⟩ := hp_7
            rw [eu_9] at hP hD; subst er_8
            refine lv_iload hx hb dX2_grown_74 (lv_at hl 1 rfl) ?_
            refine lv_iand hx hb dX2_grown_76 ?_
            refine lv_topi (fun z_10 ez_10 => ?_)
            have ez_10 : z_10 = nI (fo_way rows2 parts2 (M e9) kk &&& cv_grown I9 (fun e => fo_way rows parts (L e) k) (fun e => fo_way rows2 parts2 (M e) kk) C e9) := by rw [ez_10]; exact kb_and _ _
            subst ez_10
            refine lv_if_eq (tgt := 89) hx hb dX2_grown_77 (by decide) (fun c_77 => ?_) (fun c_77 => ?_)
            · skip
              have h77 : fo_way rows2 parts2 (M e9) kk &&& cv_grown I9 (fun e => fo_way rows parts (L e) k) (fun e => fo_way rows2 parts2 (M e) kk) C e9 = 0 := (kb_eq0 (Nat.lt_of_le_of_lt Nat.and_le_left (by omega))).mp c_77
              rw [← cv_g_3 (w1 := (fun e => fo_way rows parts (L e) k)) (w2 := (fun e => fo_way rows2 parts2 (M e) kk)) (C := C) hT22 hT35 h77] at hl
              refine lv_iinc (v := nI (e9 + 1)) (lv' := [(6, .int (nI (e9 + 1))), (5, .int (nI (cv_grown I9 (fun e => fo_way rows parts (L e) k) (fun e => fo_way rows2 parts2 (M e) kk) C (e9 + 1)))), (0, .ref o), (1, .ref g), (2, .ref g2), (3, .int (nI I9)), (4, .int (nI C))]) hx hb dX2_grown_89 hl (k := 0) rfl (nI_1 _) (by decide) rfl (fun ls hl => ?_)
              refine lv_goto (tgt := 7) hx hb dX2_grown_92 (by decide) ?_
              exact ih7 (e9 + 1) (by omega) (by omega) _ _ hP hD hS _ (lv_sub hl [0, 1, 2, 3, 4, 5, 6] rfl)
            · skip
              have h77 : ¬ fo_way rows2 parts2 (M e9) kk &&& cv_grown I9 (fun e => fo_way rows parts (L e) k) (fun e => fo_way rows2 parts2 (M e) kk) C e9 = 0 := fun h => c_77 ((kb_eq0 (Nat.lt_of_le_of_lt Nat.and_le_left (by omega))).mpr h)
              refine lv_iload hx hb dX2_grown_80 (lv_at hl 1 rfl) ?_
              refine lv_iconst (v := 1) hx hb dX2_grown_82 (by decide +kernel) ?_
              refine lv_iload hx hb dX2_grown_83 (lv_at hl 0 rfl) ?_
              refine lv_ishl hx hb dX2_grown_85 ?_
              refine lv_topi (fun z_11 ez_11 => ?_)
              have ez_11 : z_11 = nI (2 ^ e9) := by rw [ez_11]; exact kb_one (by omega)
              subst ez_11
              refine lv_ior hx hb dX2_grown_86 ?_
              refine lv_topi (fun z_12 ez_12 => ?_)
              have ez_12 : z_12 = nI (cv_grown I9 (fun e => fo_way rows parts (L e) k) (fun e => fo_way rows2 parts2 (M e) kk) C (e9 + 1)) := by rw [ez_12]; rw [kb_or, cv_g_4 hT22 hT35 h77]
              subst ez_12
              refine lv_istore (lv' := [(5, .int (nI (cv_grown I9 (fun e => fo_way rows parts (L e) k) (fun e => fo_way rows2 parts2 (M e) kk) C (e9 + 1)))), (6, .int (nI e9)), (0, .ref o), (1, .ref g), (2, .ref g2), (3, .int (nI I9)), (4, .int (nI C))]) hx hb dX2_grown_87 hl (by decide) rfl (fun ls hl => ?_)
              refine lv_iinc (v := nI (e9 + 1)) (lv' := [(6, .int (nI (e9 + 1))), (5, .int (nI (cv_grown I9 (fun e => fo_way rows parts (L e) k) (fun e => fo_way rows2 parts2 (M e) kk) C (e9 + 1)))), (0, .ref o), (1, .ref g), (2, .ref g2), (3, .int (nI I9)), (4, .int (nI C))]) hx hb dX2_grown_89 hl (k := 1) rfl (nI_1 _) (by decide) rfl (fun ls hl => ?_)
              refine lv_goto (tgt := 7) hx hb dX2_grown_92 (by decide) ?_
              exact ih7 (e9 + 1) (by omega) (by omega) _ _ hP hD hS _ (lv_sub hl [0, 1, 2, 3, 4, 5, 6] rfl)
          · skip
            have hT35 : (cv_grown I9 (fun e => fo_way rows parts (L e) k) (fun e => fo_way rows2 parts2 (M e) kk) C e9).testBit e9 = true := by
              cases hq9 : (cv_grown I9 (fun e => fo_way rows parts (L e) k) (fun e => fo_way rows2 parts2 (M e) kk) C e9).testBit e9 with
              | true => rfl
              | false => exact absurd ((kb_bool _).mpr hq9) c_35
            refine lv_iload hx hb dX2_grown_38 (lv_at hl 1 rfl) ?_
            refine lv_aload_n hx hb dX2_grown_40 rfl (lv_at hl 2 rfl) ?_
            refine va_get (D := D) (ci := 2) (v := .ref f) (C := RX2) (T := TX2) (N := 4) hx hb hts inX2 hown hK hP b hO rfl 1 (by decide) (hts _ tw_79) (fun _ h9 => h9) rfl dX2_grown_41 ?_
            refine lv_aload_n hx hb dX2_grown_44 rfl (lv_at hl 3 rfl) ?_
            refine va_get (D := D) (ci := 1) (v := .ref ga) (C := RX1) (T := TX1) (N := 5) hx hb hts inX1 hown hK hP qg hG rfl 0 (by decide) (hts _ tw_59) (fun _ h9 => h9) rfl dX2_grown_45 ?_
            refine lv_iload hx hb dX2_grown_48 (lv_at hl 0 rfl) ?_
            refine kx_nald hx hb hK hP (qg + 1) hL rfl (i := e9) (by omega) (by decide) dX2_grown_50 ?_
            refine kx_goi (va_runV (As := [.int (nI (L e9))]) (rest := [.int (nI (cv_grown I9 (fun e => fo_way rows parts (L e) k) (fun e => fo_way rows2 parts2 (M e) kk) C e9))]) ⟨hx, hb, hml, hown, hts⟩ (c_way l D k0 w0 _ (b + 2) f ra pa rows parts k hF hR hT hk hrow1 (L e9) (hLb e9 hik)) ⟨(kg_B (k := 1) hts tw_158 tw_243 tw_20 (by decide +kernel) rfl rfl ⟨Nat.le_of_ble_eq_true rfl, Nat.le_of_ble_eq_true rfl⟩), hts _ tw_156, hts _ tw_157⟩ (kx_preV hN hK hP hD rfl hF) rfl rfl hl.1 rfl (lv_room (Nat.le_of_ble_eq_true rfl)) dX2_grown_51 ⟨Nat.le_of_ble_eq_true rfl, Nat.le_of_ble_eq_true rfl⟩) hD hS hA (fun r_14 u_15 H locs hp_13 hP hD hS => ?_)
            obtain ⟨er_14, eu_15⟩ := hp_13
            rw [eu_15] at hP hD; subst er_14
            refine lv_ior hx hb dX2_grown_54 ?_
            refine lv_topi (fun z_16 ez_16 => ?_)
            have ez_16 : z_16 = nI (cv_grown I9 (fun e => fo_way rows parts (L e) k) (fun e => fo_way rows2 parts2 (M e) kk) C (e9 + 1)) := by rw [ez_16]; rw [kb_or, cv_g_2 hT22 hT35]
            subst ez_16
            refine lv_istore (lv' := [(5, .int (nI (cv_grown I9 (fun e => fo_way rows parts (L e) k) (fun e => fo_way rows2 parts2 (M e) kk) C (e9 + 1)))), (6, .int (nI e9)), (0, .ref o), (1, .ref g), (2, .ref g2), (3, .int (nI I9)), (4, .int (nI C))]) hx hb dX2_grown_55 hl (by decide) rfl (fun ls hl => ?_)
            refine lv_goto (tgt := 89) hx hb dX2_grown_57 (by decide) ?_
            refine lv_iinc (v := nI (e9 + 1)) (lv' := [(6, .int (nI (e9 + 1))), (5, .int (nI (cv_grown I9 (fun e => fo_way rows parts (L e) k) (fun e => fo_way rows2 parts2 (M e) kk) C (e9 + 1)))), (0, .ref o), (1, .ref g), (2, .ref g2), (3, .int (nI I9)), (4, .int (nI C))]) hx hb dX2_grown_89 hl (k := 1) rfl (nI_1 _) (by decide) rfl (fun ls hl => ?_)
            refine lv_goto (tgt := 7) hx hb dX2_grown_92 (by decide) ?_
            exact ih7 (e9 + 1) (by omega) (by omega) _ _ hP hD hS _ (lv_sub hl [0, 1, 2, 3, 4, 5, 6] rfl)
        · skip
          have hT22 : (I9).testBit e9 = true := by
            cases hq9 : (I9).testBit e9 with
            | true => rfl
            | false => exact absurd ((kb_bool _).mpr hq9) c_22
          rw [← cv_g_1 (w1 := (fun e => fo_way rows parts (L e) k)) (w2 := (fun e => fo_way rows2 parts2 (M e) kk)) (C := C) hT22] at hl
          refine lv_goto (tgt := 89) hx hb dX2_grown_25 (by decide) ?_
          refine lv_iinc (v := nI (e9 + 1)) (lv' := [(6, .int (nI (e9 + 1))), (5, .int (nI (cv_grown I9 (fun e => fo_way rows parts (L e) k) (fun e => fo_way rows2 parts2 (M e) kk) C (e9 + 1)))), (0, .ref o), (1, .ref g), (2, .ref g2), (3, .int (nI I9)), (4, .int (nI C))]) hx hb dX2_grown_89 hl (k := 0) rfl (nI_1 _) (by decide) rfl (fun ls hl => ?_)
          refine lv_goto (tgt := 7) hx hb dX2_grown_92 (by decide) ?_
          exact ih7 (e9 + 1) (by omega) (by omega) _ _ hP hD hS _ (lv_sub hl [0, 1, 2, 3, 4, 5, 6] rfl)
  exact loop_7 (n + 1) 0 (Nat.zero_le n) (by omega) _ _ hP hD hS _ (lv_sub hl [0, 1, 2, 3, 4, 5, 6] rfl)
end
section
theorem fo_parts_lt {L : Nat → Nat} {n B : Nat} {rows parts : Nat → Nat} {k : Nat} (hn : n ≤ 12) (h : fo_ok L n B rows parts k) : ∀ j, j < k → parts j < 2 ^ 12 := fun j hj => by
  have := kb_le_full (cf_sub_tr (h.2.2.2.1 j hj).2.2 h.1)
  have := kb_full_lt hn
  omega
theorem fo_k_le {L : Nat → Nat} {n B : Nat} {rows parts : Nat → Nat} {k : Nat} (hn : n ≤ 12) (h : fo_ok L n B rows parts k) : k ≤ 12 := by
  have := cf_card_le n B
  rw [h.2.2.1] at this; omega
theorem cv_first_lt {M rows : Nat → Nat} {k n : Nat} (hn : n ≤ 12) : ∀ m, m ≤ n → cv_first M rows k m < 2 ^ 12 := by
  intro m
  induction m with
  | zero => intro _; exact Nat.two_pow_pos 12
  | succ m ih =>
    intro hm
    simp only [cv_first]
    split
    · exact ih (by omega)
    · exact Nat.or_lt_two_pow (ih (by omega)) (Nat.pow_lt_pow_right (by omega) (by omega))
theorem cv_rounds_lt {I C n : Nat} {w1 w2 : Nat → Nat} (hn : n ≤ 12) (hC : C < 2 ^ 12) (h1 : ∀ e, e < n → w1 e < 2 ^ 12) (r : Nat) : cv_rounds I w1 w2 n C r < 2 ^ 12 := by
  induction r with
  | zero => exact hC
  | succ r ih => exact cv_grown_lt hn ih h1 n (Nat.le_refl n)
/-- the least cover, as it is told -/
def co_spec (L M : Nat → Nat) (n C : Nat) : Prop := cf_sub C (cf_full n) ∧ ∃ I, cm_spec L M n I ∧ cf_cov L M n I C ∧ ∀ A, cf_sub A (cf_full n) → cf_cov L M n I A → cf_sub C A

set_option maxHeartbeats 4000000 in
set_option maxRecDepth 100000 in
/-- leastCover(g, h) -/
theorem c_leastCover (l : Launch) (D : va_G) (k0 : Nat → ClassId)  (w0 : va_W) (sz : Nat) (b o a1 a8 : Nat) (f ra pa : Nat) (rows parts : Nat → Nat) (k : Nat) (hF : w0[b + 2]? = some (f, .inr (0, [.ref ra, .ref pa, .int (nI k)]))) (hR : w0[b + 2 + 1]? = some (ra, .inl (k0 0, 12, .inl (fun j => nI (rows j))))) (hT : w0[b + 2 + 2]? = some (pa, .inl (k0 0, 12, .inl (fun j => nI (parts j))))) (f2 rb pb : Nat) (rows2 parts2 : Nat → Nat) (kk : Nat) (hF2 : w0[b + 5]? = some (f2, .inr (0, [.ref rb, .ref pb, .int (nI kk)]))) (hR2 : w0[b + 5 + 1]? = some (rb, .inl (k0 0, 12, .inl (fun j => nI (rows2 j))))) (hT2 : w0[b + 5 + 2]? = some (pb, .inl (k0 0, 12, .inl (fun j => nI (parts2 j))))) (hO : w0[b]? = some (o, .inr (2, [.ref a1, .ref f, .ref f2, .ref a8]))) (qg g ga gb : Nat) (L : Nat → Nat) (wt : Nat → Int32) (n : Nat) (vv oo : Int32) (hG : w0[qg]? = some (g, .inr (1, [.ref ga, .ref gb, .int (nI n), .int vv, .int oo]))) (hL : w0[qg + 1]? = some (ga, .inl (k0 0, 12, .inl (fun j => nI (L j))))) (hW : w0[qg + 2]? = some (gb, .inl (k0 0, 12, .inl wt))) (qh g2 ma mb : Nat) (M : Nat → Nat) (wt2 : Nat → Int32) (vv2 oo2 : Int32) (hG2 : w0[qh]? = some (g2, .inr (1, [.ref ma, .ref mb, .int (nI n), .int vv2, .int oo2]))) (hL2 : w0[qh + 1]? = some (ma, .inl (k0 0, 12, .inl (fun j => nI (M j))))) (hW2 : w0[qh + 2]? = some (mb, .inl (k0 0, 12, .inl wt2))) (hag : b + 9 ≤ qg) (hah : b + 9 ≤ qh) (hn : n ≤ 12) (hLb : ∀ j, j < n → L j < 2 ^ 24) (hMb : ∀ j, j < n → M j < 2 ^ 24) : kx_i l yX2_leastCover wsX2_leastCover ({ frames := 18, cells := 0, slots := 0, locals := 490 } : Room) D (tyL k0) w0 sz [.ref o, .ref g, .ref g2] (fun (r : Int32) (u : va_W) => ∃ C, r = nI C ∧ co_spec L M n C ∧ ∃ (ro1 pt1 ro2 pt2 : Nat → Nat) (q1 q2 : Nat), atF u (b + 2) k0 f ra pa ro1 pt1 q1 ∧ atF u (b + 5) k0 f2 rb pb ro2 pt2 q2 ∧ kx_fr w0 u (fun j => b + 2 ≤ j ∧ j < b + 8)) 0 0 := by
  refine kx_of (Qf := fun A => va_Qi (fun (r : Int32) (u : va_W) => ∃ C, r = nI C ∧ co_spec L M n C ∧ ∃ (ro1 pt1 ro2 pt2 : Nat → Nat) (q1 q2 : Nat), atF u (b + 2) k0 f ra pa ro1 pt1 q1 ∧ atF u (b + 5) k0 f2 rb pb ro2 pt2 q2 ∧ kx_fr w0 u (fun j => b + 2 ≤ j ∧ j < b + 8)) (kx_B D (tyL k0) A) A) (cc := cX2_leastCover) (maxL := 6) (ret := (some .int)) (by decide +kernel) (Nat.le_of_ble_eq_true rfl) ?_
  intro p e s m below meth c A ls hx hb hml hown hts hr hlocks hnm hN hK hP hD hS hA hl
  have hown : s.vm.findClass RX2 = some m.cls := hown
  have hl : lv_has ls 6 [(0, .ref o), (1, .ref g), (2, .ref g2)] := hl
  have hfr : kx_fr w0 w0 (fun j => b + 2 ≤ j ∧ j < b + 8) := kx_fr_rf _ _
  have hfl := kb_full_lt hn
  refine lv_aload_n hx hb dX2_leastCover_0 rfl (lv_at hl 0 rfl) ?_
  refine lv_aload_n hx hb dX2_leastCover_1 rfl (lv_at hl 1 rfl) ?_
  refine lv_aload_n hx hb dX2_leastCover_2 rfl (lv_at hl 2 rfl) ?_
  refine kx_goi (va_runV (As := [.ref g, .ref g2]) (rest := []) ⟨hx, hb, hml, hown, hts⟩ (c_largest l D k0 w0 _ b o a1 a8 f ra pa rows parts k hF hR hT f2 rb pb rows2 parts2 kk hF2 hR2 hT2 hO qg g ga gb L wt n vv oo hG hL hW qh g2 ma mb M wt2 vv2 oo2 hG2 hL2 hW2 hag hah hn hLb hMb) ⟨(kg_B (k := 2) hts tw_221 tw_218 tw_19 (by decide +kernel) rfl rfl ⟨Nat.le_of_ble_eq_true rfl, Nat.le_of_ble_eq_true rfl⟩), hts _ tw_220, hts _ tw_4⟩ (kx_preV hN hK hP hD rfl hO) rfl rfl hl.1 rfl (lv_room (Nat.le_of_ble_eq_true rfl)) dX2_leastCover_3 ⟨Nat.le_of_ble_eq_true rfl, Nat.le_of_ble_eq_true rfl⟩) hD hS hA (fun r_2 u_3 H locs hp_1 hP hD hS => ?_)
  obtain ⟨I9, er, hcm, ro1, pt1, ro2, pt2, ⟨hF9, hR9, hT9⟩, ⟨hF8, hR8, hT8⟩, hq⟩ := hp_1
  subst er
  have hIs := hcm.1.1
  have hIb := kb_le_full hIs
  have hq5 : True := trivial
  obtain hq6 := hq5
  have f_4 : u_3[b]? = some (o, .inr (2, [.ref a1, .ref f, .ref f2, .ref a8])) := by rw [hq _ (by omega)]; exact hO
  have f_5 : u_3[b + 2]? = some (f, .inr (0, [.ref ra, .ref pa, .int (nI 0)])) := hF9
  have f_6 : u_3[b + 2 + 1]? = some (ra, .inl (k0 0, 12, .inl (fun y9 => nI (ro1 y9)))) := hR9
  have f_7 : u_3[b + 2 + 2]? = some (pa, .inl (k0 0, 12, .inl (fun y9 => nI (pt1 y9)))) := hT9
  have f_8 : u_3[b + 5]? = some (f2, .inr (0, [.ref rb, .ref pb, .int (nI 0)])) := hF8
  have f_9 : u_3[b + 5 + 1]? = some (rb, .inl (k0 0, 12, .inl (fun y9 => nI (ro2 y9)))) := hR8
  have f_10 : u_3[b + 5 + 2]? = some (pb, .inl (k0 0, 12, .inl (fun y9 => nI (pt2 y9)))) := hT8
  have f_11 : u_3[qg]? = some (g, .inr (1, [.ref ga, .ref gb, .int (nI n), .int vv, .int oo])) := by rw [hq _ (by omega)]; exact hG
  have f_12 : u_3[qg + 1]? = some (ga, .inl (k0 0, 12, .inl (fun y9 => nI (L y9)))) := by rw [hq _ (by omega)]; exact hL
  have f_13 : u_3[qg + 2]? = some (gb, .inl (k0 0, 12, .inl wt)) := by rw [hq _ (by omega)]; exact hW
  have f_14 : u_3[qh]? = some (g2, .inr (1, [.ref ma, .ref mb, .int (nI n), .int vv2, .int oo2])) := by rw [hq _ (by omega)]; exact hG2
  have f_15 : u_3[qh + 1]? = some (ma, .inl (k0 0, 12, .inl (fun y9 => nI (M y9)))) := by rw [hq _ (by omega)]; exact hL2
  have f_16 : u_3[qh + 2]? = some (mb, .inl (k0 0, 12, .inl wt2)) := by rw [hq _ (by omega)]; exact hW2
  have hfr : kx_fr w0 u_3 (fun j => b + 2 ≤ j ∧ j < b + 8) := kx_fr_tr hfr (kx_fr_mono hq (fun j h => h))
  refine lv_istore_n (lv' := [(3, .int (nI I9)), (0, .ref o), (1, .ref g), (2, .ref g2)]) hx hb dX2_leastCover_6 rfl hl (by decide) rfl (fun ls hl => ?_)
  refine lv_aload_n hx hb dX2_leastCover_7 rfl (lv_at hl 1 rfl) ?_
  refine va_get (D := D) (ci := 2) (v := .ref f) (C := RX2) (T := TX2) (N := 4) hx hb hts inX2 hown hK hP b f_4 rfl 1 (by decide) (hts _ tw_79) (fun _ h9 => h9) rfl dX2_leastCover_8 ?_
  refine lv_aload_n hx hb dX2_leastCover_11 rfl (lv_at hl 2 rfl) ?_
  refine lv_iload_n hx hb dX2_leastCover_12 rfl (lv_at hl 0 rfl) ?_
  refine kx_goi (va_runV (As := [.ref g, .int (nI I9)]) (rest := []) ⟨hx, hb, hml, hown, hts⟩ (c_fill l D k0 u_3 _ (b + 2) f ra pa ro1 pt1 0 f_5 f_6 f_7 qg g ga gb L wt n vv oo f_11 f_12 f_13 (by omega) hn hLb (I9) (by omega)) ⟨(kg_B (k := 2) hts tw_136 tw_133 tw_20 (by decide +kernel) rfl rfl ⟨Nat.le_of_ble_eq_true rfl, Nat.le_of_ble_eq_true rfl⟩), hts _ tw_134, hts _ tw_135⟩ (kx_preV hN hK hP hD rfl f_5) rfl rfl hl.1 rfl (lv_room (Nat.le_of_ble_eq_true rfl)) dX2_leastCover_13 ⟨Nat.le_of_ble_eq_true rfl, Nat.le_of_ble_eq_true rfl⟩) hD hS hA (fun r_18 u_19 H locs hp_17 hP hD hS => ?_)
  obtain ⟨FA, eFA⟩ : ∃ F : fo_St, F = fo_fill L (I9) ro1 pt1 n := ⟨_, rfl⟩
  rw [← eFA] at hp_17
  obtain ⟨erFA, ⟨hF9, hR9, hT9⟩, hq⟩ := hp_17
  have f_20 : u_19[b]? = some (o, .inr (2, [.ref a1, .ref f, .ref f2, .ref a8])) := by rw [hq _ (by omega)]; exact f_4
  have f_21 : u_19[b + 2]? = some (f, .inr (0, [.ref ra, .ref pa, .int (nI FA.2.2)])) := hF9
  have f_22 : u_19[b + 2 + 1]? = some (ra, .inl (k0 0, 12, .inl (fun y9 => nI (FA.1 y9)))) := hR9
  have f_23 : u_19[b + 2 + 2]? = some (pa, .inl (k0 0, 12, .inl (fun y9 => nI (FA.2.1 y9)))) := hT9
  have f_24 : u_19[b + 5]? = some (f2, .inr (0, [.ref rb, .ref pb, .int (nI 0)])) := by rw [hq _ (by omega)]; exact f_8
  have f_25 : u_19[b + 5 + 1]? = some (rb, .inl (k0 0, 12, .inl (fun y9 => nI (ro2 y9)))) := by rw [hq _ (by omega)]; exact f_9
  have f_26 : u_19[b + 5 + 2]? = some (pb, .inl (k0 0, 12, .inl (fun y9 => nI (pt2 y9)))) := by rw [hq _ (by omega)]; exact f_10
  have f_27 : u_19[qg]? = some (g, .inr (1, [.ref ga, .ref gb, .int (nI n), .int vv, .int oo])) := by rw [hq _ (by omega)]; exact f_11
  have f_28 : u_19[qg + 1]? = some (ga, .inl (k0 0, 12, .inl (fun y9 => nI (L y9)))) := by rw [hq _ (by omega)]; exact f_12
  have f_29 : u_19[qg + 2]? = some (gb, .inl (k0 0, 12, .inl wt)) := by rw [hq _ (by omega)]; exact f_13
  have f_30 : u_19[qh]? = some (g2, .inr (1, [.ref ma, .ref mb, .int (nI n), .int vv2, .int oo2])) := by rw [hq _ (by omega)]; exact f_14
  have f_31 : u_19[qh + 1]? = some (ma, .inl (k0 0, 12, .inl (fun y9 => nI (M y9)))) := by rw [hq _ (by omega)]; exact f_15
  have f_32 : u_19[qh + 2]? = some (mb, .inl (k0 0, 12, .inl wt2)) := by rw [hq _ (by omega)]; exact f_16
  have hfr : kx_fr w0 u_19 (fun j => b + 2 ≤ j ∧ j < b + 8) := kx_fr_tr hfr (kx_fr_mono hq (fun j h => by omega))
  subst erFA
  refine lv_pop hx hb dX2_leastCover_16 rfl ?_
  refine lv_aload_n hx hb dX2_leastCover_17 rfl (lv_at hl 1 rfl) ?_
  refine va_get (D := D) (ci := 2) (v := .ref f2) (C := RX2) (T := TX2) (N := 4) hx hb hts inX2 hown hK hP b f_20 rfl 2 (by decide) (hts _ tw_80) (fun _ h9 => h9) rfl dX2_leastCover_18 ?_
  refine lv_aload_n hx hb dX2_leastCover_21 rfl (lv_at hl 3 rfl) ?_
  refine lv_iload_n hx hb dX2_leastCover_22 rfl (lv_at hl 0 rfl) ?_
  refine kx_goi (va_runV (As := [.ref g2, .int (nI I9)]) (rest := []) ⟨hx, hb, hml, hown, hts⟩ (c_fill l D k0 u_19 _ (b + 5) f2 rb pb ro2 pt2 0 f_24 f_25 f_26 qh g2 ma mb M wt2 n vv2 oo2 f_30 f_31 f_32 (by omega) hn hMb (I9) (by omega)) ⟨(kg_B (k := 2) hts tw_136 tw_133 tw_20 (by decide +kernel) rfl rfl ⟨Nat.le_of_ble_eq_true rfl, Nat.le_of_ble_eq_true rfl⟩), hts _ tw_134, hts _ tw_135⟩ (kx_preV hN hK hP hD rfl f_24) rfl rfl hl.1 rfl (lv_room (Nat.le_of_ble_eq_true rfl)) dX2_leastCover_23 ⟨Nat.le_of_ble_eq_true rfl, Nat.le_of_ble_eq_true rfl⟩) hD hS hA (fun r_34 u_35 H locs hp_33 hP hD hS => ?_)
  obtain ⟨FB, eFB⟩ : ∃ F : fo_St, F = fo_fill M (I9) ro2 pt2 n := ⟨_, rfl⟩
  rw [← eFB] at hp_33
  obtain ⟨erFB, ⟨hF9, hR9, hT9⟩, hq⟩ := hp_33
  have f_36 : u_35[b]? = some (o, .inr (2, [.ref a1, .ref f, .ref f2, .ref a8])) := by rw [hq _ (by omega)]; exact f_20
  have f_37 : u_35[b + 2]? = some (f, .inr (0, [.ref ra, .ref pa, .int (nI FA.2.2)])) := by rw [hq _ (by omega)]; exact f_21
  have f_38 : u_35[b + 2 + 1]? = some (ra, .inl (k0 0, 12, .inl (fun y9 => nI (FA.1 y9)))) := by rw [hq _ (by omega)]; exact f_22
  have f_39 : u_35[b + 2 + 2]? = some (pa, .inl (k0 0, 12, .inl (fun y9 => nI (FA.2.1 y9)))) := by rw [hq _ (by omega)]; exact f_23
  have f_40 : u_35[b + 5]? = some (f2, .inr (0, [.ref rb, .ref pb, .int (nI FB.2.2)])) := hF9
  have f_41 : u_35[b + 5 + 1]? = some (rb, .inl (k0 0, 12, .inl (fun y9 => nI (FB.1 y9)))) := hR9
  have f_42 : u_35[b + 5 + 2]? = some (pb, .inl (k0 0, 12, .inl (fun y9 => nI (FB.2.1 y9)))) := hT9
  have f_43 : u_35[qg]? = some (g, .inr (1, [.ref ga, .ref gb, .int (nI n), .int vv, .int oo])) := by rw [hq _ (by omega)]; exact f_27
  have f_44 : u_35[qg + 1]? = some (ga, .inl (k0 0, 12, .inl (fun y9 => nI (L y9)))) := by rw [hq _ (by omega)]; exact f_28
  have f_45 : u_35[qg + 2]? = some (gb, .inl (k0 0, 12, .inl wt)) := by rw [hq _ (by omega)]; exact f_29
  have f_46 : u_35[qh]? = some (g2, .inr (1, [.ref ma, .ref mb, .int (nI n), .int vv2, .int oo2])) := by rw [hq _ (by omega)]; exact f_30
  have f_47 : u_35[qh + 1]? = some (ma, .inl (k0 0, 12, .inl (fun y9 => nI (M y9)))) := by rw [hq _ (by omega)]; exact f_31
  have f_48 : u_35[qh + 2]? = some (mb, .inl (k0 0, 12, .inl wt2)) := by rw [hq _ (by omega)]; exact f_32
  have hfr : kx_fr w0 u_35 (fun j => b + 2 ≤ j ∧ j < b + 8) := kx_fr_tr hfr (kx_fr_mono hq (fun j h => by omega))
  subst erFB
  have hoA := fo_fill_ind (rows := ro1) (parts := pt1) hIs hcm.1.2.1
  have hoB := fo_fill_ind (rows := ro2) (parts := pt2) hIs hcm.1.2.2.1
  have hrA := fo_fill_row (S := I9) (rows := ro1) (parts := pt1) hLb n (Nat.le_refl n)
  have hrB := fo_fill_row (S := I9) (rows := ro2) (parts := pt2) hMb n (Nat.le_refl n)
  rw [← eFA] at hoA hrA
  rw [← eFB] at hoB hrB
  have hkA := fo_k_le hn hoA
  have hkB := fo_k_le hn hoB
  have hpA := fo_parts_lt hn hoA
  have hpB := fo_parts_lt hn hoB
  refine lv_pop hx hb dX2_leastCover_26 rfl ?_
  refine lv_iconst (v := nI 0) hx hb dX2_leastCover_27 (by decide +kernel) ?_
  refine lv_istore (lv' := [(4, .int (nI 0)), (3, .int (nI I9)), (0, .ref o), (1, .ref g), (2, .ref g2)]) hx hb dX2_leastCover_28 hl (by decide) rfl (fun ls hl => ?_)
  refine lv_iconst (v := nI 0) hx hb dX2_leastCover_30 (by decide +kernel) ?_
  refine lv_istore (lv' := [(5, .int (nI 0)), (4, .int (nI 0)), (3, .int (nI I9)), (0, .ref o), (1, .ref g), (2, .ref g2)]) hx hb dX2_leastCover_31 hl (by decide) rfl (fun ls hl => ?_)
  have loop_33 : ∀ (n33 : Nat) (e9 : Nat), (e9 ≤ n) → (n + 1 ≤ e9 + n33) → ∀ (H : Heap) (locs : List Loc), va_P D vwCl u_35 H → va_D A u_35 → va_S A s.heap H locs → ∀ (ls : Array Slot), lv_has ls 6 [(5, .int (nI e9)), (4, .int (nI (cv_first M FB.1 FB.2.2 e9))), (3, .int (nI I9)), (0, .ref o), (1, .ref g), (2, .ref g2)] → W p l e ({ frames := 18, cells := 0, slots := 0, locals := 490 } : Room) s m ([.ref o, .ref g, .ref g2] : List Value).toArray below meth c H locs 0 0 (MQ below (va_Qi (fun (r : Int32) (u : va_W) => ∃ C, r = nI C ∧ co_spec L M n C ∧ ∃ (ro1 pt1 ro2 pt2 : Nat → Nat) (q1 q2 : Nat), atF u (b + 2) k0 f ra pa ro1 pt1 q1 ∧ atF u (b + 5) k0 f2 rb pb ro2 pt2 q2 ∧ kx_fr w0 u (fun j => b + 2 ≤ j ∧ j < b + 8)) (kx_B D (tyL k0) A) A) ([.ref o, .ref g, .ref g2] : List Value).toArray s 0 0 A) (F0 m 33 ls []) := by
    intro n33
    induction n33 with
    | zero =>
      intro e9 he hme
      exact absurd hme (by omega)
    | succ n33 ih33 =>
      intro e9 he hme  H locs hP hD hS ls hl
      refine lv_iload hx hb dX2_leastCover_33 (lv_at hl 0 rfl) ?_
      refine lv_aload_n hx hb dX2_leastCover_35 rfl (lv_at hl 5 rfl) ?_
      refine va_get (D := D) (ci := 1) (v := .int (nI n)) (C := RX1) (T := TX1) (N := 5) hx hb hts inX1 hown hK hP qh f_46 rfl 2 (by decide) (hts _ tw_64) (fun _ h9 => h9) rfl dX2_leastCover_36 ?_
      refine lv_icmp_ge (tgt := 74) hx hb dX2_leastCover_39 (by decide) (fun c_39 => ?_) (fun c_39 => ?_)
      · skip
        have hik : e9 = n := by
          have := (nI_leI (by omega) (by omega)).mp c_39
          omega
        rw [hik] at hl
        refine lv_iconst (v := nI 0) hx hb dX2_leastCover_74 (by decide +kernel) ?_
        refine lv_istore (lv' := [(5, .int (nI 0)), (4, .int (nI (cv_first M FB.1 FB.2.2 n))), (3, .int (nI I9)), (0, .ref o), (1, .ref g), (2, .ref g2)]) hx hb dX2_leastCover_75 hl (by decide) rfl (fun ls hl => ?_)
        have loop_77 : ∀ (n77 : Nat) (r9 : Nat), (r9 ≤ n) → (n + 1 ≤ r9 + n77) → ∀ (H : Heap) (locs : List Loc), va_P D vwCl u_35 H → va_D A u_35 → va_S A s.heap H locs → ∀ (ls : Array Slot), lv_has ls 6 [(5, .int (nI r9)), (4, .int (nI (cv_rounds I9 (fun e => fo_way FA.1 FA.2.1 (L e) FA.2.2) (fun e => fo_way FB.1 FB.2.1 (M e) FB.2.2) n (cv_first M FB.1 FB.2.2 n) r9))), (3, .int (nI I9)), (0, .ref o), (1, .ref g), (2, .ref g2)] → W p l e ({ frames := 18, cells := 0, slots := 0, locals := 490 } : Room) s m ([.ref o, .ref g, .ref g2] : List Value).toArray below meth c H locs 0 0 (MQ below (va_Qi (fun (r : Int32) (u : va_W) => ∃ C, r = nI C ∧ co_spec L M n C ∧ ∃ (ro1 pt1 ro2 pt2 : Nat → Nat) (q1 q2 : Nat), atF u (b + 2) k0 f ra pa ro1 pt1 q1 ∧ atF u (b + 5) k0 f2 rb pb ro2 pt2 q2 ∧ kx_fr w0 u (fun j => b + 2 ≤ j ∧ j < b + 8)) (kx_B D (tyL k0) A) A) ([.ref o, .ref g, .ref g2] : List Value).toArray s 0 0 A) (F0 m 77 ls []) := by
          intro n77
          induction n77 with
          | zero =>
            intro r9 hr9 hme
            exact absurd hme (by omega)
          | succ n77 ih77 =>
            intro r9 hr9 hme  H locs hP hD hS ls hl
            refine lv_iload hx hb dX2_leastCover_77 (lv_at hl 0 rfl) ?_
            refine lv_aload_n hx hb dX2_leastCover_79 rfl (lv_at hl 4 rfl) ?_
            refine va_get (D := D) (ci := 1) (v := .int (nI n)) (C := RX1) (T := TX1) (N := 5) hx hb hts inX1 hown hK hP qg f_43 rfl 2 (by decide) (hts _ tw_64) (fun _ h9 => h9) rfl dX2_leastCover_80 ?_
            refine lv_icmp_ge (tgt := 103) hx hb dX2_leastCover_83 (by decide) (fun c_83 => ?_) (fun c_83 => ?_)
            · skip
              have hik : r9 = n := by
                have := (nI_leI (by omega) (by omega)).mp c_83
                omega
              refine lv_iload hx hb dX2_leastCover_103 (lv_at hl 1 rfl) ?_
              exact kx_iret (v := nI (cv_rounds I9 (fun e => fo_way FA.1 FA.2.1 (L e) FA.2.2) (fun e => fo_way FB.1 FB.2.1 (M e) FB.2.2) n (cv_first M FB.1 FB.2.2 n) r9)) hx hb hr rfl hlocks hK hP hD hS dX2_leastCover_105 (by rw [hik]; exact ⟨_, rfl, ⟨(cv_ok hcm.1 hoA hoB).1, I9, hcm, (cv_ok hcm.1 hoA hoB).2⟩, _, _, _, _, _, _, ⟨f_37, f_38, f_39⟩, ⟨f_40, f_41, f_42⟩, hfr⟩)
            · skip
              have hik : r9 < n := by
                rcases Nat.lt_or_ge (r9) (n) with h | h
                · exact h
                · exact absurd ((nI_leI (by omega) (by omega)).mpr h) c_83
              refine lv_aload_n hx hb dX2_leastCover_86 rfl (lv_at hl 3 rfl) ?_
              refine lv_aload_n hx hb dX2_leastCover_87 rfl (lv_at hl 4 rfl) ?_
              refine lv_aload_n hx hb dX2_leastCover_88 rfl (lv_at hl 5 rfl) ?_
              refine lv_iload_n hx hb dX2_leastCover_89 rfl (lv_at hl 2 rfl) ?_
              refine lv_iload hx hb dX2_leastCover_90 (lv_at hl 1 rfl) ?_
              refine kx_goi (va_runV (As := [.ref g, .ref g2, .int (nI I9), .int (nI (cv_rounds I9 (fun e => fo_way FA.1 FA.2.1 (L e) FA.2.2) (fun e => fo_way FB.1 FB.2.1 (M e) FB.2.2) n (cv_first M FB.1 FB.2.2 n) r9))]) (rest := []) ⟨hx, hb, hml, hown, hts⟩ (c_grown l D k0 u_35 _ b o a1 a8 f ra pa FA.1 FA.2.1 FA.2.2 f_37 f_38 f_39 f2 rb pb FB.1 FB.2.1 FB.2.2 f_40 f_41 f_42 f_36 qg g ga gb L wt n vv oo f_43 f_44 f_45 qh g2 ma mb M wt2 vv2 oo2 f_46 f_47 f_48 hag hah hn hLb hMb hkA hkB hrA hrB hpA hpB I9 (cv_rounds I9 (fun e => fo_way FA.1 FA.2.1 (L e) FA.2.2) (fun e => fo_way FB.1 FB.2.1 (M e) FB.2.2) n (cv_first M FB.1 FB.2.2 n) r9) (by omega) (cv_rounds_lt hn (cv_first_lt hn n (Nat.le_refl n)) (fun e _ => fo_way_lt hpA FA.2.2 (Nat.le_refl _)) r9)) ⟨(kg_B (k := 4) hts tw_242 tw_239 tw_19 (by decide +kernel) rfl rfl ⟨Nat.le_of_ble_eq_true rfl, Nat.le_of_ble_eq_true rfl⟩), hts _ tw_241, hts _ tw_7⟩ (kx_preV hN hK hP hD rfl f_36) rfl rfl hl.1 rfl (lv_room (Nat.le_of_ble_eq_true rfl)) dX2_leastCover_92 ⟨Nat.le_of_ble_eq_true rfl, Nat.le_of_ble_eq_true rfl⟩) hD hS hA (fun r_50 u_51 H locs hp_49 hP hD hS => ?_)
              obtain ⟨er_50, eu_51⟩ := hp_49
              rw [eu_51] at hP hD; subst er_50
              refine lv_istore (lv' := [(4, .int (nI (cv_rounds I9 (fun e => fo_way FA.1 FA.2.1 (L e) FA.2.2) (fun e => fo_way FB.1 FB.2.1 (M e) FB.2.2) n (cv_first M FB.1 FB.2.2 n) (r9 + 1)))), (5, .int (nI r9)), (3, .int (nI I9)), (0, .ref o), (1, .ref g), (2, .ref g2)]) hx hb dX2_leastCover_95 hl (by decide) rfl (fun ls hl => ?_)
              refine lv_iinc (v := nI (r9 + 1)) (lv' := [(5, .int (nI (r9 + 1))), (4, .int (nI (cv_rounds I9 (fun e => fo_way FA.1 FA.2.1 (L e) FA.2.2) (fun e => fo_way FB.1 FB.2.1 (M e) FB.2.2) n (cv_first M FB.1 FB.2.2 n) (r9 + 1)))), (3, .int (nI I9)), (0, .ref o), (1, .ref g), (2, .ref g2)]) hx hb dX2_leastCover_97 hl (k := 1) rfl (nI_1 _) (by decide) rfl (fun ls hl => ?_)
              refine lv_goto (tgt := 77) hx hb dX2_leastCover_100 (by decide) ?_
              exact ih77 (r9 + 1) (by omega) (by omega) _ _ hP hD hS _ (lv_sub hl [0, 1, 2, 3, 4, 5] rfl)
        exact loop_77 (n + 1) 0 (Nat.zero_le n) (by omega) _ _ hP hD hS _ (lv_sub hl [0, 1, 2, 3, 4, 5] rfl)
      · skip
        have hik : e9 < n := by
          rcases Nat.lt_or_ge (e9) (n) with h | h
          · exact h
          · exact absurd ((nI_leI (by omega) (by omega)).mpr h) c_39
        have hrb : fo_rest FB.1 (M e9) FB.2.2 < 2 ^ 24 := fo_rest_lt (hMb e9 hik) hrB FB.2.2 (Nat.le_refl _)
        refine lv_aload_n hx hb dX2_leastCover_42 rfl (lv_at hl 3 rfl) ?_
        refine va_get (D := D) (ci := 2) (v := .ref f2) (C := RX2) (T := TX2) (N := 4) hx hb hts inX2 hown hK hP b f_36 rfl 2 (by decide) (hts _ tw_80) (fun _ h9 => h9) rfl dX2_leastCover_43 ?_
        refine lv_aload_n hx hb dX2_leastCover_46 rfl (lv_at hl 5 rfl) ?_
        refine va_get (D := D) (ci := 1) (v := .ref ma) (C := RX1) (T := TX1) (N := 5) hx hb hts inX1 hown hK hP qh f_46 rfl 0 (by decide) (hts _ tw_59) (fun _ h9 => h9) rfl dX2_leastCover_47 ?_
        refine lv_iload hx hb dX2_leastCover_50 (lv_at hl 0 rfl) ?_
        refine kx_nald hx hb hK hP (qh + 1) f_47 rfl (i := e9) (by omega) (by decide) dX2_leastCover_52 ?_
        refine kx_goi (va_runV (As := [.int (nI (M e9))]) (rest := []) ⟨hx, hb, hml, hown, hts⟩ (c_rest l D k0 u_35 _ (b + 5) f2 rb pb FB.1 FB.2.1 FB.2.2 f_40 f_41 f_42 hkB hrB (M e9) (hMb e9 hik)) ⟨(kg_B (k := 1) hts tw_151 tw_160 tw_20 (by decide +kernel) rfl rfl ⟨Nat.le_of_ble_eq_true rfl, Nat.le_of_ble_eq_true rfl⟩), hts _ tw_149, hts _ tw_150⟩ (kx_preV hN hK hP hD rfl f_40) rfl rfl hl.1 rfl (lv_room (Nat.le_of_ble_eq_true rfl)) dX2_leastCover_53 ⟨Nat.le_of_ble_eq_true rfl, Nat.le_of_ble_eq_true rfl⟩) hD hS hA (fun r_53 u_54 H locs hp_52 hP hD hS => ?_)
        obtain ⟨er_53, eu_54⟩ := hp_52
        rw [eu_54] at hP hD; subst er_53
        refine lv_if_eq (tgt := 68) hx hb dX2_leastCover_56 (by decide) (fun c_56 => ?_) (fun c_56 => ?_)
        · skip
          have h0 : fo_rest FB.1 (M e9) FB.2.2 = 0 := (kb_eq0 (by omega)).mp c_56
          have e0 : cv_first M FB.1 FB.2.2 e9 = cv_first M FB.1 FB.2.2 (e9 + 1) := by
            show _ = ite _ _ _
            rw [if_pos h0]
          rw [e0] at hl
          refine lv_iinc (v := nI (e9 + 1)) (lv' := [(5, .int (nI (e9 + 1))), (4, .int (nI (cv_first M FB.1 FB.2.2 (e9 + 1)))), (3, .int (nI I9)), (0, .ref o), (1, .ref g), (2, .ref g2)]) hx hb dX2_leastCover_68 hl (k := 0) rfl (nI_1 _) (by decide) rfl (fun ls hl => ?_)
          refine lv_goto (tgt := 33) hx hb dX2_leastCover_71 (by decide) ?_
          exact ih33 (e9 + 1) (by omega) (by omega) _ _ hP hD hS _ (lv_sub hl [0, 1, 2, 3, 4, 5] rfl)
        · skip
          have h0 : ¬ fo_rest FB.1 (M e9) FB.2.2 = 0 := fun h => c_56 ((kb_eq0 (by omega)).mpr h)
          refine lv_iload hx hb dX2_leastCover_59 (lv_at hl 1 rfl) ?_
          refine lv_iconst (v := 1) hx hb dX2_leastCover_61 (by decide +kernel) ?_
          refine lv_iload hx hb dX2_leastCover_62 (lv_at hl 0 rfl) ?_
          refine lv_ishl hx hb dX2_leastCover_64 ?_
          refine lv_topi (fun z_55 ez_55 => ?_)
          have ez_55 : z_55 = nI (2 ^ e9) := by rw [ez_55]; exact kb_one (by omega)
          subst ez_55
          refine lv_ior hx hb dX2_leastCover_65 ?_
          refine lv_topi (fun z_56 ez_56 => ?_)
          have ez_56 : z_56 = nI (cv_first M FB.1 FB.2.2 (e9 + 1)) := by rw [ez_56]; rw [kb_or]; show _ = nI (ite _ _ _); rw [if_neg h0]
          subst ez_56
          refine lv_istore (lv' := [(4, .int (nI (cv_first M FB.1 FB.2.2 (e9 + 1)))), (5, .int (nI e9)), (3, .int (nI I9)), (0, .ref o), (1, .ref g), (2, .ref g2)]) hx hb dX2_leastCover_66 hl (by decide) rfl (fun ls hl => ?_)
          refine lv_iinc (v := nI (e9 + 1)) (lv' := [(5, .int (nI (e9 + 1))), (4, .int (nI (cv_first M FB.1 FB.2.2 (e9 + 1)))), (3, .int (nI I9)), (0, .ref o), (1, .ref g), (2, .ref g2)]) hx hb dX2_leastCover_68 hl (k := 1) rfl (nI_1 _) (by decide) rfl (fun ls hl => ?_)
          refine lv_goto (tgt := 33) hx hb dX2_leastCover_71 (by decide) ?_
          exact ih33 (e9 + 1) (by omega) (by omega) _ _ hP hD hS _ (lv_sub hl [0, 1, 2, 3, 4, 5] rfl)
  exact loop_33 (n + 1) 0 (Nat.zero_le n) (by omega) _ _ hP hD hS _ (lv_sub hl [0, 1, 2, 3, 4, 5] rfl)

set_option maxHeartbeats 4000000 in
set_option maxRecDepth 100000 in
/-- common(g, h) -/
theorem c_common (l : Launch) (D : va_G) (k0 : Nat → ClassId)  (w0 : va_W) (sz : Nat) (b : Nat) (ad nE nV : Nat → Nat) (op : Nat → Int32) (LL : Nat → Nat → Nat) (ww : Nat → Nat → Int32) (hC : atC w0 b k0 ad nE nV op LL ww) (hI : cinv nE nV LL ww) (x y : Int32) : kx_i l yX2_common wsX2_common ({ frames := 18, cells := 0, slots := 0, locals := 490 } : Room) D (tyL k0) w0 sz [.ref (ad 0), .int x, .int y] (fun (r : Int32) (u : va_W) => ((∃ i j C, i < 8 ∧ j < 8 ∧ nE i = nE j ∧ x = nI i ∧ y = nI j ∧ r = nI C ∧ cm_spec (LL i) (LL j) (nE i) C) ∨ (¬ (∃ i j, i < 8 ∧ j < 8 ∧ nE i = nE j ∧ x = nI i ∧ y = nI j) ∧ r = -1)) ∧ atC u b k0 ad nE nV op LL ww ∧ kx_fr w0 u (fun j => b ≤ j ∧ j < b + 33)) 0 0 := by
  refine kx_of (Qf := fun A => va_Qi (fun (r : Int32) (u : va_W) => ((∃ i j C, i < 8 ∧ j < 8 ∧ nE i = nE j ∧ x = nI i ∧ y = nI j ∧ r = nI C ∧ cm_spec (LL i) (LL j) (nE i) C) ∨ (¬ (∃ i j, i < 8 ∧ j < 8 ∧ nE i = nE j ∧ x = nI i ∧ y = nI j) ∧ r = -1)) ∧ atC u b k0 ad nE nV op LL ww ∧ kx_fr w0 u (fun j => b ≤ j ∧ j < b + 33)) (kx_B D (tyL k0) A) A) (cc := cX2_common) (maxL := 3) (ret := (some .int)) (by decide +kernel) (Nat.le_of_ble_eq_true rfl) ?_
  intro p e s m below meth c A ls hx hb hml hown hts hr hlocks hnm hN hK hP hD hS hA hl
  have hown : s.vm.findClass RX2 = some m.cls := hown
  have hl : lv_has ls 3 [(0, .ref (ad 0)), (1, .int x), (2, .int y)] := hl
  skip
  obtain ⟨hO, ⟨fq, hQ, hfq⟩, ⟨r1, p1, k1, hF1, hR1, hT1⟩, ⟨r2, p2, k2, hF2, hR2, hT2⟩, ⟨dr, hd⟩, hgs⟩ := id hC
  refine lv_aload_n hx hb dX2_common_0 rfl (lv_at hl 0 rfl) ?_
  refine lv_iload_n hx hb dX2_common_1 rfl (lv_at hl 1 rfl) ?_
  refine lv_iload_n hx hb dX2_common_2 rfl (lv_at hl 2 rfl) ?_
  refine kx_goi (va_runV (As := [.int x, .int y]) (rest := []) ⟨hx, hb, hml, hown, hts⟩ (c_areAlike l D k0 w0 _ b ad nE nV op LL ww hC hI x y) ⟨(kg_B (k := 2) hts tw_217 tw_214 tw_19 (by decide +kernel) rfl rfl ⟨Nat.le_of_ble_eq_true rfl, Nat.le_of_ble_eq_true rfl⟩), hts _ tw_216, hts _ tw_3⟩ (kx_preV hN hK hP hD rfl hO) rfl rfl hl.1 rfl (lv_room (Nat.le_of_ble_eq_true rfl)) dX2_common_3 ⟨Nat.le_of_ble_eq_true rfl, Nat.le_of_ble_eq_true rfl⟩) hD hS hA (fun r_2 u_3 H locs hp_1 hP hD hS => ?_)
  obtain ⟨hy_, eu⟩ := hp_1
  rw [eu] at hP hD
  refine lv_if_eq (tgt := 28) hx hb dX2_common_6 (by decide) (fun c_6 => ?_) (fun c_6 => ?_)
  · skip
    have hno := kg_0 hy_ c_6
    refine lv_iconst (v := -1) hx hb dX2_common_28 (by decide +kernel) ?_
    exact kx_iret (v := -1) hx hb hr rfl hlocks hK hP hD hS dX2_common_29 (by first | exact ⟨Or.inr ⟨hno, rfl⟩, hC, kx_fr_rf _ _⟩ | exact ⟨Or.inl ⟨i, j, C, h8i, h8j, hnn, e_x, e_y, rfl, hsp⟩, atC_rest hC (kx_fr_mono hq (fun j h => by omega)) ⟨_, _, _, hF9⟩ ⟨_, _, _, hF8⟩ ⟨dr, by rw [hq _ (by omega)]; exact hd⟩, kx_fr_mono hq (fun j h => by omega)⟩)
  · skip
    obtain ⟨i, j, h8i, h8j, hnn, e_x, e_y⟩ := kg_1 hy_ c_6
    rw [e_x, e_y] at hl
    obtain ⟨hGi, hLi, hWi⟩ := hgs i h8i
    obtain ⟨hni, hvi, hl2i, hw2i⟩ := hI i h8i
    obtain ⟨hGj, hLj, hWj⟩ := hgs j h8j
    obtain ⟨hnj, hvj, hl2j, hw2j⟩ := hI j h8j
    refine lv_aload_n hx hb dX2_common_9 rfl (lv_at hl 0 rfl) ?_
    refine lv_aload_n hx hb dX2_common_10 rfl (lv_at hl 0 rfl) ?_
    refine va_get (D := D) (ci := 2) (v := .ref (ad 1)) (C := RX2) (T := TX2) (N := 4) hx hb hts inX2 hown hK hP b hO rfl 0 (by decide) (hts _ tw_78) (fun _ h9 => h9) rfl dX2_common_11 ?_
    refine lv_iload_n hx hb dX2_common_14 rfl (lv_at hl 1 rfl) ?_
    refine kx_qald hx hb hK hP (b + 1) 1 hQ rfl (i := i) (r := (ad (9 + 3 * i))) (by omega) (by decide) (hfq _ (by omega)) dX2_common_15 ?_
    refine lv_aload_n hx hb dX2_common_16 rfl (lv_at hl 0 rfl) ?_
    refine va_get (D := D) (ci := 2) (v := .ref (ad 1)) (C := RX2) (T := TX2) (N := 4) hx hb hts inX2 hown hK hP b hO rfl 0 (by decide) (hts _ tw_78) (fun _ h9 => h9) rfl dX2_common_17 ?_
    refine lv_iload_n hx hb dX2_common_20 rfl (lv_at hl 2 rfl) ?_
    refine kx_qald hx hb hK hP (b + 1) 1 hQ rfl (i := j) (r := (ad (9 + 3 * j))) (by omega) (by decide) (hfq _ (by omega)) dX2_common_21 ?_
    refine kx_goi (va_runV (As := [.ref (ad (9 + 3 * i)), .ref (ad (9 + 3 * j))]) (rest := []) ⟨hx, hb, hml, hown, hts⟩ (c_largest l D k0 w0 _ b (ad 0) (ad 1) (ad 8) (ad 2) (ad 3) (ad 4) r1 p1 k1 hF1 hR1 hT1 (ad 5) (ad 6) (ad 7) r2 p2 k2 hF2 hR2 hT2 hO (b + 9 + 3 * i) (ad (9 + 3 * i)) (ad (10 + 3 * i)) (ad (11 + 3 * i)) (LL i) (ww i) (nE i) (nI (nV i)) (op i) hGi hLi hWi (b + 9 + 3 * j) (ad (9 + 3 * j)) (ad (10 + 3 * j)) (ad (11 + 3 * j)) (LL j) (ww j) (nI (nV j)) (op j) (by rw [hnn]; exact hGj) hLj hWj (by omega) (by omega) hni (fun q h => gl_lt (hl2i q h)) (fun q h => gl_lt (hl2j q (by omega)))) ⟨(kg_B (k := 2) hts tw_221 tw_218 tw_19 (by decide +kernel) rfl rfl ⟨Nat.le_of_ble_eq_true rfl, Nat.le_of_ble_eq_true rfl⟩), hts _ tw_220, hts _ tw_4⟩ (kx_preV hN hK hP hD rfl hO) rfl rfl hl.1 rfl (lv_room (Nat.le_of_ble_eq_true rfl)) dX2_common_22 ⟨Nat.le_of_ble_eq_true rfl, Nat.le_of_ble_eq_true rfl⟩) hD hS hA (fun r_5 u_6 H locs hp_4 hP hD hS => ?_)
    obtain ⟨C, er, hsp, so1, st1, so2, st2, hF9, hF8, hq⟩ := hp_4
    subst er
    refine lv_goto (tgt := 29) hx hb dX2_common_25 (by decide) ?_
    exact kx_iret (v := nI C) hx hb hr rfl hlocks hK hP hD hS dX2_common_29 (by first | exact ⟨Or.inr ⟨hno, rfl⟩, hC, kx_fr_rf _ _⟩ | exact ⟨Or.inl ⟨i, j, C, h8i, h8j, hnn, e_x, e_y, rfl, hsp⟩, atC_rest hC (kx_fr_mono hq (fun j h => by omega)) ⟨_, _, _, hF9⟩ ⟨_, _, _, hF8⟩ ⟨dr, by rw [hq _ (by omega)]; exact hd⟩, kx_fr_mono hq (fun j h => by omega)⟩)

set_option maxHeartbeats 4000000 in
set_option maxRecDepth 100000 in
/-- cover(g, h) -/
theorem c_cover (l : Launch) (D : va_G) (k0 : Nat → ClassId)  (w0 : va_W) (sz : Nat) (b : Nat) (ad nE nV : Nat → Nat) (op : Nat → Int32) (LL : Nat → Nat → Nat) (ww : Nat → Nat → Int32) (hC : atC w0 b k0 ad nE nV op LL ww) (hI : cinv nE nV LL ww) (x y : Int32) : kx_i l yX2_cover wsX2_cover ({ frames := 19, cells := 0, slots := 0, locals := 520 } : Room) D (tyL k0) w0 sz [.ref (ad 0), .int x, .int y] (fun (r : Int32) (u : va_W) => ((∃ i j C, i < 8 ∧ j < 8 ∧ nE i = nE j ∧ x = nI i ∧ y = nI j ∧ r = nI C ∧ co_spec (LL i) (LL j) (nE i) C) ∨ (¬ (∃ i j, i < 8 ∧ j < 8 ∧ nE i = nE j ∧ x = nI i ∧ y = nI j) ∧ r = -1)) ∧ atC u b k0 ad nE nV op LL ww ∧ kx_fr w0 u (fun j => b ≤ j ∧ j < b + 33)) 0 0 := by
  refine kx_of (Qf := fun A => va_Qi (fun (r : Int32) (u : va_W) => ((∃ i j C, i < 8 ∧ j < 8 ∧ nE i = nE j ∧ x = nI i ∧ y = nI j ∧ r = nI C ∧ co_spec (LL i) (LL j) (nE i) C) ∨ (¬ (∃ i j, i < 8 ∧ j < 8 ∧ nE i = nE j ∧ x = nI i ∧ y = nI j) ∧ r = -1)) ∧ atC u b k0 ad nE nV op LL ww ∧ kx_fr w0 u (fun j => b ≤ j ∧ j < b + 33)) (kx_B D (tyL k0) A) A) (cc := cX2_cover) (maxL := 3) (ret := (some .int)) (by decide +kernel) (Nat.le_of_ble_eq_true rfl) ?_
  intro p e s m below meth c A ls hx hb hml hown hts hr hlocks hnm hN hK hP hD hS hA hl
  have hown : s.vm.findClass RX2 = some m.cls := hown
  have hl : lv_has ls 3 [(0, .ref (ad 0)), (1, .int x), (2, .int y)] := hl
  skip
  obtain ⟨hO, ⟨fq, hQ, hfq⟩, ⟨r1, p1, k1, hF1, hR1, hT1⟩, ⟨r2, p2, k2, hF2, hR2, hT2⟩, ⟨dr, hd⟩, hgs⟩ := id hC
  refine lv_aload_n hx hb dX2_cover_0 rfl (lv_at hl 0 rfl) ?_
  refine lv_iload_n hx hb dX2_cover_1 rfl (lv_at hl 1 rfl) ?_
  refine lv_iload_n hx hb dX2_cover_2 rfl (lv_at hl 2 rfl) ?_
  refine kx_goi (va_runV (As := [.int x, .int y]) (rest := []) ⟨hx, hb, hml, hown, hts⟩ (c_areAlike l D k0 w0 _ b ad nE nV op LL ww hC hI x y) ⟨(kg_B (k := 2) hts tw_217 tw_214 tw_19 (by decide +kernel) rfl rfl ⟨Nat.le_of_ble_eq_true rfl, Nat.le_of_ble_eq_true rfl⟩), hts _ tw_216, hts _ tw_3⟩ (kx_preV hN hK hP hD rfl hO) rfl rfl hl.1 rfl (lv_room (Nat.le_of_ble_eq_true rfl)) dX2_cover_3 ⟨Nat.le_of_ble_eq_true rfl, Nat.le_of_ble_eq_true rfl⟩) hD hS hA (fun r_2 u_3 H locs hp_1 hP hD hS => ?_)
  obtain ⟨hy_, eu⟩ := hp_1
  rw [eu] at hP hD
  refine lv_if_eq (tgt := 28) hx hb dX2_cover_6 (by decide) (fun c_6 => ?_) (fun c_6 => ?_)
  · skip
    have hno := kg_0 hy_ c_6
    refine lv_iconst (v := -1) hx hb dX2_cover_28 (by decide +kernel) ?_
    exact kx_iret (v := -1) hx hb hr rfl hlocks hK hP hD hS dX2_cover_29 (by first | exact ⟨Or.inr ⟨hno, rfl⟩, hC, kx_fr_rf _ _⟩ | exact ⟨Or.inl ⟨i, j, C, h8i, h8j, hnn, e_x, e_y, rfl, hsp⟩, atC_rest hC (kx_fr_mono hq (fun j h => by omega)) ⟨_, _, _, hF9⟩ ⟨_, _, _, hF8⟩ ⟨dr, by rw [hq _ (by omega)]; exact hd⟩, kx_fr_mono hq (fun j h => by omega)⟩)
  · skip
    obtain ⟨i, j, h8i, h8j, hnn, e_x, e_y⟩ := kg_1 hy_ c_6
    rw [e_x, e_y] at hl
    obtain ⟨hGi, hLi, hWi⟩ := hgs i h8i
    obtain ⟨hni, hvi, hl2i, hw2i⟩ := hI i h8i
    obtain ⟨hGj, hLj, hWj⟩ := hgs j h8j
    obtain ⟨hnj, hvj, hl2j, hw2j⟩ := hI j h8j
    refine lv_aload_n hx hb dX2_cover_9 rfl (lv_at hl 0 rfl) ?_
    refine lv_aload_n hx hb dX2_cover_10 rfl (lv_at hl 0 rfl) ?_
    refine va_get (D := D) (ci := 2) (v := .ref (ad 1)) (C := RX2) (T := TX2) (N := 4) hx hb hts inX2 hown hK hP b hO rfl 0 (by decide) (hts _ tw_78) (fun _ h9 => h9) rfl dX2_cover_11 ?_
    refine lv_iload_n hx hb dX2_cover_14 rfl (lv_at hl 1 rfl) ?_
    refine kx_qald hx hb hK hP (b + 1) 1 hQ rfl (i := i) (r := (ad (9 + 3 * i))) (by omega) (by decide) (hfq _ (by omega)) dX2_cover_15 ?_
    refine lv_aload_n hx hb dX2_cover_16 rfl (lv_at hl 0 rfl) ?_
    refine va_get (D := D) (ci := 2) (v := .ref (ad 1)) (C := RX2) (T := TX2) (N := 4) hx hb hts inX2 hown hK hP b hO rfl 0 (by decide) (hts _ tw_78) (fun _ h9 => h9) rfl dX2_cover_17 ?_
    refine lv_iload_n hx hb dX2_cover_20 rfl (lv_at hl 2 rfl) ?_
    refine kx_qald hx hb hK hP (b + 1) 1 hQ rfl (i := j) (r := (ad (9 + 3 * j))) (by omega) (by decide) (hfq _ (by omega)) dX2_cover_21 ?_
    refine kx_goi (va_runV (As := [.ref (ad (9 + 3 * i)), .ref (ad (9 + 3 * j))]) (rest := []) ⟨hx, hb, hml, hown, hts⟩ (c_leastCover l D k0 w0 _ b (ad 0) (ad 1) (ad 8) (ad 2) (ad 3) (ad 4) r1 p1 k1 hF1 hR1 hT1 (ad 5) (ad 6) (ad 7) r2 p2 k2 hF2 hR2 hT2 hO (b + 9 + 3 * i) (ad (9 + 3 * i)) (ad (10 + 3 * i)) (ad (11 + 3 * i)) (LL i) (ww i) (nE i) (nI (nV i)) (op i) hGi hLi hWi (b + 9 + 3 * j) (ad (9 + 3 * j)) (ad (10 + 3 * j)) (ad (11 + 3 * j)) (LL j) (ww j) (nI (nV j)) (op j) (by rw [hnn]; exact hGj) hLj hWj (by omega) (by omega) hni (fun q h => gl_lt (hl2i q h)) (fun q h => gl_lt (hl2j q (by omega)))) ⟨(kg_B (k := 2) hts tw_238 tw_235 tw_19 (by decide +kernel) rfl rfl ⟨Nat.le_of_ble_eq_true rfl, Nat.le_of_ble_eq_true rfl⟩), hts _ tw_237, hts _ tw_6⟩ (kx_preV hN hK hP hD rfl hO) rfl rfl hl.1 rfl (lv_room (Nat.le_of_ble_eq_true rfl)) dX2_cover_22 ⟨Nat.le_of_ble_eq_true rfl, Nat.le_of_ble_eq_true rfl⟩) hD hS hA (fun r_5 u_6 H locs hp_4 hP hD hS => ?_)
    obtain ⟨C, er, hsp, so1, st1, so2, st2, q1, q2, hF9, hF8, hq⟩ := hp_4
    subst er
    refine lv_goto (tgt := 29) hx hb dX2_cover_25 (by decide) ?_
    exact kx_iret (v := nI C) hx hb hr rfl hlocks hK hP hD hS dX2_cover_29 (by first | exact ⟨Or.inr ⟨hno, rfl⟩, hC, kx_fr_rf _ _⟩ | exact ⟨Or.inl ⟨i, j, C, h8i, h8j, hnn, e_x, e_y, rfl, hsp⟩, atC_rest hC (kx_fr_mono hq (fun j h => by omega)) ⟨_, _, _, hF9⟩ ⟨_, _, _, hF8⟩ ⟨dr, by rw [hq _ (by omega)]; exact hd⟩, kx_fr_mono hq (fun j h => by omega)⟩)
end
section
/-! THE MODEL'S JOIN: names, and how many were given up -/
def jn (A B : Nat → Nat) (S : Nat) : Nat → (Nat → Nat) × Nat
  | 0 => (fun v => v, 0)
  | e + 1 => if S.testBit e = true ∧ (jn A B S e).1 (A e) ≠ (jn A B S e).1 (B e) then (fun v => if (jn A B S e).1 v = (jn A B S e).1 (B e) then (jn A B S e).1 (A e) else (jn A B S e).1 v, (jn A B S e).2 + 1) else jn A B S e
def jl (A B : Nat → Nat) : Nat → Nat := fun e => 2 ^ A e ^^^ 2 ^ B e
theorem jn_lt {A B : Nat → Nat} {S n k : Nat} (hA : ∀ e, e < n → A e < k) : ∀ m, m ≤ n → ∀ v, v < k → (jn A B S m).1 v < k := by
  intro m
  induction m with
  | zero => intro _ v hv; exact hv
  | succ m ih =>
    intro hm v hv
    simp only [jn]
    split
    · dsimp only
      split
      · exact ih (by omega) _ (hA m (by omega))
      · exact ih (by omega) v hv
    · exact ih (by omega) v hv
theorem jn_le (A B : Nat → Nat) (S m : Nat) : (jn A B S m).2 ≤ m := by
  induction m with
  | zero => exact Nat.le_refl _
  | succ m ih =>
    simp only [jn]
    split
    · dsimp only; omega
    · omega
/-- what the names make of a sum of vertices -/
def jf (N : Nat → Nat) (v : Nat) : Nat := cf_xs (fun i => 2 ^ N i) 32 v
theorem jf_xor (N : Nat → Nat) (a b : Nat) : jf N (a ^^^ b) = jf N a ^^^ jf N b := cf_xs_xor _ 32 a b
theorem jf_0 (N : Nat → Nat) : jf N 0 = 0 := cf_xs_0 _ 32
theorem jf_two (N : Nat → Nat) {a b : Nat} (ha : a < 32) (hb : b < 32) : jf N (2 ^ a ^^^ 2 ^ b) = 2 ^ N a ^^^ 2 ^ N b := by
  rw [jf_xor]
  unfold jf
  rw [cf_xs_one ha, cf_xs_one hb]
theorem cf_two_ne {a b : Nat} (h : a ≠ b) : 2 ^ a ^^^ 2 ^ b ≠ 0 := fun q => by
  have : (2 ^ a ^^^ 2 ^ b).testBit a = true := by
    have d : ¬ b = a := fun e => h e.symm
    rw [Nat.testBit_xor, cf_one_bit, cf_one_bit]; simp [d]
  rw [q, Nat.zero_testBit] at this; cases this
/-- a sum of lines whose ends have one name each is named away -/
theorem jf_sp {A B N : Nat → Nat} {n T v : Nat} (hA : ∀ e, e < n → A e < 32) (hB : ∀ e, e < n → B e < 32) (h : ∀ e, e < n → T.testBit e = true → N (A e) = N (B e)) (hv : cf_sp (jl A B) n T v) : jf N v = 0 := by
  obtain ⟨U, hU, rfl⟩ := hv
  have key : ∀ m, m ≤ n → jf N (cf_xs (jl A B) m U) = 0 := by
    intro m
    induction m with
    | zero => intro _; exact jf_0 N
    | succ m ih =>
      intro hm
      simp only [cf_xs]
      split
      · rw [jf_xor, ih (by omega), show jl A B m = 2 ^ A m ^^^ 2 ^ B m from rfl, jf_two N (hA m (by omega)) (hB m (by omega)), h m (by omega) (hU m (by assumption)), Nat.xor_self, Nat.xor_self]
      · exact ih (by omega)
  exact key n (Nat.le_refl n)
/-- and what is named away is such a sum -/
theorem jf_ker {L : Nat → Nat} {n T v : Nat} {N : Nat → Nat} (h : ∀ i, i < 32 → cf_sp L n T (2 ^ i ^^^ 2 ^ N i)) (hv : v < 2 ^ 32) (h0 : jf N v = 0) : cf_sp L n T v := by
  have key : ∀ m, m ≤ 32 → cf_sp L n T (cf_xs (fun i => 2 ^ i) m v ^^^ cf_xs (fun i => 2 ^ N i) m v) := by
    intro m
    induction m with
    | zero => intro _; simp only [cf_xs, Nat.xor_self]; exact cf_sp_0 L n T
    | succ m ih =>
      intro hm
      simp only [cf_xs]
      split
      · rw [cf_x4]; exact cf_sp_xor (ih (by omega)) (h m (by omega))
      · exact ih (by omega)
  have k := key 32 (Nat.le_refl 32)
  have e1 : cf_xs (fun i => 2 ^ N i) 32 v = 0 := h0
  have e2 : ∀ m, cf_xs (fun i => 2 ^ i) m v = v % 2 ^ m := by
    intro m
    induction m with
    | zero => simp [cf_xs, Nat.mod_one]
    | succ m ih =>
      refine Nat.eq_of_testBit_eq fun j => ?_
      simp only [cf_xs]
      rw [Nat.testBit_mod_two_pow]
      split
      · rename_i c
        rw [ih, Nat.testBit_xor, Nat.testBit_mod_two_pow, cf_one_bit]
        by_cases d : m = j
        · subst d; simp [c]
        · have e3 : decide (j < m + 1) = decide (j < m) := by
            by_cases d2 : j < m
            · rw [decide_eq_true d2, decide_eq_true (by omega)]
            · rw [decide_eq_false d2, decide_eq_false (by omega)]
          simp [d, e3]
      · rename_i c
        rw [ih, Nat.testBit_mod_two_pow]
        by_cases d : m = j
        · subst d
          have : v.testBit m = false := by cases q : v.testBit m with
            | false => rfl
            | true => exact absurd q c
          simp [this]
        · have e3 : decide (j < m + 1) = decide (j < m) := by
            by_cases d2 : j < m
            · rw [decide_eq_true d2, decide_eq_true (by omega)]
            · rw [decide_eq_false d2, decide_eq_false (by omega)]
          rw [e3]
  rw [e1, Nat.xor_zero, e2, Nat.mod_eq_of_lt hv] at k
  exact k
theorem jn_ok {A B : Nat → Nat} {n S : Nat} (hA : ∀ e, e < n → A e < 32) (hB : ∀ e, e < n → B e < 32) : ∀ m, m ≤ n → ∃ T, cf_sub T S ∧ cf_ind (jl A B) n T ∧ cf_card n T = (jn A B S m).2 ∧ (∀ i, m ≤ i → T.testBit i = false) ∧ (∀ e, e < m → S.testBit e = true → (jn A B S m).1 (A e) = (jn A B S m).1 (B e) ∧ cf_sp (jl A B) n T (jl A B e)) ∧ ∀ v, v < 32 → cf_sp (jl A B) n T (2 ^ v ^^^ 2 ^ (jn A B S m).1 v) := by
  intro m
  induction m with
  | zero => intro _; exact ⟨0, cf_sub_0 S, cf_ind_0 _ n, cf_card_0 n, fun i _ => Nat.zero_testBit i, fun e he => absurd he (Nat.not_lt_zero e), fun v _ => by rw [show (jn A B S 0).1 v = v from rfl, Nat.xor_self]; exact cf_sp_0 _ _ _⟩
  | succ m ih =>
    intro hm
    obtain ⟨T, t1, t2, t3, t4, t5, t6⟩ := ih (by omega)
    by_cases c : S.testBit m = true ∧ (jn A B S m).1 (A m) ≠ (jn A B S m).1 (B m)
    · have e1 : jn A B S (m + 1) = (fun v => if (jn A B S m).1 v = (jn A B S m).1 (B m) then (jn A B S m).1 (A m) else (jn A B S m).1 v, (jn A B S m).2 + 1) := by simp only [jn]; rw [if_pos c]
      rw [e1]
      have hns : ¬ cf_sp (jl A B) n T (jl A B m) := fun q => by
        have := jf_sp (N := (jn A B S m).1) hA hB (fun e he hT => (t5 e (by
          rcases Nat.lt_or_ge e m with z | z
          · exact z
          · rw [t4 e z] at hT; cases hT) (t1 e hT)).1) q
        rw [show jl A B m = 2 ^ A m ^^^ 2 ^ B m from rfl, jf_two _ (hA m (by omega)) (hB m (by omega))] at this
        exact cf_two_ne c.2 this
      have hT : cf_sub T (T ||| 2 ^ m) := cf_sub_or _ _
      have hsm : cf_sp (jl A B) n (T ||| 2 ^ m) (jl A B m) := cf_sp_mem (by omega) (by rw [cf_add_bit]; simp)
      refine ⟨T ||| 2 ^ m, cf_or_sub t1 (cf_one_sub c.1), cf_ind_add (by omega) t2 hns, by rw [cf_card_add (by omega) (t4 m (Nat.le_refl m)), t3], fun i hi => ?_, fun e he hS => ?_, fun v hv => ?_⟩
      · rw [cf_add_bit, t4 i (by omega)]
        have : ¬ m = i := by omega
        simp [this]
      · rcases Nat.lt_or_ge e m with z | z
        · obtain ⟨h1, h2⟩ := t5 e z hS
          exact ⟨by dsimp only; rw [h1], cf_sp_mono hT h2⟩
        · have : e = m := by omega
          subst this
          refine ⟨?_, hsm⟩
          dsimp only
          rw [if_neg c.2, if_pos rfl]
      · dsimp only
        by_cases z : (jn A B S m).1 v = (jn A B S m).1 (B m)
        · rw [if_pos z]
          have k1 := t6 v hv
          have k2 := t6 (B m) (hB m (by omega))
          have k3 := t6 (A m) (hA m (by omega))
          rw [z] at k1
          have k4 := cf_sp_xor (cf_sp_xor (cf_sp_mono hT k1) (cf_sp_mono hT k2)) (cf_sp_xor hsm (cf_sp_mono hT k3))
          have e2 : (2 ^ v ^^^ 2 ^ (jn A B S m).1 (B m) ^^^ (2 ^ B m ^^^ 2 ^ (jn A B S m).1 (B m))) ^^^ (jl A B m ^^^ (2 ^ A m ^^^ 2 ^ (jn A B S m).1 (A m))) = 2 ^ v ^^^ 2 ^ (jn A B S m).1 (A m) := by
            unfold jl
            refine Nat.eq_of_testBit_eq fun i => ?_
            simp only [Nat.testBit_xor]
            cases (2 ^ v).testBit i <;> cases (2 ^ (jn A B S m).1 (B m)).testBit i <;> cases (2 ^ B m).testBit i <;> cases (2 ^ A m).testBit i <;> cases (2 ^ (jn A B S m).1 (A m)).testBit i <;> rfl
          rw [e2] at k4
          exact k4
        · rw [if_neg z]; exact cf_sp_mono hT (t6 v hv)
    · have e1 : jn A B S (m + 1) = jn A B S m := by simp only [jn]; rw [if_neg c]
      rw [e1]
      refine ⟨T, t1, t2, t3, fun i hi => t4 i (by omega), fun e he hS => ?_, t6⟩
      rcases Nat.lt_or_ge e m with z | z
      · exact t5 e z hS
      · have : e = m := by omega
        subst this
        have hab : (jn A B S e).1 (A e) = (jn A B S e).1 (B e) := by
          rcases Classical.em ((jn A B S e).1 (A e) = (jn A B S e).1 (B e)) with q | q
          · exact q
          · exact absurd ⟨hS, q⟩ c
        refine ⟨hab, ?_⟩
        have k1 := t6 (A e) (hA e (by omega))
        have k2 := t6 (B e) (hB e (by omega))
        rw [hab] at k1
        have k3 := cf_sp_xor k1 k2
        rw [cf_x4, Nat.xor_self, Nat.xor_zero] at k3
        exact k3
/-- the model's join counts the rank -/
theorem jn_rk {A B : Nat → Nat} {n : Nat} (S : Nat) (hA : ∀ e, e < n → A e < 32) (hB : ∀ e, e < n → B e < 32) : (jn A B S n).2 = cf_rk (jl A B) n S := by
  obtain ⟨T, t1, t2, t3, _, t5, _⟩ := jn_ok (S := S) hA hB n (Nat.le_refl n)
  rw [cf_rk_bas ⟨t1, t2, fun i hi hS => (t5 i hi hS).2⟩, t3]
/-- what the model's names do to sums -/
theorem jn_ker {A B : Nat → Nat} {n : Nat} (S : Nat) (hA : ∀ e, e < n → A e < 32) (hB : ∀ e, e < n → B e < 32) {v : Nat} (hv : v < 2 ^ 32) : jf (jn A B S n).1 v = 0 ↔ cf_sp (jl A B) n S v := by
  obtain ⟨T, t1, t2, t3, _, t5, t6⟩ := jn_ok (S := S) hA hB n (Nat.le_refl n)
  exact ⟨fun h => cf_sp_mono t1 (jf_ker t6 hv h), fun h => jf_sp hA hB (fun e he hS => (t5 e he hS).1) h⟩
end
section
/-! THE MODEL'S OBJECT: at place q, with its arrays behind it -/
def atM (w : va_W) (q : Nat) (k0 : Nat → ClassId) (am : Nat → Nat) (mv mc mo me : Nat → Nat) (mw : Nat → Int32) (mm : Nat → Nat) (mk : Nat) (mn fb sb : Nat → Nat) : Prop :=
  w[q]? = some (am 0, .inr (3, [.ref (am 1), .ref (am 2), .ref (am 3), .ref (am 4), .ref (am 5), .ref (am 6), .int (nI mk), .ref (am 7), .ref (am 8), .ref (am 9)]))
  ∧ w[q + 1]? = some (am 1, .inl (k0 0, 8, .inl (fun j => nI (mv j)))) ∧ w[q + 2]? = some (am 2, .inl (k0 0, 8, .inl (fun j => nI (mc j))))
  ∧ w[q + 3]? = some (am 3, .inl (k0 2, 8, .inl (fun j => nI (mo j)))) ∧ w[q + 4]? = some (am 4, .inl (k0 0, 192, .inl (fun j => nI (me j))))
  ∧ w[q + 5]? = some (am 5, .inl (k0 0, 96, .inl mw)) ∧ w[q + 6]? = some (am 6, .inl (k0 0, 24, .inl (fun j => nI (mm j))))
  ∧ w[q + 7]? = some (am 7, .inl (k0 0, 32, .inl (fun j => nI (mn j)))) ∧ w[q + 8]? = some (am 8, .inl (k0 3, 4096, .inl (fun j => nI (fb j))))
  ∧ w[q + 9]? = some (am 9, .inl (k0 3, 4096, .inl (fun j => nI (sb j))))
theorem atM_fr {w u : va_W} {q : Nat} {k0 : Nat → ClassId} {am mv mc mo me : Nat → Nat} {mw : Nat → Int32} {mm : Nat → Nat} {mk : Nat} {mn fb sb : Nat → Nat} {P : Nat → Prop} (h : atM w q k0 am mv mc mo me mw mm mk mn fb sb) (hf : kx_fr w u P) (hP : ∀ j, q ≤ j → j < q + 10 → ¬ P j) : atM u q k0 am mv mc mo me mw mm mk mn fb sb := by
  obtain ⟨h0, h1, h2, h3, h4, h5, h6, h7, h8, h9⟩ := h
  exact ⟨by rw [hf _ (hP _ (by omega) (by omega))]; exact h0, by rw [hf _ (hP _ (by omega) (by omega))]; exact h1, by rw [hf _ (hP _ (by omega) (by omega))]; exact h2, by rw [hf _ (hP _ (by omega) (by omega))]; exact h3, by rw [hf _ (hP _ (by omega) (by omega))]; exact h4, by rw [hf _ (hP _ (by omega) (by omega))]; exact h5, by rw [hf _ (hP _ (by omega) (by omega))]; exact h6, by rw [hf _ (hP _ (by omega) (by omega))]; exact h7, by rw [hf _ (hP _ (by omega) (by omega))]; exact h8, by rw [hf _ (hP _ (by omega) (by omega))]; exact h9⟩
/-- bounds of what it holds -/
def minv (mv mc mo me : Nat → Nat) (mw : Nat → Int32) : Prop := ∀ g, g < 8 → mc g ≤ 12 ∧ mv g ≤ 24 ∧ mo g ≤ 1 ∧ (∀ e, e < mc g → me (24 * g + 2 * e) < 24 ∧ me (24 * g + 2 * e + 1) < 24) ∧ gw_in (fun e => mw (12 * g + e)) (mc g)
/-- ORDER, as the model asks for it -/
def mo_lt (a b : Nat) : Prop := cf_card 12 a < cf_card 12 b ∨ (cf_card 12 a = cf_card 12 b ∧ cf_lex a b)
end
section
set_option maxHeartbeats 4000000 in
set_option maxRecDepth 100000 in
/-- the model: isGraph -/
theorem m_isGraph (l : Launch) (D : va_G) (k0 : Nat → ClassId)  (w0 : va_W) (sz : Nat) (x : Int32) : kx_i l yX3_isGraph wsX3_isGraph ({ frames := 0, cells := 0, slots := 0, locals := 0 } : Room) D (tyL k0) w0 sz [.int x] (fun (r : Int32) (u : va_W) => ((r = 1 ∧ ∃ i, i < 8 ∧ x = nI i) ∨ (r = 0 ∧ ¬ ∃ i, i < 8 ∧ x = nI i)) ∧ u = w0) 0 0 := by
  refine kx_of (Qf := fun A => va_Qi (fun (r : Int32) (u : va_W) => ((r = 1 ∧ ∃ i, i < 8 ∧ x = nI i) ∨ (r = 0 ∧ ¬ ∃ i, i < 8 ∧ x = nI i)) ∧ u = w0) (kx_B D (tyL k0) A) A) (cc := cX3_isGraph) (maxL := 1) (ret := (some .boolean)) (by decide +kernel) (Nat.le_of_ble_eq_true rfl) ?_
  intro p e s m below meth c A ls hx hb hml hown hts hr hlocks hnm hN hK hP hD hS hA hl
  have hown : s.vm.findClass RX3 = some m.cls := hown
  have hl : lv_has ls 1 [(0, .int x)] := hl
  skip
  refine lv_iload_n hx hb dX3_isGraph_0 rfl (lv_at hl 0 rfl) ?_
  refine lv_if_lt (tgt := 14) hx hb dX3_isGraph_1 (by decide) (fun c_1 => ?_) (fun c_1 => ?_)
  · skip
    have hno : ¬ ∃ i, i < 8 ∧ x = nI i := fun ⟨i, h1, h2⟩ => nI_pos (n := i) (by omega) (by rw [← h2]; exact c_1)
    refine lv_iconst (v := 0) hx hb dX3_isGraph_14 (by decide +kernel) ?_
    exact kx_iret (v := 0) hx hb hr rfl hlocks hK hP hD hS dX3_isGraph_15 (⟨by first | exact Or.inl ⟨rfl, hyes⟩ | exact Or.inr ⟨rfl, hno⟩, rfl⟩)
  · skip
    refine lv_iload_n hx hb dX3_isGraph_4 rfl (lv_at hl 0 rfl) ?_
    refine lv_bipush (v := nI 8) hx hb dX3_isGraph_5 (by decide +kernel) ?_
    refine lv_icmp_ge (tgt := 14) hx hb dX3_isGraph_7 (by decide) (fun c_7 => ?_) (fun c_7 => ?_)
    · skip
      have hno : ¬ ∃ i, i < 8 ∧ x = nI i := fun ⟨i, h1, h2⟩ => nI_ge (a := i) (b := 8) (by omega) (by decide) (by rw [← h2]; exact c_7)
      refine lv_iconst (v := 0) hx hb dX3_isGraph_14 (by decide +kernel) ?_
      exact kx_iret (v := 0) hx hb hr rfl hlocks hK hP hD hS dX3_isGraph_15 (⟨by first | exact Or.inl ⟨rfl, hyes⟩ | exact Or.inr ⟨rfl, hno⟩, rfl⟩)
    · skip
      have hyes : ∃ i, i < 8 ∧ x = nI i := by
        rcases pk_ix x (n := 8) (by decide) with h | h | h
        · exact absurd h c_1
        · exact absurd h c_7
        · exact h
      refine lv_iconst (v := 1) hx hb dX3_isGraph_10 (by decide +kernel) ?_
      refine lv_goto (tgt := 15) hx hb dX3_isGraph_11 (by decide) ?_
      exact kx_iret (v := 1) hx hb hr rfl hlocks hK hP hD hS dX3_isGraph_15 (⟨by first | exact Or.inl ⟨rfl, hyes⟩ | exact Or.inr ⟨rfl, hno⟩, rfl⟩)

set_option maxHeartbeats 4000000 in
set_option maxRecDepth 100000 in
/-- the model: whole -/
theorem m_whole (l : Launch) (D : va_G) (k0 : Nat → ClassId)  (w0 : va_W) (sz : Nat) (q : Nat) (am mv mc mo me : Nat → Nat) (mw : Nat → Int32) (mm : Nat → Nat) (mk : Nat) (mn fb sb : Nat → Nat) (hM : atM w0 q k0 am mv mc mo me mw mm mk mn fb sb) (hI : minv mv mc mo me mw) (i : Nat) (h8i : i < 8) : kx_i l yX3_whole wsX3_whole ({ frames := 0, cells := 0, slots := 0, locals := 0 } : Room) D (tyL k0) w0 sz [.ref (am 0), .int (nI i)] (fun (r : Int32) (u : va_W) => r = nI (cf_full (mc i)) ∧ u = w0) 0 0 := by
  refine kx_of (Qf := fun A => va_Qi (fun (r : Int32) (u : va_W) => r = nI (cf_full (mc i)) ∧ u = w0) (kx_B D (tyL k0) A) A) (cc := cX3_whole) (maxL := 2) (ret := (some .int)) (by decide +kernel) (Nat.le_of_ble_eq_true rfl) ?_
  intro p e s m below meth c A ls hx hb hml hown hts hr hlocks hnm hN hK hP hD hS hA hl
  have hown : s.vm.findClass RX3 = some m.cls := hown
  have hl : lv_has ls 2 [(0, .ref (am 0)), (1, .int (nI i))] := hl
  skip
  obtain ⟨hM0, hM1, hM2, hM3, hM4, hM5, hM6, hM7, hM8, hM9⟩ := id hM
  obtain ⟨hni, hvi, hoi, he2i, hw2i⟩ := hI i h8i
  refine lv_iconst (v := 1) hx hb dX3_whole_0 (by decide +kernel) ?_
  refine lv_aload_n hx hb dX3_whole_1 rfl (lv_at hl 0 rfl) ?_
  refine va_get (D := D) (ci := 3) (v := .ref (am 2)) (C := RX3) (T := TX3) (N := 10) hx hb hts inX3 hown hK hP q hM0 rfl 1 (by decide) (hts _ tw_251) (fun _ h9 => h9) rfl dX3_whole_2 ?_
  refine lv_iload_n hx hb dX3_whole_5 rfl (lv_at hl 1 rfl) ?_
  refine kx_nald hx hb hK hP (q + 2) hM2 rfl (i := i) (by omega) (by decide) dX3_whole_6 ?_
  refine lv_ishl hx hb dX3_whole_7 ?_
  refine lv_iconst (v := 1) hx hb dX3_whole_8 (by decide +kernel) ?_
  refine lv_isub hx hb dX3_whole_9 ?_
  refine lv_topi (fun z_1 ez_1 => ?_)
  have ez_1 : z_1 = nI (cf_full (mc i)) := by rw [ez_1]; exact kb_all (by omega)
  subst ez_1
  exact kx_iret (v := nI (cf_full (mc i))) hx hb hr rfl hlocks hK hP hD hS dX3_whole_10 (⟨rfl, rfl⟩)

set_option maxHeartbeats 4000000 in
set_option maxRecDepth 100000 in
/-- the model: isEdge -/
theorem m_isEdge (l : Launch) (D : va_G) (k0 : Nat → ClassId)  (w0 : va_W) (sz : Nat) (q : Nat) (am mv mc mo me : Nat → Nat) (mw : Nat → Int32) (mm : Nat → Nat) (mk : Nat) (mn fb sb : Nat → Nat) (hM : atM w0 q k0 am mv mc mo me mw mm mk mn fb sb) (hI : minv mv mc mo me mw) (x y : Int32) : kx_i l yX3_isEdge wsX3_isEdge ({ frames := 1, cells := 0, slots := 0, locals := 24 } : Room) D (tyL k0) w0 sz [.ref (am 0), .int x, .int y] (fun (r : Int32) (u : va_W) => ((r = 1 ∧ (∃ i e9, i < 8 ∧ e9 < mc i ∧ x = nI i ∧ y = nI e9)) ∨ (r = 0 ∧ ¬ (∃ i e9, i < 8 ∧ e9 < mc i ∧ x = nI i ∧ y = nI e9))) ∧ u = w0) 0 0 := by
  refine kx_of (Qf := fun A => va_Qi (fun (r : Int32) (u : va_W) => ((r = 1 ∧ (∃ i e9, i < 8 ∧ e9 < mc i ∧ x = nI i ∧ y = nI e9)) ∨ (r = 0 ∧ ¬ (∃ i e9, i < 8 ∧ e9 < mc i ∧ x = nI i ∧ y = nI e9))) ∧ u = w0) (kx_B D (tyL k0) A) A) (cc := cX3_isEdge) (maxL := 3) (ret := (some .boolean)) (by decide +kernel) (Nat.le_of_ble_eq_true rfl) ?_
  intro p e s m below meth c A ls hx hb hml hown hts hr hlocks hnm hN hK hP hD hS hA hl
  have hown : s.vm.findClass RX3 = some m.cls := hown
  have hl : lv_has ls 3 [(0, .ref (am 0)), (1, .int x), (2, .int y)] := hl
  skip
  obtain ⟨hM0, hM1, hM2, hM3, hM4, hM5, hM6, hM7, hM8, hM9⟩ := id hM
  refine lv_iload_n hx hb dX3_isEdge_0 rfl (lv_at hl 1 rfl) ?_
  refine kx_goi (va_runS (As := [.int x]) (rest := []) ⟨hx, hb, hml, hown, hts⟩ (m_isGraph l D k0 w0 _ x) ⟨(kg_B (k := 1) hts tw_289 tw_287 tw_22 (by decide +kernel) rfl rfl ⟨Nat.le_of_ble_eq_true rfl, Nat.le_of_ble_eq_true rfl⟩), hts _ tw_288⟩ (kx_preS hN hK hP hD) rfl rfl hl.1 rfl (lv_room (Nat.le_of_ble_eq_true rfl)) dX3_isEdge_1 ⟨Nat.le_of_ble_eq_true rfl, Nat.le_of_ble_eq_true rfl⟩) hD hS hA (fun r_2 u_3 H locs hp_1 hP hD hS => ?_)
  obtain ⟨hy_x, eu⟩ := hp_1
  rw [eu] at hP hD
  refine lv_if_eq (tgt := 25) hx hb dX3_isEdge_4 (by decide) (fun c_4 => ?_) (fun c_4 => ?_)
  · skip
    have hno0 := kg_0 hy_x c_4
    have hno : ¬ (∃ i e9, i < 8 ∧ e9 < mc i ∧ x = nI i ∧ y = nI e9) := fun ⟨i, _, h1, _, h2, _⟩ => hno0 ⟨i, h1, h2⟩
    refine lv_iconst (v := 0) hx hb dX3_isEdge_25 (by decide +kernel) ?_
    exact kx_iret (v := 0) hx hb hr rfl hlocks hK hP hD hS dX3_isEdge_26 (⟨by first | exact Or.inl ⟨rfl, hyes⟩ | exact Or.inr ⟨rfl, hno⟩, rfl⟩)
  · skip
    obtain ⟨i, h8i, e_x⟩ := kg_1 hy_x c_4
    rw [e_x] at hl
    obtain ⟨hni, hvi, hoi, he2i, hw2i⟩ := hI i h8i
    refine lv_iload_n hx hb dX3_isEdge_7 rfl (lv_at hl 2 rfl) ?_
    refine lv_if_lt (tgt := 25) hx hb dX3_isEdge_8 (by decide) (fun c_8 => ?_) (fun c_8 => ?_)
    · skip
      have hno : ¬ (∃ i e9, i < 8 ∧ e9 < mc i ∧ x = nI i ∧ y = nI e9) := fun ⟨i2, e9, h0, h1, _, h2⟩ => nI_pos (n := e9) (by have := (hI i2 h0).1; omega) (by rw [← h2]; exact c_8)
      refine lv_iconst (v := 0) hx hb dX3_isEdge_25 (by decide +kernel) ?_
      exact kx_iret (v := 0) hx hb hr rfl hlocks hK hP hD hS dX3_isEdge_26 (⟨by first | exact Or.inl ⟨rfl, hyes⟩ | exact Or.inr ⟨rfl, hno⟩, rfl⟩)
    · skip
      refine lv_iload_n hx hb dX3_isEdge_11 rfl (lv_at hl 2 rfl) ?_
      refine lv_aload_n hx hb dX3_isEdge_12 rfl (lv_at hl 0 rfl) ?_
      refine va_get (D := D) (ci := 3) (v := .ref (am 2)) (C := RX3) (T := TX3) (N := 10) hx hb hts inX3 hown hK hP q hM0 rfl 1 (by decide) (hts _ tw_251) (fun _ h9 => h9) rfl dX3_isEdge_13 ?_
      refine lv_iload_n hx hb dX3_isEdge_16 rfl (lv_at hl 1 rfl) ?_
      refine kx_nald hx hb hK hP (q + 2) hM2 rfl (i := i) (by omega) (by decide) dX3_isEdge_17 ?_
      refine lv_icmp_ge (tgt := 25) hx hb dX3_isEdge_18 (by decide) (fun c_18 => ?_) (fun c_18 => ?_)
      · skip
        have hno : ¬ (∃ i e9, i < 8 ∧ e9 < mc i ∧ x = nI i ∧ y = nI e9) := fun ⟨i2, e9, h0, h1, h2, h3⟩ => by
          have hi2 : i2 = i := ((nI_eq (by omega) (by omega)).mp (h2.symm.trans e_x))
          subst hi2
          exact nI_ge (a := e9) (b := mc i2) h1 (by omega) (by rw [← h3]; exact c_18)
        refine lv_iconst (v := 0) hx hb dX3_isEdge_25 (by decide +kernel) ?_
        exact kx_iret (v := 0) hx hb hr rfl hlocks hK hP hD hS dX3_isEdge_26 (⟨by first | exact Or.inl ⟨rfl, hyes⟩ | exact Or.inr ⟨rfl, hno⟩, rfl⟩)
      · skip
        have hyes : (∃ i e9, i < 8 ∧ e9 < mc i ∧ x = nI i ∧ y = nI e9) := by
          rcases pk_ix y (n := mc i) (by omega) with h | h | ⟨e9, h1, h2⟩
          · exact absurd h c_8
          · exact absurd h c_18
          · exact ⟨i, e9, h8i, h1, e_x, h2⟩
        refine lv_iconst (v := 1) hx hb dX3_isEdge_21 (by decide +kernel) ?_
        refine lv_goto (tgt := 26) hx hb dX3_isEdge_22 (by decide) ?_
        exact kx_iret (v := 1) hx hb hr rfl hlocks hK hP hD hS dX3_isEdge_26 (⟨by first | exact Or.inl ⟨rfl, hyes⟩ | exact Or.inr ⟨rfl, hno⟩, rfl⟩)

set_option maxHeartbeats 4000000 in
set_option maxRecDepth 100000 in
/-- the model: isSet -/
theorem m_isSet (l : Launch) (D : va_G) (k0 : Nat → ClassId)  (w0 : va_W) (sz : Nat) (q : Nat) (am mv mc mo me : Nat → Nat) (mw : Nat → Int32) (mm : Nat → Nat) (mk : Nat) (mn fb sb : Nat → Nat) (hM : atM w0 q k0 am mv mc mo me mw mm mk mn fb sb) (hI : minv mv mc mo me mw) (x y : Int32) : kx_i l yX3_isSet wsX3_isSet ({ frames := 1, cells := 0, slots := 0, locals := 24 } : Room) D (tyL k0) w0 sz [.ref (am 0), .int x, .int y] (fun (r : Int32) (u : va_W) => ((r = 1 ∧ (∃ i S, i < 8 ∧ S ≤ cf_full (mc i) ∧ x = nI i ∧ y = nI S)) ∨ (r = 0 ∧ ¬ (∃ i S, i < 8 ∧ S ≤ cf_full (mc i) ∧ x = nI i ∧ y = nI S))) ∧ u = w0) 0 0 := by
  refine kx_of (Qf := fun A => va_Qi (fun (r : Int32) (u : va_W) => ((r = 1 ∧ (∃ i S, i < 8 ∧ S ≤ cf_full (mc i) ∧ x = nI i ∧ y = nI S)) ∨ (r = 0 ∧ ¬ (∃ i S, i < 8 ∧ S ≤ cf_full (mc i) ∧ x = nI i ∧ y = nI S))) ∧ u = w0) (kx_B D (tyL k0) A) A) (cc := cX3_isSet) (maxL := 3) (ret := (some .boolean)) (by decide +kernel) (Nat.le_of_ble_eq_true rfl) ?_
  intro p e s m below meth c A ls hx hb hml hown hts hr hlocks hnm hN hK hP hD hS hA hl
  have hown : s.vm.findClass RX3 = some m.cls := hown
  have hl : lv_has ls 3 [(0, .ref (am 0)), (1, .int x), (2, .int y)] := hl
  skip
  obtain ⟨hM0, hM1, hM2, hM3, hM4, hM5, hM6, hM7, hM8, hM9⟩ := id hM
  refine lv_iload_n hx hb dX3_isSet_0 rfl (lv_at hl 1 rfl) ?_
  refine kx_goi (va_runS (As := [.int x]) (rest := []) ⟨hx, hb, hml, hown, hts⟩ (m_isGraph l D k0 w0 _ x) ⟨(kg_B (k := 1) hts tw_289 tw_287 tw_22 (by decide +kernel) rfl rfl ⟨Nat.le_of_ble_eq_true rfl, Nat.le_of_ble_eq_true rfl⟩), hts _ tw_288⟩ (kx_preS hN hK hP hD) rfl rfl hl.1 rfl (lv_room (Nat.le_of_ble_eq_true rfl)) dX3_isSet_1 ⟨Nat.le_of_ble_eq_true rfl, Nat.le_of_ble_eq_true rfl⟩) hD hS hA (fun r_2 u_3 H locs hp_1 hP hD hS => ?_)
  obtain ⟨hy_x, eu⟩ := hp_1
  rw [eu] at hP hD
  refine lv_if_eq (tgt := 24) hx hb dX3_isSet_4 (by decide) (fun c_4 => ?_) (fun c_4 => ?_)
  · skip
    have hno0 := kg_0 hy_x c_4
    have hno : ¬ (∃ i S, i < 8 ∧ S ≤ cf_full (mc i) ∧ x = nI i ∧ y = nI S) := fun ⟨i, _, h1, _, h2, _⟩ => hno0 ⟨i, h1, h2⟩
    refine lv_iconst (v := 0) hx hb dX3_isSet_24 (by decide +kernel) ?_
    exact kx_iret (v := 0) hx hb hr rfl hlocks hK hP hD hS dX3_isSet_25 (⟨by first | exact Or.inl ⟨rfl, hyes⟩ | exact Or.inr ⟨rfl, hno⟩, rfl⟩)
  · skip
    obtain ⟨i, h8i, e_x⟩ := kg_1 hy_x c_4
    rw [e_x] at hl
    obtain ⟨hni, hvi, hoi, he2i, hw2i⟩ := hI i h8i
    have hfl := kb_full_lt hni
    refine lv_iload_n hx hb dX3_isSet_7 rfl (lv_at hl 2 rfl) ?_
    refine lv_if_lt (tgt := 24) hx hb dX3_isSet_8 (by decide) (fun c_8 => ?_) (fun c_8 => ?_)
    · skip
      have hno : ¬ (∃ i S, i < 8 ∧ S ≤ cf_full (mc i) ∧ x = nI i ∧ y = nI S) := fun ⟨i2, e9, h0, h1, _, h2⟩ => nI_pos (n := e9) (by have := kb_full_lt (hI i2 h0).1; omega) (by rw [← h2]; exact c_8)
      refine lv_iconst (v := 0) hx hb dX3_isSet_24 (by decide +kernel) ?_
      exact kx_iret (v := 0) hx hb hr rfl hlocks hK hP hD hS dX3_isSet_25 (⟨by first | exact Or.inl ⟨rfl, hyes⟩ | exact Or.inr ⟨rfl, hno⟩, rfl⟩)
    · skip
      refine lv_iload_n hx hb dX3_isSet_11 rfl (lv_at hl 2 rfl) ?_
      refine lv_aload_n hx hb dX3_isSet_12 rfl (lv_at hl 0 rfl) ?_
      refine lv_iload_n hx hb dX3_isSet_13 rfl (lv_at hl 1 rfl) ?_
      refine kx_goi (va_runV (As := [.int (nI i)]) (rest := [.int y]) ⟨hx, hb, hml, hown, hts⟩ (m_whole l D k0 w0 _ q am mv mc mo me mw mm mk mn fb sb ⟨hM0, hM1, hM2, hM3, hM4, hM5, hM6, hM7, hM8, hM9⟩ hI i h8i) ⟨(kg_B (k := 1) hts tw_313 tw_310 tw_22 (by decide +kernel) rfl rfl ⟨Nat.le_of_ble_eq_true rfl, Nat.le_of_ble_eq_true rfl⟩), hts _ tw_312, hts _ tw_10⟩ (kx_preV hN hK hP hD rfl hM0) rfl rfl hl.1 rfl (lv_room (Nat.le_of_ble_eq_true rfl)) dX3_isSet_14 ⟨Nat.le_of_ble_eq_true rfl, Nat.le_of_ble_eq_true rfl⟩) hD hS hA (fun r_5 u_6 H locs hp_4 hP hD hS => ?_)
      obtain ⟨er_5, eu_6⟩ := hp_4
      rw [eu_6] at hP hD; subst er_5
      refine lv_icmp_gt (tgt := 24) hx hb dX3_isSet_17 (by decide) (fun c_17 => ?_) (fun c_17 => ?_)
      · skip
        have hno : ¬ (∃ i S, i < 8 ∧ S ≤ cf_full (mc i) ∧ x = nI i ∧ y = nI S) := fun ⟨i2, e9, h0, h1, h2, h3⟩ => by
          have hi2 : i2 = i := ((nI_eq (by omega) (by omega)).mp (h2.symm.trans e_x))
          subst hi2
          rw [h3] at c_17
          have := (nI_ltI (by omega) (by omega)).mp c_17
          omega
        refine lv_iconst (v := 0) hx hb dX3_isSet_24 (by decide +kernel) ?_
        exact kx_iret (v := 0) hx hb hr rfl hlocks hK hP hD hS dX3_isSet_25 (⟨by first | exact Or.inl ⟨rfl, hyes⟩ | exact Or.inr ⟨rfl, hno⟩, rfl⟩)
      · skip
        have hyes : (∃ i S, i < 8 ∧ S ≤ cf_full (mc i) ∧ x = nI i ∧ y = nI S) := by
          obtain ⟨S, h1, h2⟩ := nI_of c_8
          refine ⟨i, S, h8i, ?_, e_x, h2⟩
          rw [h2] at c_17
          rcases Nat.lt_or_ge (cf_full (mc i)) S with h | h
          · exact absurd ((nI_ltI (by omega) (by omega)).mpr h) c_17
          · exact h
        refine lv_iconst (v := 1) hx hb dX3_isSet_20 (by decide +kernel) ?_
        refine lv_goto (tgt := 25) hx hb dX3_isSet_21 (by decide) ?_
        exact kx_iret (v := 1) hx hb hr rfl hlocks hK hP hD hS dX3_isSet_25 (⟨by first | exact Or.inl ⟨rfl, hyes⟩ | exact Or.inr ⟨rfl, hno⟩, rfl⟩)

set_option maxHeartbeats 4000000 in
set_option maxRecDepth 100000 in
/-- the model: areAlike -/
theorem m_areAlike (l : Launch) (D : va_G) (k0 : Nat → ClassId)  (w0 : va_W) (sz : Nat) (q : Nat) (am mv mc mo me : Nat → Nat) (mw : Nat → Int32) (mm : Nat → Nat) (mk : Nat) (mn fb sb : Nat → Nat) (hM : atM w0 q k0 am mv mc mo me mw mm mk mn fb sb) (hI : minv mv mc mo me mw) (x y : Int32) : kx_i l yX3_areAlike wsX3_areAlike ({ frames := 1, cells := 0, slots := 0, locals := 24 } : Room) D (tyL k0) w0 sz [.ref (am 0), .int x, .int y] (fun (r : Int32) (u : va_W) => ((r = 1 ∧ (∃ i j, i < 8 ∧ j < 8 ∧ mc i = mc j ∧ x = nI i ∧ y = nI j)) ∨ (r = 0 ∧ ¬ (∃ i j, i < 8 ∧ j < 8 ∧ mc i = mc j ∧ x = nI i ∧ y = nI j))) ∧ u = w0) 0 0 := by
  refine kx_of (Qf := fun A => va_Qi (fun (r : Int32) (u : va_W) => ((r = 1 ∧ (∃ i j, i < 8 ∧ j < 8 ∧ mc i = mc j ∧ x = nI i ∧ y = nI j)) ∨ (r = 0 ∧ ¬ (∃ i j, i < 8 ∧ j < 8 ∧ mc i = mc j ∧ x = nI i ∧ y = nI j))) ∧ u = w0) (kx_B D (tyL k0) A) A) (cc := cX3_areAlike) (maxL := 3) (ret := (some .boolean)) (by decide +kernel) (Nat.le_of_ble_eq_true rfl) ?_
  intro p e s m below meth c A ls hx hb hml hown hts hr hlocks hnm hN hK hP hD hS hA hl
  have hown : s.vm.findClass RX3 = some m.cls := hown
  have hl : lv_has ls 3 [(0, .ref (am 0)), (1, .int x), (2, .int y)] := hl
  skip
  obtain ⟨hM0, hM1, hM2, hM3, hM4, hM5, hM6, hM7, hM8, hM9⟩ := id hM
  refine lv_iload_n hx hb dX3_areAlike_0 rfl (lv_at hl 1 rfl) ?_
  refine kx_goi (va_runS (As := [.int x]) (rest := []) ⟨hx, hb, hml, hown, hts⟩ (m_isGraph l D k0 w0 _ x) ⟨(kg_B (k := 1) hts tw_289 tw_287 tw_22 (by decide +kernel) rfl rfl ⟨Nat.le_of_ble_eq_true rfl, Nat.le_of_ble_eq_true rfl⟩), hts _ tw_288⟩ (kx_preS hN hK hP hD) rfl rfl hl.1 rfl (lv_room (Nat.le_of_ble_eq_true rfl)) dX3_areAlike_1 ⟨Nat.le_of_ble_eq_true rfl, Nat.le_of_ble_eq_true rfl⟩) hD hS hA (fun r_2 u_3 H locs hp_1 hP hD hS => ?_)
  obtain ⟨hy_x, eu⟩ := hp_1
  rw [eu] at hP hD
  refine lv_if_eq (tgt := 33) hx hb dX3_areAlike_4 (by decide) (fun c_4 => ?_) (fun c_4 => ?_)
  · skip
    have hno0 := kg_0 hy_x c_4
    have hno : ¬ (∃ i j, i < 8 ∧ j < 8 ∧ mc i = mc j ∧ x = nI i ∧ y = nI j) := fun ⟨i, _, h1, _, _, h2, _⟩ => hno0 ⟨i, h1, h2⟩
    refine lv_iconst (v := 0) hx hb dX3_areAlike_33 (by decide +kernel) ?_
    exact kx_iret (v := 0) hx hb hr rfl hlocks hK hP hD hS dX3_areAlike_34 (⟨by first | exact Or.inl ⟨rfl, hyes⟩ | exact Or.inr ⟨rfl, hno⟩, rfl⟩)
  · skip
    obtain ⟨i, h8i, e_x⟩ := kg_1 hy_x c_4
    rw [e_x] at hl
    obtain ⟨hni, hvi, hoi, he2i, hw2i⟩ := hI i h8i
    refine lv_iload_n hx hb dX3_areAlike_7 rfl (lv_at hl 2 rfl) ?_
    refine kx_goi (va_runS (As := [.int y]) (rest := []) ⟨hx, hb, hml, hown, hts⟩ (m_isGraph l D k0 w0 _ y) ⟨(kg_B (k := 1) hts tw_289 tw_287 tw_22 (by decide +kernel) rfl rfl ⟨Nat.le_of_ble_eq_true rfl, Nat.le_of_ble_eq_true rfl⟩), hts _ tw_288⟩ (kx_preS hN hK hP hD) rfl rfl hl.1 rfl (lv_room (Nat.le_of_ble_eq_true rfl)) dX3_areAlike_8 ⟨Nat.le_of_ble_eq_true rfl, Nat.le_of_ble_eq_true rfl⟩) hD hS hA (fun r_5 u_6 H locs hp_4 hP hD hS => ?_)
    obtain ⟨hy_y, eu⟩ := hp_4
    rw [eu] at hP hD
    refine lv_if_eq (tgt := 33) hx hb dX3_areAlike_11 (by decide) (fun c_11 => ?_) (fun c_11 => ?_)
    · skip
      have hno0 := kg_0 hy_y c_11
      have hno : ¬ (∃ i j, i < 8 ∧ j < 8 ∧ mc i = mc j ∧ x = nI i ∧ y = nI j) := fun ⟨_, j, _, h1, _, _, h2⟩ => hno0 ⟨j, h1, h2⟩
      refine lv_iconst (v := 0) hx hb dX3_areAlike_33 (by decide +kernel) ?_
      exact kx_iret (v := 0) hx hb hr rfl hlocks hK hP hD hS dX3_areAlike_34 (⟨by first | exact Or.inl ⟨rfl, hyes⟩ | exact Or.inr ⟨rfl, hno⟩, rfl⟩)
    · skip
      obtain ⟨j, h8j, e_y⟩ := kg_1 hy_y c_11
      rw [e_y] at hl
      obtain ⟨hnj, hvj, hoj, he2j, hw2j⟩ := hI j h8j
      refine lv_aload_n hx hb dX3_areAlike_14 rfl (lv_at hl 0 rfl) ?_
      refine va_get (D := D) (ci := 3) (v := .ref (am 2)) (C := RX3) (T := TX3) (N := 10) hx hb hts inX3 hown hK hP q hM0 rfl 1 (by decide) (hts _ tw_251) (fun _ h9 => h9) rfl dX3_areAlike_15 ?_
      refine lv_iload_n hx hb dX3_areAlike_18 rfl (lv_at hl 1 rfl) ?_
      refine kx_nald hx hb hK hP (q + 2) hM2 rfl (i := i) (by omega) (by decide) dX3_areAlike_19 ?_
      refine lv_aload_n hx hb dX3_areAlike_20 rfl (lv_at hl 0 rfl) ?_
      refine va_get (D := D) (ci := 3) (v := .ref (am 2)) (C := RX3) (T := TX3) (N := 10) hx hb hts inX3 hown hK hP q hM0 rfl 1 (by decide) (hts _ tw_251) (fun _ h9 => h9) rfl dX3_areAlike_21 ?_
      refine lv_iload_n hx hb dX3_areAlike_24 rfl (lv_at hl 2 rfl) ?_
      refine kx_nald hx hb hK hP (q + 2) hM2 rfl (i := j) (by omega) (by decide) dX3_areAlike_25 ?_
      refine lv_icmp_ne (tgt := 33) hx hb dX3_areAlike_26 (by decide) (fun c_26 => ?_) (fun c_26 => ?_)
      · skip
        have hno : ¬ (∃ i j, i < 8 ∧ j < 8 ∧ mc i = mc j ∧ x = nI i ∧ y = nI j) := fun ⟨i2, j2, h0, h1, h2, h3, h4⟩ => by
          have hi2 : i2 = i := ((nI_eq (by omega) (by omega)).mp (h3.symm.trans e_x))
          have hj2 : j2 = j := ((nI_eq (by omega) (by omega)).mp (h4.symm.trans e_y))
          subst hi2; subst hj2
          exact c_26 (by rw [h2])
        refine lv_iconst (v := 0) hx hb dX3_areAlike_33 (by decide +kernel) ?_
        exact kx_iret (v := 0) hx hb hr rfl hlocks hK hP hD hS dX3_areAlike_34 (⟨by first | exact Or.inl ⟨rfl, hyes⟩ | exact Or.inr ⟨rfl, hno⟩, rfl⟩)
      · skip
        have hyes : (∃ i j, i < 8 ∧ j < 8 ∧ mc i = mc j ∧ x = nI i ∧ y = nI j) := ⟨i, j, h8i, h8j, (nI_eq (by omega) (by omega)).mp c_26, e_x, e_y⟩
        refine lv_iconst (v := 1) hx hb dX3_areAlike_29 (by decide +kernel) ?_
        refine lv_goto (tgt := 34) hx hb dX3_areAlike_30 (by decide) ?_
        exact kx_iret (v := 1) hx hb hr rfl hlocks hK hP hD hS dX3_areAlike_34 (⟨by first | exact Or.inl ⟨rfl, hyes⟩ | exact Or.inr ⟨rfl, hno⟩, rfl⟩)

set_option maxHeartbeats 4000000 in
set_option maxRecDepth 100000 in
/-- the model: edges -/
theorem m_edges (l : Launch) (D : va_G) (k0 : Nat → ClassId)  (w0 : va_W) (sz : Nat) (q : Nat) (am mv mc mo me : Nat → Nat) (mw : Nat → Int32) (mm : Nat → Nat) (mk : Nat) (mn fb sb : Nat → Nat) (hM : atM w0 q k0 am mv mc mo me mw mm mk mn fb sb) (hI : minv mv mc mo me mw) (x : Int32) : kx_i l yX3_edges wsX3_edges ({ frames := 1, cells := 0, slots := 0, locals := 24 } : Room) D (tyL k0) w0 sz [.ref (am 0), .int x] (fun (r : Int32) (u : va_W) => ((∃ i, i < 8 ∧ x = nI i ∧ r = nI (mc i)) ∨ ((¬ ∃ i, i < 8 ∧ x = nI i) ∧ r = -1)) ∧ u = w0) 0 0 := by
  refine kx_of (Qf := fun A => va_Qi (fun (r : Int32) (u : va_W) => ((∃ i, i < 8 ∧ x = nI i ∧ r = nI (mc i)) ∨ ((¬ ∃ i, i < 8 ∧ x = nI i) ∧ r = -1)) ∧ u = w0) (kx_B D (tyL k0) A) A) (cc := cX3_edges) (maxL := 2) (ret := (some .int)) (by decide +kernel) (Nat.le_of_ble_eq_true rfl) ?_
  intro p e s m below meth c A ls hx hb hml hown hts hr hlocks hnm hN hK hP hD hS hA hl
  have hown : s.vm.findClass RX3 = some m.cls := hown
  have hl : lv_has ls 2 [(0, .ref (am 0)), (1, .int x)] := hl
  skip
  obtain ⟨hM0, hM1, hM2, hM3, hM4, hM5, hM6, hM7, hM8, hM9⟩ := id hM
  refine lv_iload_n hx hb dX3_edges_0 rfl (lv_at hl 1 rfl) ?_
  refine kx_goi (va_runS (As := [.int x]) (rest := []) ⟨hx, hb, hml, hown, hts⟩ (m_isGraph l D k0 w0 _ x) ⟨(kg_B (k := 1) hts tw_289 tw_287 tw_22 (by decide +kernel) rfl rfl ⟨Nat.le_of_ble_eq_true rfl, Nat.le_of_ble_eq_true rfl⟩), hts _ tw_288⟩ (kx_preS hN hK hP hD) rfl rfl hl.1 rfl (lv_room (Nat.le_of_ble_eq_true rfl)) dX3_edges_1 ⟨Nat.le_of_ble_eq_true rfl, Nat.le_of_ble_eq_true rfl⟩) hD hS hA (fun r_2 u_3 H locs hp_1 hP hD hS => ?_)
  obtain ⟨hy_x, eu⟩ := hp_1
  rw [eu] at hP hD
  refine lv_if_eq (tgt := 16) hx hb dX3_edges_4 (by decide) (fun c_4 => ?_) (fun c_4 => ?_)
  · skip
    have hno := kg_0 hy_x c_4
    refine lv_iconst (v := -1) hx hb dX3_edges_16 (by decide +kernel) ?_
    exact kx_iret (v := -1) hx hb hr rfl hlocks hK hP hD hS dX3_edges_17 (⟨by first | exact Or.inl ⟨i, h8i, e_x, rfl⟩ | exact Or.inr ⟨hno, rfl⟩, rfl⟩)
  · skip
    obtain ⟨i, h8i, e_x⟩ := kg_1 hy_x c_4
    rw [e_x] at hl
    obtain ⟨hni, hvi, hoi, he2i, hw2i⟩ := hI i h8i
    refine lv_aload_n hx hb dX3_edges_7 rfl (lv_at hl 0 rfl) ?_
    refine va_get (D := D) (ci := 3) (v := .ref (am 2)) (C := RX3) (T := TX3) (N := 10) hx hb hts inX3 hown hK hP q hM0 rfl 1 (by decide) (hts _ tw_251) (fun _ h9 => h9) rfl dX3_edges_8 ?_
    refine lv_iload_n hx hb dX3_edges_11 rfl (lv_at hl 1 rfl) ?_
    refine kx_nald hx hb hK hP (q + 2) hM2 rfl (i := i) (by omega) (by decide) dX3_edges_12 ?_
    refine lv_goto (tgt := 17) hx hb dX3_edges_13 (by decide) ?_
    exact kx_iret (v := nI (mc i)) hx hb hr rfl hlocks hK hP hD hS dX3_edges_17 (⟨by first | exact Or.inl ⟨i, h8i, e_x, rfl⟩ | exact Or.inr ⟨hno, rfl⟩, rfl⟩)

set_option maxHeartbeats 4000000 in
set_option maxRecDepth 100000 in
/-- the model: weight -/
theorem m_weight (l : Launch) (D : va_G) (k0 : Nat → ClassId)  (w0 : va_W) (sz : Nat) (q : Nat) (am mv mc mo me : Nat → Nat) (mw : Nat → Int32) (mm : Nat → Nat) (mk : Nat) (mn fb sb : Nat → Nat) (hM : atM w0 q k0 am mv mc mo me mw mm mk mn fb sb) (hI : minv mv mc mo me mw) (x y : Int32) : kx_i l yX3_weight wsX3_weight ({ frames := 2, cells := 0, slots := 0, locals := 48 } : Room) D (tyL k0) w0 sz [.ref (am 0), .int x, .int y] (fun (r : Int32) (u : va_W) => ((∃ i e9, i < 8 ∧ e9 < mc i ∧ x = nI i ∧ y = nI e9 ∧ r = mw (12 * i + e9)) ∨ (¬ (∃ i e9, i < 8 ∧ e9 < mc i ∧ x = nI i ∧ y = nI e9) ∧ r = 0)) ∧ u = w0) 0 0 := by
  refine kx_of (Qf := fun A => va_Qi (fun (r : Int32) (u : va_W) => ((∃ i e9, i < 8 ∧ e9 < mc i ∧ x = nI i ∧ y = nI e9 ∧ r = mw (12 * i + e9)) ∨ (¬ (∃ i e9, i < 8 ∧ e9 < mc i ∧ x = nI i ∧ y = nI e9) ∧ r = 0)) ∧ u = w0) (kx_B D (tyL k0) A) A) (cc := cX3_weight) (maxL := 3) (ret := (some .int)) (by decide +kernel) (Nat.le_of_ble_eq_true rfl) ?_
  intro p e s m below meth c A ls hx hb hml hown hts hr hlocks hnm hN hK hP hD hS hA hl
  have hown : s.vm.findClass RX3 = some m.cls := hown
  have hl : lv_has ls 3 [(0, .ref (am 0)), (1, .int x), (2, .int y)] := hl
  skip
  obtain ⟨hM0, hM1, hM2, hM3, hM4, hM5, hM6, hM7, hM8, hM9⟩ := id hM
  refine lv_aload_n hx hb dX3_weight_0 rfl (lv_at hl 0 rfl) ?_
  refine lv_iload_n hx hb dX3_weight_1 rfl (lv_at hl 1 rfl) ?_
  refine lv_iload_n hx hb dX3_weight_2 rfl (lv_at hl 2 rfl) ?_
  refine kx_goi (va_runV (As := [.int x, .int y]) (rest := []) ⟨hx, hb, hml, hown, hts⟩ (m_isEdge l D k0 w0 _ q am mv mc mo me mw mm mk mn fb sb ⟨hM0, hM1, hM2, hM3, hM4, hM5, hM6, hM7, hM8, hM9⟩ hI x y) ⟨(kg_B (k := 2) hts tw_301 tw_298 tw_22 (by decide +kernel) rfl rfl ⟨Nat.le_of_ble_eq_true rfl, Nat.le_of_ble_eq_true rfl⟩), hts _ tw_300, hts _ tw_8⟩ (kx_preV hN hK hP hD rfl hM0) rfl rfl hl.1 rfl (lv_room (Nat.le_of_ble_eq_true rfl)) dX3_weight_3 ⟨Nat.le_of_ble_eq_true rfl, Nat.le_of_ble_eq_true rfl⟩) hD hS hA (fun r_2 u_3 H locs hp_1 hP hD hS => ?_)
  obtain ⟨hy_, eu⟩ := hp_1
  rw [eu] at hP hD
  refine lv_if_eq (tgt := 23) hx hb dX3_weight_6 (by decide) (fun c_6 => ?_) (fun c_6 => ?_)
  · skip
    have hno := kg_0 hy_ c_6
    refine lv_iconst (v := 0) hx hb dX3_weight_23 (by decide +kernel) ?_
    exact kx_iret (v := 0) hx hb hr rfl hlocks hK hP hD hS dX3_weight_24 (⟨by first | exact Or.inl ⟨i, e9, h8i, he9, e_x, e_y, rfl⟩ | exact Or.inr ⟨hno, rfl⟩, rfl⟩)
  · skip
    obtain ⟨i, e9, h8i, he9, e_x, e_y⟩ := kg_1 hy_ c_6
    rw [e_x, e_y] at hl
    obtain ⟨hni, hvi, hoi, he2i, hw2i⟩ := hI i h8i
    refine lv_aload_n hx hb dX3_weight_9 rfl (lv_at hl 0 rfl) ?_
    refine va_get (D := D) (ci := 3) (v := .ref (am 5)) (C := RX3) (T := TX3) (N := 10) hx hb hts inX3 hown hK hP q hM0 rfl 4 (by decide) (hts _ tw_254) (fun _ h9 => h9) rfl dX3_weight_10 ?_
    refine lv_bipush (v := nI 12) hx hb dX3_weight_13 (by decide +kernel) ?_
    refine lv_iload_n hx hb dX3_weight_15 rfl (lv_at hl 1 rfl) ?_
    refine lv_imul hx hb dX3_weight_16 ?_
    refine lv_topi (fun z_4 ez_4 => ?_)
    have ez_4 : z_4 = nI (12 * i) := by rw [ez_4]; exact pk_mul _ _
    subst ez_4
    refine lv_iload_n hx hb dX3_weight_17 rfl (lv_at hl 2 rfl) ?_
    refine lv_iadd hx hb dX3_weight_18 ?_
    refine lv_topi (fun z_5 ez_5 => ?_)
    have ez_5 : z_5 = nI (12 * i + e9) := by rw [ez_5]; exact nI_add _ _
    subst ez_5
    refine kx_iald hx hb hK hP (q + 5) hM5 rfl (i := (12 * i + e9)) (by omega) (by decide) dX3_weight_19 ?_
    refine lv_goto (tgt := 24) hx hb dX3_weight_20 (by decide) ?_
    exact kx_iret (v := mw (12 * i + e9)) hx hb hr rfl hlocks hK hP hD hS dX3_weight_24 (⟨by first | exact Or.inl ⟨i, e9, h8i, he9, e_x, e_y, rfl⟩ | exact Or.inr ⟨hno, rfl⟩, rfl⟩)

set_option maxHeartbeats 4000000 in
set_option maxRecDepth 100000 in
/-- the model: begin -/
theorem m_begin (l : Launch) (D : va_G) (k0 : Nat → ClassId)  (w0 : va_W) (sz : Nat) (q : Nat) (am mv mc mo me : Nat → Nat) (mw : Nat → Int32) (mm : Nat → Nat) (mk : Nat) (mn fb sb : Nat → Nat) (hM : atM w0 q k0 am mv mc mo me mw mm mk mn fb sb) (hI : minv mv mc mo me mw) (x y : Int32) : kx_i l yX3_begin wsX3_begin ({ frames := 1, cells := 0, slots := 0, locals := 24 } : Room) D (tyL k0) w0 sz [.ref (am 0), .int x, .int y] (fun (r : Int32) (u : va_W) => ((∃ i v, i < 8 ∧ 1 ≤ v ∧ v ≤ 13 ∧ x = nI i ∧ y = nI v ∧ r = 1 ∧ atM u q k0 am (fo_up mv i v) (fo_up mc i 0) (fo_up mo i 1) me mw mm mk mn fb sb) ∨ (¬ (∃ i v, i < 8 ∧ 1 ≤ v ∧ v ≤ 13 ∧ x = nI i ∧ y = nI v) ∧ r = 0 ∧ u = w0)) ∧ kx_fr w0 u (fun j => q ≤ j ∧ j < q + 10)) 0 0 := by
  refine kx_of (Qf := fun A => va_Qi (fun (r : Int32) (u : va_W) => ((∃ i v, i < 8 ∧ 1 ≤ v ∧ v ≤ 13 ∧ x = nI i ∧ y = nI v ∧ r = 1 ∧ atM u q k0 am (fo_up mv i v) (fo_up mc i 0) (fo_up mo i 1) me mw mm mk mn fb sb) ∨ (¬ (∃ i v, i < 8 ∧ 1 ≤ v ∧ v ≤ 13 ∧ x = nI i ∧ y = nI v) ∧ r = 0 ∧ u = w0)) ∧ kx_fr w0 u (fun j => q ≤ j ∧ j < q + 10)) (kx_B D (tyL k0) A) A) (cc := cX3_begin) (maxL := 3) (ret := (some .boolean)) (by decide +kernel) (Nat.le_of_ble_eq_true rfl) ?_
  intro p e s m below meth c A ls hx hb hml hown hts hr hlocks hnm hN hK hP hD hS hA hl
  have hown : s.vm.findClass RX3 = some m.cls := hown
  have hl : lv_has ls 3 [(0, .ref (am 0)), (1, .int x), (2, .int y)] := hl
  have hfr : kx_fr w0 w0 (fun j => q ≤ j ∧ j < q + 10) := kx_fr_rf _ _
  obtain ⟨hM0, hM1, hM2, hM3, hM4, hM5, hM6, hM7, hM8, hM9⟩ := id hM
  refine lv_iload_n hx hb dX3_begin_0 rfl (lv_at hl 1 rfl) ?_
  refine kx_goi (va_runS (As := [.int x]) (rest := []) ⟨hx, hb, hml, hown, hts⟩ (m_isGraph l D k0 w0 _ x) ⟨(kg_B (k := 1) hts tw_289 tw_287 tw_22 (by decide +kernel) rfl rfl ⟨Nat.le_of_ble_eq_true rfl, Nat.le_of_ble_eq_true rfl⟩), hts _ tw_288⟩ (kx_preS hN hK hP hD) rfl rfl hl.1 rfl (lv_room (Nat.le_of_ble_eq_true rfl)) dX3_begin_1 ⟨Nat.le_of_ble_eq_true rfl, Nat.le_of_ble_eq_true rfl⟩) hD hS hA (fun r_2 u_3 H locs hp_1 hP hD hS => ?_)
  obtain ⟨hy_x, eu⟩ := hp_1
  rw [eu] at hP hD
  refine lv_if_eq (tgt := 18) hx hb dX3_begin_4 (by decide) (fun c_4 => ?_) (fun c_4 => ?_)
  · skip
    have hno0 := kg_0 hy_x c_4
    have hno : ¬ (∃ i v, i < 8 ∧ 1 ≤ v ∧ v ≤ 13 ∧ x = nI i ∧ y = nI v) := fun ⟨i, _, h1, _, _, h2, _⟩ => hno0 ⟨i, h1, h2⟩
    refine lv_iconst (v := 0) hx hb dX3_begin_18 (by decide +kernel) ?_
    exact kx_iret (v := 0) hx hb hr rfl hlocks hK hP hD hS dX3_begin_19 (⟨Or.inr ⟨hno, rfl, rfl⟩, kx_fr_rf _ _⟩)
  · skip
    obtain ⟨i, h8i, e_x⟩ := kg_1 hy_x c_4
    rw [e_x] at hl
    obtain ⟨hni, hvi, hoi, he2i, hw2i⟩ := hI i h8i
    refine lv_iload_n hx hb dX3_begin_7 rfl (lv_at hl 2 rfl) ?_
    refine lv_iconst (v := nI 1) hx hb dX3_begin_8 (by decide +kernel) ?_
    refine lv_icmp_lt (tgt := 18) hx hb dX3_begin_9 (by decide) (fun c_9 => ?_) (fun c_9 => ?_)
    · skip
      have hno : ¬ (∃ i v, i < 8 ∧ 1 ≤ v ∧ v ≤ 13 ∧ x = nI i ∧ y = nI v) := fun ⟨_, v, _, h1, h2, _, h3⟩ => by
        rw [h3] at c_9
        have := (nI_ltI (by omega) (by omega)).mp c_9
        omega
      refine lv_iconst (v := 0) hx hb dX3_begin_18 (by decide +kernel) ?_
      exact kx_iret (v := 0) hx hb hr rfl hlocks hK hP hD hS dX3_begin_19 (⟨Or.inr ⟨hno, rfl, rfl⟩, kx_fr_rf _ _⟩)
    · skip
      refine lv_iload_n hx hb dX3_begin_12 rfl (lv_at hl 2 rfl) ?_
      refine lv_bipush (v := nI 13) hx hb dX3_begin_13 (by decide +kernel) ?_
      refine lv_icmp_le (tgt := 20) hx hb dX3_begin_15 (by decide) (fun c_15 => ?_) (fun c_15 => ?_)
      · skip
        obtain ⟨v, hv1, hv2, e_y⟩ : ∃ v : Nat, 1 ≤ v ∧ v ≤ 13 ∧ y = nI v := by
          have hp : ¬ y < 0 := fun h => c_9 (Int32.lt_trans h (by decide))
          obtain ⟨v, h1, h2⟩ := nI_of hp
          rw [h2] at c_9 c_15
          have h3 := (nI_leI (by omega) (by omega)).mp c_15
          refine ⟨v, ?_, h3, h2⟩
          rcases Nat.lt_or_ge v 1 with h | h
          · exact absurd ((nI_ltI (by omega) (by omega)).mpr h) c_9
          · exact h
        rw [e_y] at hl
        refine lv_aload_n hx hb dX3_begin_20 rfl (lv_at hl 0 rfl) ?_
        refine va_get (D := D) (ci := 3) (v := .ref (am 1)) (C := RX3) (T := TX3) (N := 10) hx hb hts inX3 hown hK hP q hM0 rfl 0 (by decide) (hts _ tw_250) (fun _ h9 => h9) rfl dX3_begin_21 ?_
        refine lv_iload_n hx hb dX3_begin_24 rfl (lv_at hl 1 rfl) ?_
        refine lv_iload_n hx hb dX3_begin_25 rfl (lv_at hl 2 rfl) ?_
        refine kx_nast hx hb hK hP hD hS (q + 1) hM1 rfl (i := i) (x := v) (by omega) (by decide) dX3_begin_26 (fun H locs hP hD hS => ?_)
        obtain ⟨w_4, ew_4⟩ : ∃ w, w = w0.set (q + 1) (am 1, .inl (k0 0, 8, .inl (fun y9 => nI ((fo_up mv i v) y9)))) := ⟨_, rfl⟩
        have hP : va_P D vwCl w_4 H := by rw [ew_4]; exact hP
        have hD : va_D A w_4 := by rw [ew_4]; exact hD
        have f_5 : w_4[q]? = some (am 0, .inr (3, [.ref (am 1), .ref (am 2), .ref (am 3), .ref (am 4), .ref (am 5), .ref (am 6), .int (nI mk), .ref (am 7), .ref (am 8), .ref (am 9)])) := by rw [ew_4]; exact kx_set_ne hM0 (by omega)
        have f_6 : w_4[q + 1]? = some (am 1, .inl (k0 0, 8, .inl (fun y9 => nI ((fo_up mv i v) y9)))) := by rw [ew_4]; exact kx_set_self hM1
        have f_7 : w_4[q + 2]? = some (am 2, .inl (k0 0, 8, .inl (fun y9 => nI (mc y9)))) := by rw [ew_4]; exact kx_set_ne hM2 (by omega)
        have f_8 : w_4[q + 3]? = some (am 3, .inl (k0 2, 8, .inl (fun y9 => nI (mo y9)))) := by rw [ew_4]; exact kx_set_ne hM3 (by omega)
        have f_9 : w_4[q + 4]? = some (am 4, .inl (k0 0, 192, .inl (fun y9 => nI (me y9)))) := by rw [ew_4]; exact kx_set_ne hM4 (by omega)
        have f_10 : w_4[q + 5]? = some (am 5, .inl (k0 0, 96, .inl mw)) := by rw [ew_4]; exact kx_set_ne hM5 (by omega)
        have f_11 : w_4[q + 6]? = some (am 6, .inl (k0 0, 24, .inl (fun y9 => nI (mm y9)))) := by rw [ew_4]; exact kx_set_ne hM6 (by omega)
        have f_12 : w_4[q + 7]? = some (am 7, .inl (k0 0, 32, .inl (fun y9 => nI (mn y9)))) := by rw [ew_4]; exact kx_set_ne hM7 (by omega)
        have f_13 : w_4[q + 8]? = some (am 8, .inl (k0 3, 4096, .inl (fun y9 => nI (fb y9)))) := by rw [ew_4]; exact kx_set_ne hM8 (by omega)
        have f_14 : w_4[q + 9]? = some (am 9, .inl (k0 3, 4096, .inl (fun y9 => nI (sb y9)))) := by rw [ew_4]; exact kx_set_ne hM9 (by omega)
        have hfr : kx_fr w0 w_4 (fun j => q ≤ j ∧ j < q + 10) := kx_fr_tr hfr (by rw [ew_4]; exact kx_fr_set (by omega))
        refine lv_aload_n hx hb dX3_begin_27 rfl (lv_at hl 0 rfl) ?_
        refine va_get (D := D) (ci := 3) (v := .ref (am 2)) (C := RX3) (T := TX3) (N := 10) hx hb hts inX3 hown hK hP q f_5 rfl 1 (by decide) (hts _ tw_251) (fun _ h9 => h9) rfl dX3_begin_28 ?_
        refine lv_iload_n hx hb dX3_begin_31 rfl (lv_at hl 1 rfl) ?_
        refine lv_iconst (v := nI 0) hx hb dX3_begin_32 (by decide +kernel) ?_
        refine kx_nast hx hb hK hP hD hS (q + 2) f_7 rfl (i := i) (x := 0) (by omega) (by decide) dX3_begin_33 (fun H locs hP hD hS => ?_)
        obtain ⟨w_15, ew_15⟩ : ∃ w, w = w_4.set (q + 2) (am 2, .inl (k0 0, 8, .inl (fun y9 => nI ((fo_up mc i 0) y9)))) := ⟨_, rfl⟩
        have hP : va_P D vwCl w_15 H := by rw [ew_15]; exact hP
        have hD : va_D A w_15 := by rw [ew_15]; exact hD
        have f_16 : w_15[q]? = some (am 0, .inr (3, [.ref (am 1), .ref (am 2), .ref (am 3), .ref (am 4), .ref (am 5), .ref (am 6), .int (nI mk), .ref (am 7), .ref (am 8), .ref (am 9)])) := by rw [ew_15]; exact kx_set_ne f_5 (by omega)
        have f_17 : w_15[q + 1]? = some (am 1, .inl (k0 0, 8, .inl (fun y9 => nI ((fo_up mv i v) y9)))) := by rw [ew_15]; exact kx_set_ne f_6 (by omega)
        have f_18 : w_15[q + 2]? = some (am 2, .inl (k0 0, 8, .inl (fun y9 => nI ((fo_up mc i 0) y9)))) := by rw [ew_15]; exact kx_set_self f_7
        have f_19 : w_15[q + 3]? = some (am 3, .inl (k0 2, 8, .inl (fun y9 => nI (mo y9)))) := by rw [ew_15]; exact kx_set_ne f_8 (by omega)
        have f_20 : w_15[q + 4]? = some (am 4, .inl (k0 0, 192, .inl (fun y9 => nI (me y9)))) := by rw [ew_15]; exact kx_set_ne f_9 (by omega)
        have f_21 : w_15[q + 5]? = some (am 5, .inl (k0 0, 96, .inl mw)) := by rw [ew_15]; exact kx_set_ne f_10 (by omega)
        have f_22 : w_15[q + 6]? = some (am 6, .inl (k0 0, 24, .inl (fun y9 => nI (mm y9)))) := by rw [ew_15]; exact kx_set_ne f_11 (by omega)
        have f_23 : w_15[q + 7]? = some (am 7, .inl (k0 0, 32, .inl (fun y9 => nI (mn y9)))) := by rw [ew_15]; exact kx_set_ne f_12 (by omega)
        have f_24 : w_15[q + 8]? = some (am 8, .inl (k0 3, 4096, .inl (fun y9 => nI (fb y9)))) := by rw [ew_15]; exact kx_set_ne f_13 (by omega)
        have f_25 : w_15[q + 9]? = some (am 9, .inl (k0 3, 4096, .inl (fun y9 => nI (sb y9)))) := by rw [ew_15]; exact kx_set_ne f_14 (by omega)
        have hfr : kx_fr w0 w_15 (fun j => q ≤ j ∧ j < q + 10) := kx_fr_tr hfr (by rw [ew_15]; exact kx_fr_set (by omega))
        refine lv_aload_n hx hb dX3_begin_34 rfl (lv_at hl 0 rfl) ?_
        refine va_get (D := D) (ci := 3) (v := .ref (am 3)) (C := RX3) (T := TX3) (N := 10) hx hb hts inX3 hown hK hP q f_16 rfl 2 (by decide) (hts _ tw_252) (fun _ h9 => h9) rfl dX3_begin_35 ?_
        refine lv_iload_n hx hb dX3_begin_38 rfl (lv_at hl 1 rfl) ?_
        refine lv_iconst (v := nI 1) hx hb dX3_begin_39 (by decide +kernel) ?_
        refine kx_znast hx hb hK hP hD hS (q + 3) f_19 rfl (i := i) (x := 1) (by omega) (by decide) (by omega) dX3_begin_40 (fun H locs hP hD hS => ?_)
        obtain ⟨w_26, ew_26⟩ : ∃ w, w = w_15.set (q + 3) (am 3, .inl (k0 2, 8, .inl (fun y9 => nI ((fo_up mo i 1) y9)))) := ⟨_, rfl⟩
        have hP : va_P D vwCl w_26 H := by rw [ew_26]; exact hP
        have hD : va_D A w_26 := by rw [ew_26]; exact hD
        have f_27 : w_26[q]? = some (am 0, .inr (3, [.ref (am 1), .ref (am 2), .ref (am 3), .ref (am 4), .ref (am 5), .ref (am 6), .int (nI mk), .ref (am 7), .ref (am 8), .ref (am 9)])) := by rw [ew_26]; exact kx_set_ne f_16 (by omega)
        have f_28 : w_26[q + 1]? = some (am 1, .inl (k0 0, 8, .inl (fun y9 => nI ((fo_up mv i v) y9)))) := by rw [ew_26]; exact kx_set_ne f_17 (by omega)
        have f_29 : w_26[q + 2]? = some (am 2, .inl (k0 0, 8, .inl (fun y9 => nI ((fo_up mc i 0) y9)))) := by rw [ew_26]; exact kx_set_ne f_18 (by omega)
        have f_30 : w_26[q + 3]? = some (am 3, .inl (k0 2, 8, .inl (fun y9 => nI ((fo_up mo i 1) y9)))) := by rw [ew_26]; exact kx_set_self f_19
        have f_31 : w_26[q + 4]? = some (am 4, .inl (k0 0, 192, .inl (fun y9 => nI (me y9)))) := by rw [ew_26]; exact kx_set_ne f_20 (by omega)
        have f_32 : w_26[q + 5]? = some (am 5, .inl (k0 0, 96, .inl mw)) := by rw [ew_26]; exact kx_set_ne f_21 (by omega)
        have f_33 : w_26[q + 6]? = some (am 6, .inl (k0 0, 24, .inl (fun y9 => nI (mm y9)))) := by rw [ew_26]; exact kx_set_ne f_22 (by omega)
        have f_34 : w_26[q + 7]? = some (am 7, .inl (k0 0, 32, .inl (fun y9 => nI (mn y9)))) := by rw [ew_26]; exact kx_set_ne f_23 (by omega)
        have f_35 : w_26[q + 8]? = some (am 8, .inl (k0 3, 4096, .inl (fun y9 => nI (fb y9)))) := by rw [ew_26]; exact kx_set_ne f_24 (by omega)
        have f_36 : w_26[q + 9]? = some (am 9, .inl (k0 3, 4096, .inl (fun y9 => nI (sb y9)))) := by rw [ew_26]; exact kx_set_ne f_25 (by omega)
        have hfr : kx_fr w0 w_26 (fun j => q ≤ j ∧ j < q + 10) := kx_fr_tr hfr (by rw [ew_26]; exact kx_fr_set (by omega))
        refine lv_iconst (v := 1) hx hb dX3_begin_41 (by decide +kernel) ?_
        exact kx_iret (v := 1) hx hb hr rfl hlocks hK hP hD hS dX3_begin_42 (⟨Or.inl ⟨i, v, h8i, hv1, hv2, e_x, e_y, rfl, ⟨f_27, f_28, f_29, f_30, f_31, f_32, f_33, f_34, f_35, f_36⟩⟩, hfr⟩)
      · skip
        have hno : ¬ (∃ i v, i < 8 ∧ 1 ≤ v ∧ v ≤ 13 ∧ x = nI i ∧ y = nI v) := fun ⟨_, v, _, h1, h2, _, h3⟩ => by
          rw [h3] at c_15
          exact c_15 ((nI_leI (by omega) (by omega)).mpr h2)
        refine lv_iconst (v := 0) hx hb dX3_begin_18 (by decide +kernel) ?_
        exact kx_iret (v := 0) hx hb hr rfl hlocks hK hP hD hS dX3_begin_19 (⟨Or.inr ⟨hno, rfl, rfl⟩, kx_fr_rf _ _⟩)

set_option maxHeartbeats 4000000 in
set_option maxRecDepth 100000 in
/-- the model: add -/
theorem m_add (l : Launch) (D : va_G) (k0 : Nat → ClassId)  (w0 : va_W) (sz : Nat) (q : Nat) (am mv mc mo me : Nat → Nat) (mw : Nat → Int32) (mm : Nat → Nat) (mk : Nat) (mn fb sb : Nat → Nat) (hM : atM w0 q k0 am mv mc mo me mw mm mk mn fb sb) (hI : minv mv mc mo me mw) (x y z : Int32) : kx_i l yX3_add wsX3_add ({ frames := 1, cells := 0, slots := 0, locals := 24 } : Room) D (tyL k0) w0 sz [.ref (am 0), .int x, .int y, .int z] (fun (r : Int32) (u : va_W) => ((∃ i a c9, i < 8 ∧ mo i ≠ 0 ∧ a < mv i ∧ c9 < mv i ∧ mc i < 12 ∧ x = nI i ∧ y = nI a ∧ z = nI c9 ∧ r = nI (mc i) ∧ atM u q k0 am mv (fo_up mc i (mc i + 1)) mo (fo_up (fo_up me (24 * i + 2 * mc i) a) (24 * i + 2 * mc i + 1) c9) (upd mw (12 * i + mc i) 0) mm mk mn fb sb) ∨ (¬ (∃ i a c9, i < 8 ∧ mo i ≠ 0 ∧ a < mv i ∧ c9 < mv i ∧ mc i < 12 ∧ x = nI i ∧ y = nI a ∧ z = nI c9) ∧ r = -1 ∧ u = w0)) ∧ kx_fr w0 u (fun j => q ≤ j ∧ j < q + 10)) 0 0 := by
  refine kx_of (Qf := fun A => va_Qi (fun (r : Int32) (u : va_W) => ((∃ i a c9, i < 8 ∧ mo i ≠ 0 ∧ a < mv i ∧ c9 < mv i ∧ mc i < 12 ∧ x = nI i ∧ y = nI a ∧ z = nI c9 ∧ r = nI (mc i) ∧ atM u q k0 am mv (fo_up mc i (mc i + 1)) mo (fo_up (fo_up me (24 * i + 2 * mc i) a) (24 * i + 2 * mc i + 1) c9) (upd mw (12 * i + mc i) 0) mm mk mn fb sb) ∨ (¬ (∃ i a c9, i < 8 ∧ mo i ≠ 0 ∧ a < mv i ∧ c9 < mv i ∧ mc i < 12 ∧ x = nI i ∧ y = nI a ∧ z = nI c9) ∧ r = -1 ∧ u = w0)) ∧ kx_fr w0 u (fun j => q ≤ j ∧ j < q + 10)) (kx_B D (tyL k0) A) A) (cc := cX3_add) (maxL := 5) (ret := (some .int)) (by decide +kernel) (Nat.le_of_ble_eq_true rfl) ?_
  intro p e s m below meth c A ls hx hb hml hown hts hr hlocks hnm hN hK hP hD hS hA hl
  have hown : s.vm.findClass RX3 = some m.cls := hown
  have hl : lv_has ls 5 [(0, .ref (am 0)), (1, .int x), (2, .int y), (3, .int z)] := hl
  have hfr : kx_fr w0 w0 (fun j => q ≤ j ∧ j < q + 10) := kx_fr_rf _ _
  obtain ⟨hM0, hM1, hM2, hM3, hM4, hM5, hM6, hM7, hM8, hM9⟩ := id hM
  refine lv_iload_n hx hb dX3_add_0 rfl (lv_at hl 1 rfl) ?_
  refine kx_goi (va_runS (As := [.int x]) (rest := []) ⟨hx, hb, hml, hown, hts⟩ (m_isGraph l D k0 w0 _ x) ⟨(kg_B (k := 1) hts tw_289 tw_287 tw_22 (by decide +kernel) rfl rfl ⟨Nat.le_of_ble_eq_true rfl, Nat.le_of_ble_eq_true rfl⟩), hts _ tw_288⟩ (kx_preS hN hK hP hD) rfl rfl hl.1 rfl (lv_room (Nat.le_of_ble_eq_true rfl)) dX3_add_1 ⟨Nat.le_of_ble_eq_true rfl, Nat.le_of_ble_eq_true rfl⟩) hD hS hA (fun r_2 u_3 H locs hp_1 hP hD hS => ?_)
  obtain ⟨hy_x, eu⟩ := hp_1
  rw [eu] at hP hD
  refine lv_if_eq (tgt := 55) hx hb dX3_add_4 (by decide) (fun c_4 => ?_) (fun c_4 => ?_)
  · skip
    have hno0 := kg_0 hy_x c_4
    have hno : ¬ (∃ i a c9, i < 8 ∧ mo i ≠ 0 ∧ a < mv i ∧ c9 < mv i ∧ mc i < 12 ∧ x = nI i ∧ y = nI a ∧ z = nI c9) := fun ⟨i, _, _, h1, _, _, _, _, h2, _⟩ => hno0 ⟨i, h1, h2⟩
    refine lv_iconst (v := -1) hx hb dX3_add_55 (by decide +kernel) ?_
    exact kx_iret (v := -1) hx hb hr rfl hlocks hK hP hD hS dX3_add_56 (⟨Or.inr ⟨hno, rfl, rfl⟩, kx_fr_rf _ _⟩)
  · skip
    obtain ⟨i, h8i, e_x⟩ := kg_1 hy_x c_4
    rw [e_x] at hl
    obtain ⟨hni, hvi, hoi, he2i, hw2i⟩ := hI i h8i
    refine lv_aload_n hx hb dX3_add_7 rfl (lv_at hl 0 rfl) ?_
    refine va_get (D := D) (ci := 3) (v := .ref (am 3)) (C := RX3) (T := TX3) (N := 10) hx hb hts inX3 hown hK hP q hM0 rfl 2 (by decide) (hts _ tw_252) (fun _ h9 => h9) rfl dX3_add_8 ?_
    refine lv_iload_n hx hb dX3_add_11 rfl (lv_at hl 1 rfl) ?_
    refine kx_zald hx hb hK hP (q + 3) hM3 rfl (i := i) (by omega) (by decide) dX3_add_12 ?_
    refine lv_if_eq (tgt := 55) hx hb dX3_add_13 (by decide) (fun c_13 => ?_) (fun c_13 => ?_)
    · skip
      have h13 := (kb_eq0 (by omega)).mp c_13
      have hno : ¬ (∃ i a c9, i < 8 ∧ mo i ≠ 0 ∧ a < mv i ∧ c9 < mv i ∧ mc i < 12 ∧ x = nI i ∧ y = nI a ∧ z = nI c9) := fun ⟨i2, _, _, _, h2, _, _, _, h5, _, _⟩ => by
        have hi2 : i2 = i := ((nI_eq (by omega) (by omega)).mp (h5.symm.trans e_x))
        subst hi2
        exact h2 h13
      refine lv_iconst (v := -1) hx hb dX3_add_55 (by decide +kernel) ?_
      exact kx_iret (v := -1) hx hb hr rfl hlocks hK hP hD hS dX3_add_56 (⟨Or.inr ⟨hno, rfl, rfl⟩, kx_fr_rf _ _⟩)
    · skip
      have hop : mo i ≠ 0 := fun h => c_13 ((kb_eq0 (by omega)).mpr h)
      refine lv_aload_n hx hb dX3_add_16 rfl (lv_at hl 0 rfl) ?_
      refine va_get (D := D) (ci := 3) (v := .ref (am 2)) (C := RX3) (T := TX3) (N := 10) hx hb hts inX3 hown hK hP q hM0 rfl 1 (by decide) (hts _ tw_251) (fun _ h9 => h9) rfl dX3_add_17 ?_
      refine lv_iload_n hx hb dX3_add_20 rfl (lv_at hl 1 rfl) ?_
      refine kx_nald hx hb hK hP (q + 2) hM2 rfl (i := i) (by omega) (by decide) dX3_add_21 ?_
      refine lv_bipush (v := nI 12) hx hb dX3_add_22 (by decide +kernel) ?_
      refine lv_icmp_eq (tgt := 55) hx hb dX3_add_24 (by decide) (fun c_24 => ?_) (fun c_24 => ?_)
      · skip
        have h24 := (nI_eq (by omega) (by omega)).mp c_24
        have hno : ¬ (∃ i a c9, i < 8 ∧ mo i ≠ 0 ∧ a < mv i ∧ c9 < mv i ∧ mc i < 12 ∧ x = nI i ∧ y = nI a ∧ z = nI c9) := fun ⟨i2, _, _, _, _, _, _, h4, h5, _, _⟩ => by
          have hi2 : i2 = i := ((nI_eq (by omega) (by omega)).mp (h5.symm.trans e_x))
          subst hi2
          omega
        refine lv_iconst (v := -1) hx hb dX3_add_55 (by decide +kernel) ?_
        exact kx_iret (v := -1) hx hb hr rfl hlocks hK hP hD hS dX3_add_56 (⟨Or.inr ⟨hno, rfl, rfl⟩, kx_fr_rf _ _⟩)
      · skip
        have h12 : mc i < 12 := by
          rcases Nat.lt_or_ge (mc i) 12 with h | h
          · exact h
          · exact absurd (show nI (mc i) = nI 12 by rw [show mc i = 12 by omega]) c_24
        refine lv_iload_n hx hb dX3_add_27 rfl (lv_at hl 2 rfl) ?_
        refine lv_if_lt (tgt := 55) hx hb dX3_add_28 (by decide) (fun c_28 => ?_) (fun c_28 => ?_)
        · skip
          have hno : ¬ (∃ i a c9, i < 8 ∧ mo i ≠ 0 ∧ a < mv i ∧ c9 < mv i ∧ mc i < 12 ∧ x = nI i ∧ y = nI a ∧ z = nI c9) := fun ⟨i2, a, _, h0, _, h3, _, _, _, h6, _⟩ => nI_pos (n := a) (by have := (hI i2 h0).2.1; omega) (by rw [← h6]; exact c_28)
          refine lv_iconst (v := -1) hx hb dX3_add_55 (by decide +kernel) ?_
          exact kx_iret (v := -1) hx hb hr rfl hlocks hK hP hD hS dX3_add_56 (⟨Or.inr ⟨hno, rfl, rfl⟩, kx_fr_rf _ _⟩)
        · skip
          refine lv_iload_n hx hb dX3_add_31 rfl (lv_at hl 3 rfl) ?_
          refine lv_if_lt (tgt := 55) hx hb dX3_add_32 (by decide) (fun c_32 => ?_) (fun c_32 => ?_)
          · skip
            have hno : ¬ (∃ i a c9, i < 8 ∧ mo i ≠ 0 ∧ a < mv i ∧ c9 < mv i ∧ mc i < 12 ∧ x = nI i ∧ y = nI a ∧ z = nI c9) := fun ⟨i2, _, c9, h0, _, _, h3, _, _, _, h6⟩ => nI_pos (n := c9) (by have := (hI i2 h0).2.1; omega) (by rw [← h6]; exact c_32)
            refine lv_iconst (v := -1) hx hb dX3_add_55 (by decide +kernel) ?_
            exact kx_iret (v := -1) hx hb hr rfl hlocks hK hP hD hS dX3_add_56 (⟨Or.inr ⟨hno, rfl, rfl⟩, kx_fr_rf _ _⟩)
          · skip
            refine lv_iload_n hx hb dX3_add_35 rfl (lv_at hl 2 rfl) ?_
            refine lv_aload_n hx hb dX3_add_36 rfl (lv_at hl 0 rfl) ?_
            refine va_get (D := D) (ci := 3) (v := .ref (am 1)) (C := RX3) (T := TX3) (N := 10) hx hb hts inX3 hown hK hP q hM0 rfl 0 (by decide) (hts _ tw_250) (fun _ h9 => h9) rfl dX3_add_37 ?_
            refine lv_iload_n hx hb dX3_add_40 rfl (lv_at hl 1 rfl) ?_
            refine kx_nald hx hb hK hP (q + 1) hM1 rfl (i := i) (by omega) (by decide) dX3_add_41 ?_
            refine lv_icmp_ge (tgt := 55) hx hb dX3_add_42 (by decide) (fun c_42 => ?_) (fun c_42 => ?_)
            · skip
              have hno : ¬ (∃ i a c9, i < 8 ∧ mo i ≠ 0 ∧ a < mv i ∧ c9 < mv i ∧ mc i < 12 ∧ x = nI i ∧ y = nI a ∧ z = nI c9) := fun ⟨i2, a, _, _, _, h3, _, _, h5, h6, _⟩ => by
                have hi2 : i2 = i := ((nI_eq (by omega) (by omega)).mp (h5.symm.trans e_x))
                subst hi2
                exact nI_ge (a := a) (b := mv i2) h3 (by omega) (by rw [← h6]; exact c_42)
              refine lv_iconst (v := -1) hx hb dX3_add_55 (by decide +kernel) ?_
              exact kx_iret (v := -1) hx hb hr rfl hlocks hK hP hD hS dX3_add_56 (⟨Or.inr ⟨hno, rfl, rfl⟩, kx_fr_rf _ _⟩)
            · skip
              obtain ⟨a, h_a, e_y⟩ : ∃ a, a < mv i ∧ y = nI a := by
                rcases pk_ix y (n := mv i) (by omega) with h | h | h
                · exact absurd h c_28
                · exact absurd h c_42
                · exact h
              refine lv_iload_n hx hb dX3_add_45 rfl (lv_at hl 3 rfl) ?_
              refine lv_aload_n hx hb dX3_add_46 rfl (lv_at hl 0 rfl) ?_
              refine va_get (D := D) (ci := 3) (v := .ref (am 1)) (C := RX3) (T := TX3) (N := 10) hx hb hts inX3 hown hK hP q hM0 rfl 0 (by decide) (hts _ tw_250) (fun _ h9 => h9) rfl dX3_add_47 ?_
              refine lv_iload_n hx hb dX3_add_50 rfl (lv_at hl 1 rfl) ?_
              refine kx_nald hx hb hK hP (q + 1) hM1 rfl (i := i) (by omega) (by decide) dX3_add_51 ?_
              refine lv_icmp_lt (tgt := 57) hx hb dX3_add_52 (by decide) (fun c_52 => ?_) (fun c_52 => ?_)
              · skip
                obtain ⟨c9, h_c9, e_z⟩ : ∃ c9, c9 < mv i ∧ z = nI c9 := by
                  rcases pk_ix z (n := mv i) (by omega) with h | h | h
                  · exact absurd h c_32
                  · exact absurd c_52 (Int32.not_lt.mpr h)
                  · exact h
                rw [e_y, e_z] at hl
                refine lv_aload_n hx hb dX3_add_57 rfl (lv_at hl 0 rfl) ?_
                refine va_get (D := D) (ci := 3) (v := .ref (am 2)) (C := RX3) (T := TX3) (N := 10) hx hb hts inX3 hown hK hP q hM0 rfl 1 (by decide) (hts _ tw_251) (fun _ h9 => h9) rfl dX3_add_58 ?_
                refine lv_iload_n hx hb dX3_add_61 rfl (lv_at hl 1 rfl) ?_
                refine kx_nald hx hb hK hP (q + 2) hM2 rfl (i := i) (by omega) (by decide) dX3_add_62 ?_
                refine lv_istore (lv' := [(4, .int (nI (mc i))), (0, .ref (am 0)), (1, .int (nI i)), (2, .int (nI a)), (3, .int (nI c9))]) hx hb dX3_add_63 hl (by decide) rfl (fun ls hl => ?_)
                refine lv_aload_n hx hb dX3_add_65 rfl (lv_at hl 1 rfl) ?_
                refine va_get (D := D) (ci := 3) (v := .ref (am 4)) (C := RX3) (T := TX3) (N := 10) hx hb hts inX3 hown hK hP q hM0 rfl 3 (by decide) (hts _ tw_253) (fun _ h9 => h9) rfl dX3_add_66 ?_
                refine lv_bipush (v := nI 24) hx hb dX3_add_69 (by decide +kernel) ?_
                refine lv_iload_n hx hb dX3_add_71 rfl (lv_at hl 2 rfl) ?_
                refine lv_imul hx hb dX3_add_72 ?_
                refine lv_topi (fun z_4 ez_4 => ?_)
                have ez_4 : z_4 = nI (24 * i) := by rw [ez_4]; exact pk_mul _ _
                subst ez_4
                refine lv_iconst (v := nI 2) hx hb dX3_add_73 (by decide +kernel) ?_
                refine lv_iload hx hb dX3_add_74 (lv_at hl 0 rfl) ?_
                refine lv_imul hx hb dX3_add_76 ?_
                refine lv_topi (fun z_5 ez_5 => ?_)
                have ez_5 : z_5 = nI (2 * mc i) := by rw [ez_5]; exact pk_mul _ _
                subst ez_5
                refine lv_iadd hx hb dX3_add_77 ?_
                refine lv_topi (fun z_6 ez_6 => ?_)
                have ez_6 : z_6 = nI (24 * i + 2 * mc i) := by rw [ez_6]; exact nI_add _ _
                subst ez_6
                refine lv_iload_n hx hb dX3_add_78 rfl (lv_at hl 3 rfl) ?_
                refine kx_nast hx hb hK hP hD hS (q + 4) hM4 rfl (i := (24 * i + 2 * mc i)) (x := a) (by omega) (by decide) dX3_add_79 (fun H locs hP hD hS => ?_)
                obtain ⟨w_7, ew_7⟩ : ∃ w, w = w0.set (q + 4) (am 4, .inl (k0 0, 192, .inl (fun y9 => nI ((fo_up me (24 * i + 2 * mc i) a) y9)))) := ⟨_, rfl⟩
                have hP : va_P D vwCl w_7 H := by rw [ew_7]; exact hP
                have hD : va_D A w_7 := by rw [ew_7]; exact hD
                have f_8 : w_7[q]? = some (am 0, .inr (3, [.ref (am 1), .ref (am 2), .ref (am 3), .ref (am 4), .ref (am 5), .ref (am 6), .int (nI mk), .ref (am 7), .ref (am 8), .ref (am 9)])) := by rw [ew_7]; exact kx_set_ne hM0 (by omega)
                have f_9 : w_7[q + 1]? = some (am 1, .inl (k0 0, 8, .inl (fun y9 => nI (mv y9)))) := by rw [ew_7]; exact kx_set_ne hM1 (by omega)
                have f_10 : w_7[q + 2]? = some (am 2, .inl (k0 0, 8, .inl (fun y9 => nI (mc y9)))) := by rw [ew_7]; exact kx_set_ne hM2 (by omega)
                have f_11 : w_7[q + 3]? = some (am 3, .inl (k0 2, 8, .inl (fun y9 => nI (mo y9)))) := by rw [ew_7]; exact kx_set_ne hM3 (by omega)
                have f_12 : w_7[q + 4]? = some (am 4, .inl (k0 0, 192, .inl (fun y9 => nI ((fo_up me (24 * i + 2 * mc i) a) y9)))) := by rw [ew_7]; exact kx_set_self hM4
                have f_13 : w_7[q + 5]? = some (am 5, .inl (k0 0, 96, .inl mw)) := by rw [ew_7]; exact kx_set_ne hM5 (by omega)
                have f_14 : w_7[q + 6]? = some (am 6, .inl (k0 0, 24, .inl (fun y9 => nI (mm y9)))) := by rw [ew_7]; exact kx_set_ne hM6 (by omega)
                have f_15 : w_7[q + 7]? = some (am 7, .inl (k0 0, 32, .inl (fun y9 => nI (mn y9)))) := by rw [ew_7]; exact kx_set_ne hM7 (by omega)
                have f_16 : w_7[q + 8]? = some (am 8, .inl (k0 3, 4096, .inl (fun y9 => nI (fb y9)))) := by rw [ew_7]; exact kx_set_ne hM8 (by omega)
                have f_17 : w_7[q + 9]? = some (am 9, .inl (k0 3, 4096, .inl (fun y9 => nI (sb y9)))) := by rw [ew_7]; exact kx_set_ne hM9 (by omega)
                have hfr : kx_fr w0 w_7 (fun j => q ≤ j ∧ j < q + 10) := kx_fr_tr hfr (by rw [ew_7]; exact kx_fr_set (by omega))
                refine lv_aload_n hx hb dX3_add_80 rfl (lv_at hl 1 rfl) ?_
                refine va_get (D := D) (ci := 3) (v := .ref (am 4)) (C := RX3) (T := TX3) (N := 10) hx hb hts inX3 hown hK hP q f_8 rfl 3 (by decide) (hts _ tw_253) (fun _ h9 => h9) rfl dX3_add_81 ?_
                refine lv_bipush (v := nI 24) hx hb dX3_add_84 (by decide +kernel) ?_
                refine lv_iload_n hx hb dX3_add_86 rfl (lv_at hl 2 rfl) ?_
                refine lv_imul hx hb dX3_add_87 ?_
                refine lv_topi (fun z_18 ez_18 => ?_)
                have ez_18 : z_18 = nI (24 * i) := by rw [ez_18]; exact pk_mul _ _
                subst ez_18
                refine lv_iconst (v := nI 2) hx hb dX3_add_88 (by decide +kernel) ?_
                refine lv_iload hx hb dX3_add_89 (lv_at hl 0 rfl) ?_
                refine lv_imul hx hb dX3_add_91 ?_
                refine lv_topi (fun z_19 ez_19 => ?_)
                have ez_19 : z_19 = nI (2 * mc i) := by rw [ez_19]; exact pk_mul _ _
                subst ez_19
                refine lv_iadd hx hb dX3_add_92 ?_
                refine lv_topi (fun z_20 ez_20 => ?_)
                have ez_20 : z_20 = nI (24 * i + 2 * mc i) := by rw [ez_20]; exact nI_add _ _
                subst ez_20
                refine lv_iconst (v := nI 1) hx hb dX3_add_93 (by decide +kernel) ?_
                refine lv_iadd hx hb dX3_add_94 ?_
                refine lv_topi (fun z_21 ez_21 => ?_)
                have ez_21 : z_21 = nI (24 * i + 2 * mc i + 1) := by rw [ez_21]; exact nI_add _ _
                subst ez_21
                refine lv_iload_n hx hb dX3_add_95 rfl (lv_at hl 4 rfl) ?_
                refine kx_nast hx hb hK hP hD hS (q + 4) f_12 rfl (i := (24 * i + 2 * mc i + 1)) (x := c9) (by omega) (by decide) dX3_add_96 (fun H locs hP hD hS => ?_)
                obtain ⟨w_22, ew_22⟩ : ∃ w, w = w_7.set (q + 4) (am 4, .inl (k0 0, 192, .inl (fun y9 => nI ((fo_up (fo_up me (24 * i + 2 * mc i) a) (24 * i + 2 * mc i + 1) c9) y9)))) := ⟨_, rfl⟩
                have hP : va_P D vwCl w_22 H := by rw [ew_22]; exact hP
                have hD : va_D A w_22 := by rw [ew_22]; exact hD
                have f_23 : w_22[q]? = some (am 0, .inr (3, [.ref (am 1), .ref (am 2), .ref (am 3), .ref (am 4), .ref (am 5), .ref (am 6), .int (nI mk), .ref (am 7), .ref (am 8), .ref (am 9)])) := by rw [ew_22]; exact kx_set_ne f_8 (by omega)
                have f_24 : w_22[q + 1]? = some (am 1, .inl (k0 0, 8, .inl (fun y9 => nI (mv y9)))) := by rw [ew_22]; exact kx_set_ne f_9 (by omega)
                have f_25 : w_22[q + 2]? = some (am 2, .inl (k0 0, 8, .inl (fun y9 => nI (mc y9)))) := by rw [ew_22]; exact kx_set_ne f_10 (by omega)
                have f_26 : w_22[q + 3]? = some (am 3, .inl (k0 2, 8, .inl (fun y9 => nI (mo y9)))) := by rw [ew_22]; exact kx_set_ne f_11 (by omega)
                have f_27 : w_22[q + 4]? = some (am 4, .inl (k0 0, 192, .inl (fun y9 => nI ((fo_up (fo_up me (24 * i + 2 * mc i) a) (24 * i + 2 * mc i + 1) c9) y9)))) := by rw [ew_22]; exact kx_set_self f_12
                have f_28 : w_22[q + 5]? = some (am 5, .inl (k0 0, 96, .inl mw)) := by rw [ew_22]; exact kx_set_ne f_13 (by omega)
                have f_29 : w_22[q + 6]? = some (am 6, .inl (k0 0, 24, .inl (fun y9 => nI (mm y9)))) := by rw [ew_22]; exact kx_set_ne f_14 (by omega)
                have f_30 : w_22[q + 7]? = some (am 7, .inl (k0 0, 32, .inl (fun y9 => nI (mn y9)))) := by rw [ew_22]; exact kx_set_ne f_15 (by omega)
                have f_31 : w_22[q + 8]? = some (am 8, .inl (k0 3, 4096, .inl (fun y9 => nI (fb y9)))) := by rw [ew_22]; exact kx_set_ne f_16 (by omega)
                have f_32 : w_22[q + 9]? = some (am 9, .inl (k0 3, 4096, .inl (fun y9 => nI (sb y9)))) := by rw [ew_22]; exact kx_set_ne f_17 (by omega)
                have hfr : kx_fr w0 w_22 (fun j => q ≤ j ∧ j < q + 10) := kx_fr_tr hfr (by rw [ew_22]; exact kx_fr_set (by omega))
                refine lv_aload_n hx hb dX3_add_97 rfl (lv_at hl 1 rfl) ?_
                refine va_get (D := D) (ci := 3) (v := .ref (am 5)) (C := RX3) (T := TX3) (N := 10) hx hb hts inX3 hown hK hP q f_23 rfl 4 (by decide) (hts _ tw_254) (fun _ h9 => h9) rfl dX3_add_98 ?_
                refine lv_bipush (v := nI 12) hx hb dX3_add_101 (by decide +kernel) ?_
                refine lv_iload_n hx hb dX3_add_103 rfl (lv_at hl 2 rfl) ?_
                refine lv_imul hx hb dX3_add_104 ?_
                refine lv_topi (fun z_33 ez_33 => ?_)
                have ez_33 : z_33 = nI (12 * i) := by rw [ez_33]; exact pk_mul _ _
                subst ez_33
                refine lv_iload hx hb dX3_add_105 (lv_at hl 0 rfl) ?_
                refine lv_iadd hx hb dX3_add_107 ?_
                refine lv_topi (fun z_34 ez_34 => ?_)
                have ez_34 : z_34 = nI (12 * i + mc i) := by rw [ez_34]; exact nI_add _ _
                subst ez_34
                refine lv_iconst (v := 0) hx hb dX3_add_108 (by decide +kernel) ?_
                refine kx_iast hx hb hK hP hD hS (q + 5) f_28 rfl (i := (12 * i + mc i)) (x := 0) (by omega) (by decide) dX3_add_109 (fun H locs hP hD hS => ?_)
                obtain ⟨w_35, ew_35⟩ : ∃ w, w = w_22.set (q + 5) (am 5, .inl (k0 0, 96, .inl (upd mw (12 * i + mc i) 0))) := ⟨_, rfl⟩
                have hP : va_P D vwCl w_35 H := by rw [ew_35]; exact hP
                have hD : va_D A w_35 := by rw [ew_35]; exact hD
                have f_36 : w_35[q]? = some (am 0, .inr (3, [.ref (am 1), .ref (am 2), .ref (am 3), .ref (am 4), .ref (am 5), .ref (am 6), .int (nI mk), .ref (am 7), .ref (am 8), .ref (am 9)])) := by rw [ew_35]; exact kx_set_ne f_23 (by omega)
                have f_37 : w_35[q + 1]? = some (am 1, .inl (k0 0, 8, .inl (fun y9 => nI (mv y9)))) := by rw [ew_35]; exact kx_set_ne f_24 (by omega)
                have f_38 : w_35[q + 2]? = some (am 2, .inl (k0 0, 8, .inl (fun y9 => nI (mc y9)))) := by rw [ew_35]; exact kx_set_ne f_25 (by omega)
                have f_39 : w_35[q + 3]? = some (am 3, .inl (k0 2, 8, .inl (fun y9 => nI (mo y9)))) := by rw [ew_35]; exact kx_set_ne f_26 (by omega)
                have f_40 : w_35[q + 4]? = some (am 4, .inl (k0 0, 192, .inl (fun y9 => nI ((fo_up (fo_up me (24 * i + 2 * mc i) a) (24 * i + 2 * mc i + 1) c9) y9)))) := by rw [ew_35]; exact kx_set_ne f_27 (by omega)
                have f_41 : w_35[q + 5]? = some (am 5, .inl (k0 0, 96, .inl (upd mw (12 * i + mc i) 0))) := by rw [ew_35]; exact kx_set_self f_28
                have f_42 : w_35[q + 6]? = some (am 6, .inl (k0 0, 24, .inl (fun y9 => nI (mm y9)))) := by rw [ew_35]; exact kx_set_ne f_29 (by omega)
                have f_43 : w_35[q + 7]? = some (am 7, .inl (k0 0, 32, .inl (fun y9 => nI (mn y9)))) := by rw [ew_35]; exact kx_set_ne f_30 (by omega)
                have f_44 : w_35[q + 8]? = some (am 8, .inl (k0 3, 4096, .inl (fun y9 => nI (fb y9)))) := by rw [ew_35]; exact kx_set_ne f_31 (by omega)
                have f_45 : w_35[q + 9]? = some (am 9, .inl (k0 3, 4096, .inl (fun y9 => nI (sb y9)))) := by rw [ew_35]; exact kx_set_ne f_32 (by omega)
                have hfr : kx_fr w0 w_35 (fun j => q ≤ j ∧ j < q + 10) := kx_fr_tr hfr (by rw [ew_35]; exact kx_fr_set (by omega))
                refine lv_aload_n hx hb dX3_add_110 rfl (lv_at hl 1 rfl) ?_
                refine va_get (D := D) (ci := 3) (v := .ref (am 2)) (C := RX3) (T := TX3) (N := 10) hx hb hts inX3 hown hK hP q f_36 rfl 1 (by decide) (hts _ tw_251) (fun _ h9 => h9) rfl dX3_add_111 ?_
                refine lv_iload_n hx hb dX3_add_114 rfl (lv_at hl 2 rfl) ?_
                refine lv_iload hx hb dX3_add_115 (lv_at hl 0 rfl) ?_
                refine lv_iconst (v := nI 1) hx hb dX3_add_117 (by decide +kernel) ?_
                refine lv_iadd hx hb dX3_add_118 ?_
                refine lv_topi (fun z_46 ez_46 => ?_)
                have ez_46 : z_46 = nI (mc i + 1) := by rw [ez_46]; exact nI_add _ _
                subst ez_46
                refine kx_nast hx hb hK hP hD hS (q + 2) f_38 rfl (i := i) (x := (mc i + 1)) (by omega) (by decide) dX3_add_119 (fun H locs hP hD hS => ?_)
                obtain ⟨w_47, ew_47⟩ : ∃ w, w = w_35.set (q + 2) (am 2, .inl (k0 0, 8, .inl (fun y9 => nI ((fo_up mc i (mc i + 1)) y9)))) := ⟨_, rfl⟩
                have hP : va_P D vwCl w_47 H := by rw [ew_47]; exact hP
                have hD : va_D A w_47 := by rw [ew_47]; exact hD
                have f_48 : w_47[q]? = some (am 0, .inr (3, [.ref (am 1), .ref (am 2), .ref (am 3), .ref (am 4), .ref (am 5), .ref (am 6), .int (nI mk), .ref (am 7), .ref (am 8), .ref (am 9)])) := by rw [ew_47]; exact kx_set_ne f_36 (by omega)
                have f_49 : w_47[q + 1]? = some (am 1, .inl (k0 0, 8, .inl (fun y9 => nI (mv y9)))) := by rw [ew_47]; exact kx_set_ne f_37 (by omega)
                have f_50 : w_47[q + 2]? = some (am 2, .inl (k0 0, 8, .inl (fun y9 => nI ((fo_up mc i (mc i + 1)) y9)))) := by rw [ew_47]; exact kx_set_self f_38
                have f_51 : w_47[q + 3]? = some (am 3, .inl (k0 2, 8, .inl (fun y9 => nI (mo y9)))) := by rw [ew_47]; exact kx_set_ne f_39 (by omega)
                have f_52 : w_47[q + 4]? = some (am 4, .inl (k0 0, 192, .inl (fun y9 => nI ((fo_up (fo_up me (24 * i + 2 * mc i) a) (24 * i + 2 * mc i + 1) c9) y9)))) := by rw [ew_47]; exact kx_set_ne f_40 (by omega)
                have f_53 : w_47[q + 5]? = some (am 5, .inl (k0 0, 96, .inl (upd mw (12 * i + mc i) 0))) := by rw [ew_47]; exact kx_set_ne f_41 (by omega)
                have f_54 : w_47[q + 6]? = some (am 6, .inl (k0 0, 24, .inl (fun y9 => nI (mm y9)))) := by rw [ew_47]; exact kx_set_ne f_42 (by omega)
                have f_55 : w_47[q + 7]? = some (am 7, .inl (k0 0, 32, .inl (fun y9 => nI (mn y9)))) := by rw [ew_47]; exact kx_set_ne f_43 (by omega)
                have f_56 : w_47[q + 8]? = some (am 8, .inl (k0 3, 4096, .inl (fun y9 => nI (fb y9)))) := by rw [ew_47]; exact kx_set_ne f_44 (by omega)
                have f_57 : w_47[q + 9]? = some (am 9, .inl (k0 3, 4096, .inl (fun y9 => nI (sb y9)))) := by rw [ew_47]; exact kx_set_ne f_45 (by omega)
                have hfr : kx_fr w0 w_47 (fun j => q ≤ j ∧ j < q + 10) := kx_fr_tr hfr (by rw [ew_47]; exact kx_fr_set (by omega))
                refine lv_iload hx hb dX3_add_120 (lv_at hl 0 rfl) ?_
                exact kx_iret (v := nI (mc i)) hx hb hr rfl hlocks hK hP hD hS dX3_add_122 (⟨Or.inl ⟨i, a, c9, h8i, hop, h_a, h_c9, h12, e_x, e_y, e_z, rfl, ⟨f_48, f_49, f_50, f_51, f_52, f_53, f_54, f_55, f_56, f_57⟩⟩, hfr⟩)
              · skip
                have hno : ¬ (∃ i a c9, i < 8 ∧ mo i ≠ 0 ∧ a < mv i ∧ c9 < mv i ∧ mc i < 12 ∧ x = nI i ∧ y = nI a ∧ z = nI c9) := fun ⟨i2, _, c9, _, _, _, h3, _, h5, _, h6⟩ => by
                  have hi2 : i2 = i := ((nI_eq (by omega) (by omega)).mp (h5.symm.trans e_x))
                  subst hi2
                  exact c_52 (by rw [h6]; exact nI_lt h3 (by omega))
                refine lv_iconst (v := -1) hx hb dX3_add_55 (by decide +kernel) ?_
                exact kx_iret (v := -1) hx hb hr rfl hlocks hK hP hD hS dX3_add_56 (⟨Or.inr ⟨hno, rfl, rfl⟩, kx_fr_rf _ _⟩)

set_option maxHeartbeats 4000000 in
set_option maxRecDepth 100000 in
/-- the model: weigh -/
theorem m_weigh (l : Launch) (D : va_G) (k0 : Nat → ClassId)  (w0 : va_W) (sz : Nat) (q : Nat) (am mv mc mo me : Nat → Nat) (mw : Nat → Int32) (mm : Nat → Nat) (mk : Nat) (mn fb sb : Nat → Nat) (hM : atM w0 q k0 am mv mc mo me mw mm mk mn fb sb) (hI : minv mv mc mo me mw) (x y z : Int32) : kx_i l yX3_weigh wsX3_weigh ({ frames := 2, cells := 0, slots := 0, locals := 48 } : Room) D (tyL k0) w0 sz [.ref (am 0), .int x, .int y, .int z] (fun (r : Int32) (u : va_W) => ((∃ i e9, i < 8 ∧ e9 < mc i ∧ x = nI i ∧ y = nI e9 ∧ -999 ≤ z.toInt ∧ z.toInt ≤ 999 ∧ r = 1 ∧ atM u q k0 am mv mc mo me (upd mw (12 * i + e9) z) mm mk mn fb sb) ∨ (¬ (∃ i e9, i < 8 ∧ e9 < mc i ∧ x = nI i ∧ y = nI e9 ∧ -999 ≤ z.toInt ∧ z.toInt ≤ 999) ∧ r = 0 ∧ u = w0)) ∧ kx_fr w0 u (fun j => q ≤ j ∧ j < q + 10)) 0 0 := by
  refine kx_of (Qf := fun A => va_Qi (fun (r : Int32) (u : va_W) => ((∃ i e9, i < 8 ∧ e9 < mc i ∧ x = nI i ∧ y = nI e9 ∧ -999 ≤ z.toInt ∧ z.toInt ≤ 999 ∧ r = 1 ∧ atM u q k0 am mv mc mo me (upd mw (12 * i + e9) z) mm mk mn fb sb) ∨ (¬ (∃ i e9, i < 8 ∧ e9 < mc i ∧ x = nI i ∧ y = nI e9 ∧ -999 ≤ z.toInt ∧ z.toInt ≤ 999) ∧ r = 0 ∧ u = w0)) ∧ kx_fr w0 u (fun j => q ≤ j ∧ j < q + 10)) (kx_B D (tyL k0) A) A) (cc := cX3_weigh) (maxL := 4) (ret := (some .boolean)) (by decide +kernel) (Nat.le_of_ble_eq_true rfl) ?_
  intro p e s m below meth c A ls hx hb hml hown hts hr hlocks hnm hN hK hP hD hS hA hl
  have hown : s.vm.findClass RX3 = some m.cls := hown
  have hl : lv_has ls 4 [(0, .ref (am 0)), (1, .int x), (2, .int y), (3, .int z)] := hl
  have hfr : kx_fr w0 w0 (fun j => q ≤ j ∧ j < q + 10) := kx_fr_rf _ _
  obtain ⟨hM0, hM1, hM2, hM3, hM4, hM5, hM6, hM7, hM8, hM9⟩ := id hM
  refine lv_aload_n hx hb dX3_weigh_0 rfl (lv_at hl 0 rfl) ?_
  refine lv_iload_n hx hb dX3_weigh_1 rfl (lv_at hl 1 rfl) ?_
  refine lv_iload_n hx hb dX3_weigh_2 rfl (lv_at hl 2 rfl) ?_
  refine kx_goi (va_runV (As := [.int x, .int y]) (rest := []) ⟨hx, hb, hml, hown, hts⟩ (m_isEdge l D k0 w0 _ q am mv mc mo me mw mm mk mn fb sb ⟨hM0, hM1, hM2, hM3, hM4, hM5, hM6, hM7, hM8, hM9⟩ hI x y) ⟨(kg_B (k := 2) hts tw_301 tw_298 tw_22 (by decide +kernel) rfl rfl ⟨Nat.le_of_ble_eq_true rfl, Nat.le_of_ble_eq_true rfl⟩), hts _ tw_300, hts _ tw_8⟩ (kx_preV hN hK hP hD rfl hM0) rfl rfl hl.1 rfl (lv_room (Nat.le_of_ble_eq_true rfl)) dX3_weigh_3 ⟨Nat.le_of_ble_eq_true rfl, Nat.le_of_ble_eq_true rfl⟩) hD hS hA (fun r_2 u_3 H locs hp_1 hP hD hS => ?_)
  obtain ⟨hy_, eu⟩ := hp_1
  rw [eu] at hP hD
  refine lv_if_eq (tgt := 23) hx hb dX3_weigh_6 (by decide) (fun c_6 => ?_) (fun c_6 => ?_)
  · skip
    have hno0 := kg_0 hy_ c_6
    have hno : ¬ (∃ i e9, i < 8 ∧ e9 < mc i ∧ x = nI i ∧ y = nI e9 ∧ -999 ≤ z.toInt ∧ z.toInt ≤ 999) := fun ⟨i, e9, h1, h2, h3, h4, _⟩ => hno0 ⟨i, e9, h1, h2, h3, h4⟩
    refine lv_iconst (v := 0) hx hb dX3_weigh_23 (by decide +kernel) ?_
    exact kx_iret (v := 0) hx hb hr rfl hlocks hK hP hD hS dX3_weigh_24 (⟨Or.inr ⟨hno, rfl, rfl⟩, kx_fr_rf _ _⟩)
  · skip
    obtain ⟨i, e9, h8i, he9, e_x, e_y⟩ := kg_1 hy_ c_6
    rw [e_x, e_y] at hl
    obtain ⟨hni, hvi, hoi, he2i, hw2i⟩ := hI i h8i
    refine lv_iload_n hx hb dX3_weigh_9 rfl (lv_at hl 3 rfl) ?_
    refine lv_sipush (v := -999) hx hb dX3_weigh_10 (by decide +kernel) ?_
    refine lv_icmp_lt (tgt := 23) hx hb dX3_weigh_13 (by decide) (fun c_13 => ?_) (fun c_13 => ?_)
    · skip
      have hno : ¬ (∃ i e9, i < 8 ∧ e9 < mc i ∧ x = nI i ∧ y = nI e9 ∧ -999 ≤ z.toInt ∧ z.toInt ≤ 999) := fun ⟨_, _, _, _, _, _, h1, _⟩ => by
        rw [Int32.lt_iff_toInt_lt, show ((-999 : Int32)).toInt = -999 by decide] at c_13
        omega
      refine lv_iconst (v := 0) hx hb dX3_weigh_23 (by decide +kernel) ?_
      exact kx_iret (v := 0) hx hb hr rfl hlocks hK hP hD hS dX3_weigh_24 (⟨Or.inr ⟨hno, rfl, rfl⟩, kx_fr_rf _ _⟩)
    · skip
      have hz1 : -999 ≤ z.toInt := by
        rw [Int32.lt_iff_toInt_lt, show ((-999 : Int32)).toInt = -999 by decide] at c_13
        omega
      refine lv_iload_n hx hb dX3_weigh_16 rfl (lv_at hl 3 rfl) ?_
      refine lv_sipush (v := 999) hx hb dX3_weigh_17 (by decide +kernel) ?_
      refine lv_icmp_le (tgt := 25) hx hb dX3_weigh_20 (by decide) (fun c_20 => ?_) (fun c_20 => ?_)
      · skip
        have hz2 : z.toInt ≤ 999 := by
          rw [Int32.le_iff_toInt_le, show ((999 : Int32)).toInt = 999 by decide] at c_20
          exact c_20
        refine lv_aload_n hx hb dX3_weigh_25 rfl (lv_at hl 0 rfl) ?_
        refine va_get (D := D) (ci := 3) (v := .ref (am 5)) (C := RX3) (T := TX3) (N := 10) hx hb hts inX3 hown hK hP q hM0 rfl 4 (by decide) (hts _ tw_254) (fun _ h9 => h9) rfl dX3_weigh_26 ?_
        refine lv_bipush (v := nI 12) hx hb dX3_weigh_29 (by decide +kernel) ?_
        refine lv_iload_n hx hb dX3_weigh_31 rfl (lv_at hl 1 rfl) ?_
        refine lv_imul hx hb dX3_weigh_32 ?_
        refine lv_topi (fun z_4 ez_4 => ?_)
        have ez_4 : z_4 = nI (12 * i) := by rw [ez_4]; exact pk_mul _ _
        subst ez_4
        refine lv_iload_n hx hb dX3_weigh_33 rfl (lv_at hl 2 rfl) ?_
        refine lv_iadd hx hb dX3_weigh_34 ?_
        refine lv_topi (fun z_5 ez_5 => ?_)
        have ez_5 : z_5 = nI (12 * i + e9) := by rw [ez_5]; exact nI_add _ _
        subst ez_5
        refine lv_iload_n hx hb dX3_weigh_35 rfl (lv_at hl 3 rfl) ?_
        refine kx_iast hx hb hK hP hD hS (q + 5) hM5 rfl (i := (12 * i + e9)) (x := z) (by omega) (by decide) dX3_weigh_36 (fun H locs hP hD hS => ?_)
        obtain ⟨w_6, ew_6⟩ : ∃ w, w = w0.set (q + 5) (am 5, .inl (k0 0, 96, .inl (upd mw (12 * i + e9) z))) := ⟨_, rfl⟩
        have hP : va_P D vwCl w_6 H := by rw [ew_6]; exact hP
        have hD : va_D A w_6 := by rw [ew_6]; exact hD
        have f_7 : w_6[q]? = some (am 0, .inr (3, [.ref (am 1), .ref (am 2), .ref (am 3), .ref (am 4), .ref (am 5), .ref (am 6), .int (nI mk), .ref (am 7), .ref (am 8), .ref (am 9)])) := by rw [ew_6]; exact kx_set_ne hM0 (by omega)
        have f_8 : w_6[q + 1]? = some (am 1, .inl (k0 0, 8, .inl (fun y9 => nI (mv y9)))) := by rw [ew_6]; exact kx_set_ne hM1 (by omega)
        have f_9 : w_6[q + 2]? = some (am 2, .inl (k0 0, 8, .inl (fun y9 => nI (mc y9)))) := by rw [ew_6]; exact kx_set_ne hM2 (by omega)
        have f_10 : w_6[q + 3]? = some (am 3, .inl (k0 2, 8, .inl (fun y9 => nI (mo y9)))) := by rw [ew_6]; exact kx_set_ne hM3 (by omega)
        have f_11 : w_6[q + 4]? = some (am 4, .inl (k0 0, 192, .inl (fun y9 => nI (me y9)))) := by rw [ew_6]; exact kx_set_ne hM4 (by omega)
        have f_12 : w_6[q + 5]? = some (am 5, .inl (k0 0, 96, .inl (upd mw (12 * i + e9) z))) := by rw [ew_6]; exact kx_set_self hM5
        have f_13 : w_6[q + 6]? = some (am 6, .inl (k0 0, 24, .inl (fun y9 => nI (mm y9)))) := by rw [ew_6]; exact kx_set_ne hM6 (by omega)
        have f_14 : w_6[q + 7]? = some (am 7, .inl (k0 0, 32, .inl (fun y9 => nI (mn y9)))) := by rw [ew_6]; exact kx_set_ne hM7 (by omega)
        have f_15 : w_6[q + 8]? = some (am 8, .inl (k0 3, 4096, .inl (fun y9 => nI (fb y9)))) := by rw [ew_6]; exact kx_set_ne hM8 (by omega)
        have f_16 : w_6[q + 9]? = some (am 9, .inl (k0 3, 4096, .inl (fun y9 => nI (sb y9)))) := by rw [ew_6]; exact kx_set_ne hM9 (by omega)
        have hfr : kx_fr w0 w_6 (fun j => q ≤ j ∧ j < q + 10) := kx_fr_tr hfr (by rw [ew_6]; exact kx_fr_set (by omega))
        refine lv_iconst (v := 1) hx hb dX3_weigh_37 (by decide +kernel) ?_
        exact kx_iret (v := 1) hx hb hr rfl hlocks hK hP hD hS dX3_weigh_38 (⟨Or.inl ⟨i, e9, h8i, he9, e_x, e_y, hz1, hz2, rfl, ⟨f_7, f_8, f_9, f_10, f_11, f_12, f_13, f_14, f_15, f_16⟩⟩, hfr⟩)
      · skip
        have hno : ¬ (∃ i e9, i < 8 ∧ e9 < mc i ∧ x = nI i ∧ y = nI e9 ∧ -999 ≤ z.toInt ∧ z.toInt ≤ 999) := fun ⟨_, _, _, _, _, _, _, h1⟩ => by
          rw [Int32.le_iff_toInt_le, show ((999 : Int32)).toInt = 999 by decide] at c_20
          omega
        refine lv_iconst (v := 0) hx hb dX3_weigh_23 (by decide +kernel) ?_
        exact kx_iret (v := 0) hx hb hr rfl hlocks hK hP hD hS dX3_weigh_24 (⟨Or.inr ⟨hno, rfl, rfl⟩, kx_fr_rf _ _⟩)

set_option maxHeartbeats 4000000 in
set_option maxRecDepth 100000 in
/-- the model: size -/
theorem m_size (l : Launch) (D : va_G) (k0 : Nat → ClassId)  (w0 : va_W) (sz : Nat) (S : Nat) (hSb : S < 2 ^ 31) : kx_i l yX3_size wsX3_size ({ frames := 0, cells := 0, slots := 0, locals := 0 } : Room) D (tyL k0) w0 sz [.int (nI S)] (fun (r : Int32) (u : va_W) => r = nI (cf_card 12 S) ∧ u = w0) 0 0 := by
  refine kx_of (Qf := fun A => va_Qi (fun (r : Int32) (u : va_W) => r = nI (cf_card 12 S) ∧ u = w0) (kx_B D (tyL k0) A) A) (cc := cX3_size) (maxL := 3) (ret := (some .int)) (by decide +kernel) (Nat.le_of_ble_eq_true rfl) ?_
  intro p e s m below meth c A ls hx hb hml hown hts hr hlocks hnm hN hK hP hD hS hA hl
  have hown : s.vm.findClass RX3 = some m.cls := hown
  have hl : lv_has ls 3 [(0, .int (nI S))] := hl
  skip
  refine lv_iconst (v := nI 0) hx hb dX3_size_0 (by decide +kernel) ?_
  refine lv_istore_n (lv' := [(1, .int (nI 0)), (0, .int (nI S))]) hx hb dX3_size_1 rfl hl (by decide) rfl (fun ls hl => ?_)
  refine lv_iconst (v := nI 0) hx hb dX3_size_2 (by decide +kernel) ?_
  refine lv_istore_n (lv' := [(2, .int (nI 0)), (1, .int (nI 0)), (0, .int (nI S))]) hx hb dX3_size_3 rfl hl (by decide) rfl (fun ls hl => ?_)
  have loop_4 : ∀ (n4 : Nat) (e9 : Nat), (e9 ≤ 12) → (13 ≤ e9 + n4) → ∀ (H : Heap) (locs : List Loc), va_P D vwCl w0 H → va_D A w0 → va_S A s.heap H locs → ∀ (ls : Array Slot), lv_has ls 3 [(2, .int (nI e9)), (1, .int (nI (cf_card e9 S))), (0, .int (nI S))] → W p l e ({ frames := 0, cells := 0, slots := 0, locals := 0 } : Room) s m ([.int (nI S)] : List Value).toArray below meth c H locs 0 0 (MQ below (va_Qi (fun (r : Int32) (u : va_W) => r = nI (cf_card 12 S) ∧ u = w0) (kx_B D (tyL k0) A) A) ([.int (nI S)] : List Value).toArray s 0 0 A) (F0 m 4 ls []) := by
    intro n4
    induction n4 with
    | zero =>
      intro e9 he hme
      exact absurd hme (by omega)
    | succ n4 ih4 =>
      intro e9 he hme  H locs hP hD hS ls hl
      refine lv_iload_n hx hb dX3_size_4 rfl (lv_at hl 0 rfl) ?_
      refine lv_bipush (v := nI 12) hx hb dX3_size_5 (by decide +kernel) ?_
      refine lv_icmp_ge (tgt := 24) hx hb dX3_size_7 (by decide) (fun c_7 => ?_) (fun c_7 => ?_)
      · skip
        have hik : e9 = 12 := by
          have := (nI_leI (by omega) (by omega)).mp c_7
          omega
        subst hik
        refine lv_iload_n hx hb dX3_size_24 rfl (lv_at hl 1 rfl) ?_
        exact kx_iret (v := nI (cf_card 12 S)) hx hb hr rfl hlocks hK hP hD hS dX3_size_25 (⟨rfl, rfl⟩)
      · skip
        have hik : e9 < 12 := by
          rcases Nat.lt_or_ge (e9) (12) with h | h
          · exact h
          · exact absurd ((nI_leI (by omega) (by omega)).mpr h) c_7
        refine lv_iload_n hx hb dX3_size_10 rfl (lv_at hl 1 rfl) ?_
        refine lv_iload_n hx hb dX3_size_11 rfl (lv_at hl 2 rfl) ?_
        refine lv_iload_n hx hb dX3_size_12 rfl (lv_at hl 0 rfl) ?_
        refine lv_ishr hx hb dX3_size_13 ?_
        refine lv_iconst (v := 1) hx hb dX3_size_14 (by decide +kernel) ?_
        refine lv_iand hx hb dX3_size_15 ?_
        refine lv_topi (fun z_1 ez_1 => ?_)
        have ez_1 : z_1 = nI (if S.testBit e9 = true then 1 else 0) := by rw [ez_1]; exact kb_has (by omega) (by omega)
        subst ez_1
        refine lv_iadd hx hb dX3_size_16 ?_
        refine lv_topi (fun z_2 ez_2 => ?_)
        have ez_2 : z_2 = nI (cf_card (e9 + 1) S) := by rw [ez_2]; exact nI_add _ _
        subst ez_2
        refine lv_istore_n (lv' := [(1, .int (nI (cf_card (e9 + 1) S))), (2, .int (nI e9)), (0, .int (nI S))]) hx hb dX3_size_17 rfl hl (by decide) rfl (fun ls hl => ?_)
        refine lv_iinc (v := nI (e9 + 1)) (lv' := [(2, .int (nI (e9 + 1))), (1, .int (nI (cf_card (e9 + 1) S))), (0, .int (nI S))]) hx hb dX3_size_18 hl (k := 1) rfl (nI_1 _) (by decide) rfl (fun ls hl => ?_)
        refine lv_goto (tgt := 4) hx hb dX3_size_21 (by decide) ?_
        exact ih4 (e9 + 1) (by omega) (by omega) _ _ hP hD hS _ (lv_sub hl [0, 1, 2] rfl)
  exact loop_4 (13) 0 (by omega) (by omega) _ _ hP hD hS _ (lv_sub hl [0, 1, 2] rfl)

theorem kb_biteq (a b : Bool) : nI (if a = true then 1 else 0) = nI (if b = true then 1 else 0) ↔ a = b := by cases a <;> cases b <;> decide
theorem kb_bit1 (a : Bool) : nI (if a = true then 1 else 0) = (1 : Int32) ↔ a = true := by cases a <;> decide
theorem mo_no {a b : Nat} (ha : a < 2 ^ 12) (hb : b < 2 ^ 12) (h : ∀ j, j < 12 → a.testBit j = b.testBit j) : ¬ mo_lt a b := by
  have e : a = b := Nat.eq_of_testBit_eq fun i => by
    rcases Nat.lt_or_ge i 12 with q | q
    · exact h i q
    · rw [Nat.testBit_lt_two_pow (Nat.lt_of_lt_of_le ha (Nat.pow_le_pow_right (by omega) q)), Nat.testBit_lt_two_pow (Nat.lt_of_lt_of_le hb (Nat.pow_le_pow_right (by omega) q))]
  subst e
  rintro (q | ⟨_, q⟩)
  · omega
  · exact cf_lex_ir q

set_option maxHeartbeats 4000000 in
set_option maxRecDepth 100000 in
/-- the model: comesFirst -/
theorem m_comesFirst (l : Launch) (D : va_G) (k0 : Nat → ClassId)  (w0 : va_W) (sz : Nat) (a b : Nat) (ha : a < 2 ^ 12) (hb9 : b < 2 ^ 12) : kx_i l yX3_comesFirst wsX3_comesFirst ({ frames := 1, cells := 0, slots := 0, locals := 24 } : Room) D (tyL k0) w0 sz [.int (nI a), .int (nI b)] (fun (r : Int32) (u : va_W) => ((r = 1 ∧ mo_lt a b) ∨ (r = 0 ∧ ¬ mo_lt a b)) ∧ u = w0) 0 0 := by
  refine kx_of (Qf := fun A => va_Qi (fun (r : Int32) (u : va_W) => ((r = 1 ∧ mo_lt a b) ∨ (r = 0 ∧ ¬ mo_lt a b)) ∧ u = w0) (kx_B D (tyL k0) A) A) (cc := cX3_comesFirst) (maxL := 3) (ret := (some .boolean)) (by decide +kernel) (Nat.le_of_ble_eq_true rfl) ?_
  intro p e s m below meth c A ls hx hb hml hown hts hr hlocks hnm hN hK hP hD hS hA hl
  have hown : s.vm.findClass RX3 = some m.cls := hown
  have hl : lv_has ls 3 [(0, .int (nI a)), (1, .int (nI b))] := hl
  skip
  have ca := cf_card_le 12 a
  have cb := cf_card_le 12 b
  refine lv_iload_n hx hb dX3_comesFirst_0 rfl (lv_at hl 0 rfl) ?_
  refine kx_goi (va_runS (As := [.int (nI a)]) (rest := []) ⟨hx, hb, hml, hown, hts⟩ (m_size l D k0 w0 _ a (by omega)) ⟨(kg_B (k := 1) hts tw_356 tw_354 tw_22 (by decide +kernel) rfl rfl ⟨Nat.le_of_ble_eq_true rfl, Nat.le_of_ble_eq_true rfl⟩), hts _ tw_355⟩ (kx_preS hN hK hP hD) rfl rfl hl.1 rfl (lv_room (Nat.le_of_ble_eq_true rfl)) dX3_comesFirst_1 ⟨Nat.le_of_ble_eq_true rfl, Nat.le_of_ble_eq_true rfl⟩) hD hS hA (fun r_2 u_3 H locs hp_1 hP hD hS => ?_)
  obtain ⟨er_2, eu_3⟩ := hp_1
  rw [eu_3] at hP hD; subst er_2
  refine lv_iload_n hx hb dX3_comesFirst_4 rfl (lv_at hl 1 rfl) ?_
  refine kx_goi (va_runS (As := [.int (nI b)]) (rest := [.int (nI (cf_card 12 a))]) ⟨hx, hb, hml, hown, hts⟩ (m_size l D k0 w0 _ b (by omega)) ⟨(kg_B (k := 1) hts tw_356 tw_354 tw_22 (by decide +kernel) rfl rfl ⟨Nat.le_of_ble_eq_true rfl, Nat.le_of_ble_eq_true rfl⟩), hts _ tw_355⟩ (kx_preS hN hK hP hD) rfl rfl hl.1 rfl (lv_room (Nat.le_of_ble_eq_true rfl)) dX3_comesFirst_5 ⟨Nat.le_of_ble_eq_true rfl, Nat.le_of_ble_eq_true rfl⟩) hD hS hA (fun r_5 u_6 H locs hp_4 hP hD hS => ?_)
  obtain ⟨er_5, eu_6⟩ := hp_4
  rw [eu_6] at hP hD; subst er_5
  refine lv_icmp_eq (tgt := 28) hx hb dX3_comesFirst_8 (by decide) (fun c_8 => ?_) (fun c_8 => ?_)
  · skip
    have hce : cf_card 12 a = cf_card 12 b := (nI_eq (by omega) (by omega)).mp c_8
    refine lv_iconst (v := nI 0) hx hb dX3_comesFirst_28 (by decide +kernel) ?_
    refine lv_istore_n (lv' := [(2, .int (nI 0)), (0, .int (nI a)), (1, .int (nI b))]) hx hb dX3_comesFirst_29 rfl hl (by decide) rfl (fun ls hl => ?_)
    have loop_30 : ∀ (n30 : Nat) (e9 : Nat), (e9 ≤ 12) → (∀ j, j < e9 → a.testBit j = b.testBit j) → (13 ≤ e9 + n30) → ∀ (H : Heap) (locs : List Loc), va_P D vwCl w0 H → va_D A w0 → va_S A s.heap H locs → ∀ (ls : Array Slot), lv_has ls 3 [(2, .int (nI e9)), (0, .int (nI a)), (1, .int (nI b))] → W p l e ({ frames := 1, cells := 0, slots := 0, locals := 24 } : Room) s m ([.int (nI a), .int (nI b)] : List Value).toArray below meth c H locs 0 0 (MQ below (va_Qi (fun (r : Int32) (u : va_W) => ((r = 1 ∧ mo_lt a b) ∨ (r = 0 ∧ ¬ mo_lt a b)) ∧ u = w0) (kx_B D (tyL k0) A) A) ([.int (nI a), .int (nI b)] : List Value).toArray s 0 0 A) (F0 m 30 ls []) := by
      intro n30
      induction n30 with
      | zero =>
        intro e9 he hsm hme
        exact absurd hme (by omega)
      | succ n30 ih30 =>
        intro e9 he hsm hme  H locs hP hD hS ls hl
        refine lv_iload_n hx hb dX3_comesFirst_30 rfl (lv_at hl 0 rfl) ?_
        refine lv_bipush (v := nI 12) hx hb dX3_comesFirst_31 (by decide +kernel) ?_
        refine lv_icmp_ge (tgt := 70) hx hb dX3_comesFirst_33 (by decide) (fun c_33 => ?_) (fun c_33 => ?_)
        · skip
          have hik : e9 = 12 := by
            have := (nI_leI (by omega) (by omega)).mp c_33
            omega
          subst hik
          have hno : ¬ mo_lt a b := mo_no ha hb9 hsm
          refine lv_iconst (v := 0) hx hb dX3_comesFirst_70 (by decide +kernel) ?_
          exact kx_iret (v := 0) hx hb hr rfl hlocks hK hP hD hS dX3_comesFirst_71 (⟨by first | exact Or.inl ⟨rfl, hyes⟩ | exact Or.inr ⟨rfl, hno⟩, rfl⟩)
        · skip
          have hik : e9 < 12 := by
            rcases Nat.lt_or_ge (e9) (12) with h | h
            · exact h
            · exact absurd ((nI_leI (by omega) (by omega)).mpr h) c_33
          refine lv_iload_n hx hb dX3_comesFirst_36 rfl (lv_at hl 1 rfl) ?_
          refine lv_iload_n hx hb dX3_comesFirst_37 rfl (lv_at hl 0 rfl) ?_
          refine lv_ishr hx hb dX3_comesFirst_38 ?_
          refine lv_iconst (v := 1) hx hb dX3_comesFirst_39 (by decide +kernel) ?_
          refine lv_iand hx hb dX3_comesFirst_40 ?_
          refine lv_topi (fun z_7 ez_7 => ?_)
          have ez_7 : z_7 = nI (if a.testBit e9 = true then 1 else 0) := by rw [ez_7]; exact kb_has (by omega) (by omega)
          subst ez_7
          refine lv_iload_n hx hb dX3_comesFirst_41 rfl (lv_at hl 2 rfl) ?_
          refine lv_iload_n hx hb dX3_comesFirst_42 rfl (lv_at hl 0 rfl) ?_
          refine lv_ishr hx hb dX3_comesFirst_43 ?_
          refine lv_iconst (v := 1) hx hb dX3_comesFirst_44 (by decide +kernel) ?_
          refine lv_iand hx hb dX3_comesFirst_45 ?_
          refine lv_topi (fun z_8 ez_8 => ?_)
          have ez_8 : z_8 = nI (if b.testBit e9 = true then 1 else 0) := by rw [ez_8]; exact kb_has (by omega) (by omega)
          subst ez_8
          refine lv_icmp_eq (tgt := 64) hx hb dX3_comesFirst_46 (by decide) (fun c_46 => ?_) (fun c_46 => ?_)
          · skip
            have hbe : a.testBit e9 = b.testBit e9 := (kb_biteq _ _).mp c_46
            refine lv_iinc (v := nI (e9 + 1)) (lv' := [(2, .int (nI (e9 + 1))), (0, .int (nI a)), (1, .int (nI b))]) hx hb dX3_comesFirst_64 hl (k := 0) rfl (nI_1 _) (by decide) rfl (fun ls hl => ?_)
            refine lv_goto (tgt := 30) hx hb dX3_comesFirst_67 (by decide) ?_
            exact ih30 (e9 + 1) (by omega) (fun j h => by
                rcases Nat.lt_or_ge j e9 with h2 | h2
                · exact hsm j h2
                · rw [show j = e9 by omega]; exact hbe) (by omega) _ _ hP hD hS _ (lv_sub hl [0, 1, 2] rfl)
          · skip
            have hbn : a.testBit e9 ≠ b.testBit e9 := fun h => c_46 ((kb_biteq _ _).mpr h)
            refine lv_iload_n hx hb dX3_comesFirst_49 rfl (lv_at hl 1 rfl) ?_
            refine lv_iload_n hx hb dX3_comesFirst_50 rfl (lv_at hl 0 rfl) ?_
            refine lv_ishr hx hb dX3_comesFirst_51 ?_
            refine lv_iconst (v := 1) hx hb dX3_comesFirst_52 (by decide +kernel) ?_
            refine lv_iand hx hb dX3_comesFirst_53 ?_
            refine lv_topi (fun z_9 ez_9 => ?_)
            have ez_9 : z_9 = nI (if a.testBit e9 = true then 1 else 0) := by rw [ez_9]; exact kb_has (by omega) (by omega)
            subst ez_9
            refine lv_iconst (v := 1) hx hb dX3_comesFirst_54 (by decide +kernel) ?_
            refine lv_icmp_ne (tgt := 62) hx hb dX3_comesFirst_55 (by decide) (fun c_55 => ?_) (fun c_55 => ?_)
            · skip
              have ha0 : a.testBit e9 = false := by
                cases hq9 : a.testBit e9 with
                | false => rfl
                | true => exact absurd ((kb_bit1 _).mpr hq9) c_55
              have hno : ¬ mo_lt a b := by
                rintro (h | ⟨_, z, h1, h2, h3⟩)
                · omega
                · rcases Nat.lt_trichotomy z e9 with h | h | h
                  · rw [hsm z h, h2] at h1; cases h1
                  · rw [h, ha0] at h1; cases h1
                  · exact hbn (h3 e9 h)
              refine lv_iconst (v := 0) hx hb dX3_comesFirst_62 (by decide +kernel) ?_
              exact kx_iret (v := 0) hx hb hr rfl hlocks hK hP hD hS dX3_comesFirst_63 (⟨by first | exact Or.inl ⟨rfl, hyes⟩ | exact Or.inr ⟨rfl, hno⟩, rfl⟩)
            · skip
              have ha1 : a.testBit e9 = true := (kb_bit1 _).mp c_55
              have hyes : mo_lt a b := Or.inr ⟨hce, e9, ha1, by
                cases hq9 : b.testBit e9 with
                | false => rfl
                | true => rw [ha1, hq9] at hbn; exact absurd rfl hbn, hsm⟩
              refine lv_iconst (v := 1) hx hb dX3_comesFirst_58 (by decide +kernel) ?_
              refine lv_goto (tgt := 63) hx hb dX3_comesFirst_59 (by decide) ?_
              exact kx_iret (v := 1) hx hb hr rfl hlocks hK hP hD hS dX3_comesFirst_63 (⟨by first | exact Or.inl ⟨rfl, hyes⟩ | exact Or.inr ⟨rfl, hno⟩, rfl⟩)
    exact loop_30 (13) 0 (by omega) (fun j h => absurd h (Nat.not_lt_zero j)) (by omega) _ _ hP hD hS _ (lv_sub hl [0, 1, 2] rfl)
  · skip
    have hce : cf_card 12 a ≠ cf_card 12 b := fun h => c_8 (by rw [h])
    refine lv_iload_n hx hb dX3_comesFirst_11 rfl (lv_at hl 0 rfl) ?_
    refine kx_goi (va_runS (As := [.int (nI a)]) (rest := []) ⟨hx, hb, hml, hown, hts⟩ (m_size l D k0 w0 _ a (by omega)) ⟨(kg_B (k := 1) hts tw_356 tw_354 tw_22 (by decide +kernel) rfl rfl ⟨Nat.le_of_ble_eq_true rfl, Nat.le_of_ble_eq_true rfl⟩), hts _ tw_355⟩ (kx_preS hN hK hP hD) rfl rfl hl.1 rfl (lv_room (Nat.le_of_ble_eq_true rfl)) dX3_comesFirst_12 ⟨Nat.le_of_ble_eq_true rfl, Nat.le_of_ble_eq_true rfl⟩) hD hS hA (fun r_11 u_12 H locs hp_10 hP hD hS => ?_)
    obtain ⟨er_11, eu_12⟩ := hp_10
    rw [eu_12] at hP hD; subst er_11
    refine lv_iload_n hx hb dX3_comesFirst_15 rfl (lv_at hl 1 rfl) ?_
    refine kx_goi (va_runS (As := [.int (nI b)]) (rest := [.int (nI (cf_card 12 a))]) ⟨hx, hb, hml, hown, hts⟩ (m_size l D k0 w0 _ b (by omega)) ⟨(kg_B (k := 1) hts tw_356 tw_354 tw_22 (by decide +kernel) rfl rfl ⟨Nat.le_of_ble_eq_true rfl, Nat.le_of_ble_eq_true rfl⟩), hts _ tw_355⟩ (kx_preS hN hK hP hD) rfl rfl hl.1 rfl (lv_room (Nat.le_of_ble_eq_true rfl)) dX3_comesFirst_16 ⟨Nat.le_of_ble_eq_true rfl, Nat.le_of_ble_eq_true rfl⟩) hD hS hA (fun r_14 u_15 H locs hp_13 hP hD hS => ?_)
    obtain ⟨er_14, eu_15⟩ := hp_13
    rw [eu_15] at hP hD; subst er_14
    refine lv_icmp_ge (tgt := 26) hx hb dX3_comesFirst_19 (by decide) (fun c_19 => ?_) (fun c_19 => ?_)
    · skip
      have hno : ¬ mo_lt a b := by
        have := (nI_leI (by omega) (by omega)).mp c_19
        rintro (h | ⟨h, _⟩)
        · omega
        · exact hce h
      refine lv_iconst (v := 0) hx hb dX3_comesFirst_26 (by decide +kernel) ?_
      exact kx_iret (v := 0) hx hb hr rfl hlocks hK hP hD hS dX3_comesFirst_27 (⟨by first | exact Or.inl ⟨rfl, hyes⟩ | exact Or.inr ⟨rfl, hno⟩, rfl⟩)
    · skip
      have hyes : mo_lt a b := Or.inl (by
        rcases Nat.lt_or_ge (cf_card 12 a) (cf_card 12 b) with h | h
        · exact h
        · exact absurd ((nI_leI (by omega) (by omega)).mpr h) c_19)
      refine lv_iconst (v := 1) hx hb dX3_comesFirst_22 (by decide +kernel) ?_
      refine lv_goto (tgt := 27) hx hb dX3_comesFirst_23 (by decide) ?_
      exact kx_iret (v := 1) hx hb hr rfl hlocks hK hP hD hS dX3_comesFirst_27 (⟨by first | exact Or.inl ⟨rfl, hyes⟩ | exact Or.inr ⟨rfl, hno⟩, rfl⟩)
end
section
def mA (me : Nat → Nat) (i : Nat) : Nat → Nat := fun e => me (24 * i + 2 * e)
def mB (me : Nat → Nat) (i : Nat) : Nat → Nat := fun e => me (24 * i + 2 * e + 1)
theorem kb_i2b : ∀ x, x < 128 → (nI x).toInt8.toInt32 = nI x := by decide +kernel
theorem jn_yes {A B : Nat → Nat} {S e : Nat} (h : S.testBit e = true) (h2 : (jn A B S e).1 (A e) ≠ (jn A B S e).1 (B e)) : jn A B S (e + 1) = (fun v => if (jn A B S e).1 v = (jn A B S e).1 (B e) then (jn A B S e).1 (A e) else (jn A B S e).1 v, (jn A B S e).2 + 1) := by simp only [jn]; rw [if_pos ⟨h, h2⟩]
theorem jn_no {A B : Nat → Nat} {S e : Nat} (h : ¬ (S.testBit e = true ∧ (jn A B S e).1 (A e) ≠ (jn A B S e).1 (B e))) : jn A B S (e + 1) = jn A B S e := by simp only [jn]; rw [if_neg h]

set_option maxHeartbeats 4000000 in
set_option maxRecDepth 100000 in
/-- the model: join -/
theorem m_join (l : Launch) (D : va_G) (k0 : Nat → ClassId)  (w0 : va_W) (sz : Nat) (q : Nat) (am mv mc mo me : Nat → Nat) (mw : Nat → Int32) (mm : Nat → Nat) (mk : Nat) (mn fb sb : Nat → Nat) (hM : atM w0 q k0 am mv mc mo me mw mm mk mn fb sb) (hI : minv mv mc mo me mw) (i S : Nat) (h8i : i < 8) (hSb : S < 2 ^ 31) : kx_i l yX3_join wsX3_join ({ frames := 0, cells := 0, slots := 0, locals := 0 } : Room) D (tyL k0) w0 sz [.ref (am 0), .int (nI i), .int (nI S)] (fun (r : Int32) (u : va_W) => ∃ mn9 : Nat → Nat, r = nI (jn (mA me i) (mB me i) S (mc i)).2 ∧ (∀ v, v < 32 → mn9 v = (jn (mA me i) (mB me i) S (mc i)).1 v) ∧ u[q + 7]? = some (am 7, .inl (k0 0, 32, .inl (fun j => nI (mn9 j)))) ∧ kx_fr w0 u (fun j => j = q + 7)) 0 0 := by
  refine kx_of (Qf := fun A => va_Qi (fun (r : Int32) (u : va_W) => ∃ mn9 : Nat → Nat, r = nI (jn (mA me i) (mB me i) S (mc i)).2 ∧ (∀ v, v < 32 → mn9 v = (jn (mA me i) (mB me i) S (mc i)).1 v) ∧ u[q + 7]? = some (am 7, .inl (k0 0, 32, .inl (fun j => nI (mn9 j)))) ∧ kx_fr w0 u (fun j => j = q + 7)) (kx_B D (tyL k0) A) A) (cc := cX3_join) (maxL := 8) (ret := (some .int)) (by decide +kernel) (Nat.le_of_ble_eq_true rfl) ?_
  intro p e s m below meth c A ls hx hb hml hown hts hr hlocks hnm hN hK hP hD hS hA hl
  have hown : s.vm.findClass RX3 = some m.cls := hown
  have hl : lv_has ls 8 [(0, .ref (am 0)), (1, .int (nI i)), (2, .int (nI S))] := hl
  have hfr : kx_fr w0 w0 (fun j => j = q + 7) := kx_fr_rf _ _
  obtain ⟨hM0, hM1, hM2, hM3, hM4, hM5, hM6, hM7, hM8, hM9⟩ := id hM
  obtain ⟨hni, hvi, hoi, he2i, hw2i⟩ := hI i h8i
  refine lv_iconst (v := nI 0) hx hb dX3_join_0 (by decide +kernel) ?_
  refine lv_istore_n (lv' := [(3, .int (nI 0)), (0, .ref (am 0)), (1, .int (nI i)), (2, .int (nI S))]) hx hb dX3_join_1 rfl hl (by decide) rfl (fun ls hl => ?_)
  have loop_2 : ∀ (n2 : Nat) (v9 : Nat) (mn1 : Nat → Nat), (v9 ≤ 32) → (∀ v, v < v9 → mn1 v = v) → (33 ≤ v9 + n2) → ∀ (w1 : va_W), w1[q]? = some (am 0, .inr (3, [.ref (am 1), .ref (am 2), .ref (am 3), .ref (am 4), .ref (am 5), .ref (am 6), .int (nI mk), .ref (am 7), .ref (am 8), .ref (am 9)])) → w1[q + 1]? = some (am 1, .inl (k0 0, 8, .inl (fun y9 => nI (mv y9)))) → w1[q + 2]? = some (am 2, .inl (k0 0, 8, .inl (fun y9 => nI (mc y9)))) → w1[q + 3]? = some (am 3, .inl (k0 2, 8, .inl (fun y9 => nI (mo y9)))) → w1[q + 4]? = some (am 4, .inl (k0 0, 192, .inl (fun y9 => nI (me y9)))) → w1[q + 5]? = some (am 5, .inl (k0 0, 96, .inl mw)) → w1[q + 6]? = some (am 6, .inl (k0 0, 24, .inl (fun y9 => nI (mm y9)))) → w1[q + 7]? = some (am 7, .inl (k0 0, 32, .inl (fun y9 => nI (mn1 y9)))) → w1[q + 8]? = some (am 8, .inl (k0 3, 4096, .inl (fun y9 => nI (fb y9)))) → w1[q + 9]? = some (am 9, .inl (k0 3, 4096, .inl (fun y9 => nI (sb y9)))) → kx_fr w0 w1 (fun j => j = q + 7) → ∀ (H : Heap) (locs : List Loc), va_P D vwCl w1 H → va_D A w1 → va_S A s.heap H locs → ∀ (ls : Array Slot), lv_has ls 8 [(3, .int (nI v9)), (0, .ref (am 0)), (1, .int (nI i)), (2, .int (nI S))] → W p l e ({ frames := 0, cells := 0, slots := 0, locals := 0 } : Room) s m ([.ref (am 0), .int (nI i), .int (nI S)] : List Value).toArray below meth c H locs 0 0 (MQ below (va_Qi (fun (r : Int32) (u : va_W) => ∃ mn9 : Nat → Nat, r = nI (jn (mA me i) (mB me i) S (mc i)).2 ∧ (∀ v, v < 32 → mn9 v = (jn (mA me i) (mB me i) S (mc i)).1 v) ∧ u[q + 7]? = some (am 7, .inl (k0 0, 32, .inl (fun j => nI (mn9 j)))) ∧ kx_fr w0 u (fun j => j = q + 7)) (kx_B D (tyL k0) A) A) ([.ref (am 0), .int (nI i), .int (nI S)] : List Value).toArray s 0 0 A) (F0 m 2 ls []) := by
    intro n2
    induction n2 with
    | zero =>
      intro v9 mn1 hv9 hmn hme
      exact absurd hme (by omega)
    | succ n2 ih2 =>
      intro v9 mn1 hv9 hmn hme w1 F2_0 F2_1 F2_2 F2_3 F2_4 F2_5 F2_6 F2_7 F2_8 F2_9 hfr H locs hP hD hS ls hl
      refine lv_iload_n hx hb dX3_join_2 rfl (lv_at hl 0 rfl) ?_
      refine lv_bipush (v := nI 32) hx hb dX3_join_3 (by decide +kernel) ?_
      refine lv_icmp_ge (tgt := 21) hx hb dX3_join_5 (by decide) (fun c_5 => ?_) (fun c_5 => ?_)
      · skip
        have hik : v9 = 32 := by
          have := (nI_leI (by omega) (by omega)).mp c_5
          omega
        subst hik
        refine lv_iconst (v := nI 0) hx hb dX3_join_21 (by decide +kernel) ?_
        refine lv_istore_n (lv' := [(3, .int (nI 0)), (0, .ref (am 0)), (1, .int (nI i)), (2, .int (nI S))]) hx hb dX3_join_22 rfl hl (by decide) rfl (fun ls hl => ?_)
        refine lv_iconst (v := nI 0) hx hb dX3_join_23 (by decide +kernel) ?_
        refine lv_istore (lv' := [(4, .int (nI 0)), (3, .int (nI 0)), (0, .ref (am 0)), (1, .int (nI i)), (2, .int (nI S))]) hx hb dX3_join_24 hl (by decide) rfl (fun ls hl => ?_)
        have loop_26 : ∀ (n26 : Nat) (e9 : Nat) (mn1 : Nat → Nat), (e9 ≤ mc i) → (∀ v, v < 32 → mn1 v = (jn (mA me i) (mB me i) S e9).1 v) → (mc i + 1 ≤ e9 + n26) → ∀ (w2 : va_W), w2[q]? = some (am 0, .inr (3, [.ref (am 1), .ref (am 2), .ref (am 3), .ref (am 4), .ref (am 5), .ref (am 6), .int (nI mk), .ref (am 7), .ref (am 8), .ref (am 9)])) → w2[q + 1]? = some (am 1, .inl (k0 0, 8, .inl (fun y9 => nI (mv y9)))) → w2[q + 2]? = some (am 2, .inl (k0 0, 8, .inl (fun y9 => nI (mc y9)))) → w2[q + 3]? = some (am 3, .inl (k0 2, 8, .inl (fun y9 => nI (mo y9)))) → w2[q + 4]? = some (am 4, .inl (k0 0, 192, .inl (fun y9 => nI (me y9)))) → w2[q + 5]? = some (am 5, .inl (k0 0, 96, .inl mw)) → w2[q + 6]? = some (am 6, .inl (k0 0, 24, .inl (fun y9 => nI (mm y9)))) → w2[q + 7]? = some (am 7, .inl (k0 0, 32, .inl (fun y9 => nI (mn1 y9)))) → w2[q + 8]? = some (am 8, .inl (k0 3, 4096, .inl (fun y9 => nI (fb y9)))) → w2[q + 9]? = some (am 9, .inl (k0 3, 4096, .inl (fun y9 => nI (sb y9)))) → kx_fr w0 w2 (fun j => j = q + 7) → ∀ (H : Heap) (locs : List Loc), va_P D vwCl w2 H → va_D A w2 → va_S A s.heap H locs → ∀ (ls : Array Slot), lv_has ls 8 [(4, .int (nI e9)), (3, .int (nI ((jn (mA me i) (mB me i) S e9).2))), (0, .ref (am 0)), (1, .int (nI i)), (2, .int (nI S))] → W p l e ({ frames := 0, cells := 0, slots := 0, locals := 0 } : Room) s m ([.ref (am 0), .int (nI i), .int (nI S)] : List Value).toArray below meth c H locs 0 0 (MQ below (va_Qi (fun (r : Int32) (u : va_W) => ∃ mn9 : Nat → Nat, r = nI (jn (mA me i) (mB me i) S (mc i)).2 ∧ (∀ v, v < 32 → mn9 v = (jn (mA me i) (mB me i) S (mc i)).1 v) ∧ u[q + 7]? = some (am 7, .inl (k0 0, 32, .inl (fun j => nI (mn9 j)))) ∧ kx_fr w0 u (fun j => j = q + 7)) (kx_B D (tyL k0) A) A) ([.ref (am 0), .int (nI i), .int (nI S)] : List Value).toArray s 0 0 A) (F0 m 26 ls []) := by
          intro n26
          induction n26 with
          | zero =>
            intro e9 mn1 he hmn hme
            exact absurd hme (by omega)
          | succ n26 ih26 =>
            intro e9 mn1 he hmn hme w2 F26_0 F26_1 F26_2 F26_3 F26_4 F26_5 F26_6 F26_7 F26_8 F26_9 hfr H locs hP hD hS ls hl
            refine lv_iload hx hb dX3_join_26 (lv_at hl 0 rfl) ?_
            refine lv_aload_n hx hb dX3_join_28 rfl (lv_at hl 2 rfl) ?_
            refine va_get (D := D) (ci := 3) (v := .ref (am 2)) (C := RX3) (T := TX3) (N := 10) hx hb hts inX3 hown hK hP q F26_0 rfl 1 (by decide) (hts _ tw_251) (fun _ h9 => h9) rfl dX3_join_29 ?_
            refine lv_iload_n hx hb dX3_join_32 rfl (lv_at hl 3 rfl) ?_
            refine kx_nald hx hb hK hP (q + 2) F26_2 rfl (i := i) (by omega) (by decide) dX3_join_33 ?_
            refine lv_icmp_ge (tgt := 154) hx hb dX3_join_34 (by decide) (fun c_34 => ?_) (fun c_34 => ?_)
            · skip
              have hik : e9 = mc i := by
                have := (nI_leI (by omega) (by omega)).mp c_34
                omega
              refine lv_iload_n hx hb dX3_join_154 rfl (lv_at hl 1 rfl) ?_
              exact kx_iret (v := nI ((jn (mA me i) (mB me i) S e9).2)) hx hb hr rfl hlocks hK hP hD hS dX3_join_155 (by rw [hik]; exact ⟨mn1, rfl, by rw [← hik]; exact hmn, F26_7, hfr⟩)
            · skip
              have hik : e9 < mc i := by
                rcases Nat.lt_or_ge (e9) (mc i) with h | h
                · exact h
                · exact absurd ((nI_leI (by omega) (by omega)).mpr h) c_34
              have hj1 := jn_lt (A := mA me i) (B := mB me i) (S := S) (n := mc i) (k := 32) (fun e he => by have := he2i e he; unfold mA; omega) e9 he
              refine lv_aload_n hx hb dX3_join_37 rfl (lv_at hl 2 rfl) ?_
              refine va_get (D := D) (ci := 3) (v := .ref (am 7)) (C := RX3) (T := TX3) (N := 10) hx hb hts inX3 hown hK hP q F26_0 rfl 7 (by decide) (hts _ tw_257) (fun _ h9 => h9) rfl dX3_join_38 ?_
              refine lv_aload_n hx hb dX3_join_41 rfl (lv_at hl 2 rfl) ?_
              refine va_get (D := D) (ci := 3) (v := .ref (am 4)) (C := RX3) (T := TX3) (N := 10) hx hb hts inX3 hown hK hP q F26_0 rfl 3 (by decide) (hts _ tw_253) (fun _ h9 => h9) rfl dX3_join_42 ?_
              refine lv_bipush (v := nI 24) hx hb dX3_join_45 (by decide +kernel) ?_
              refine lv_iload_n hx hb dX3_join_47 rfl (lv_at hl 3 rfl) ?_
              refine lv_imul hx hb dX3_join_48 ?_
              refine lv_topi (fun z_1 ez_1 => ?_)
              have ez_1 : z_1 = nI (24 * i) := by rw [ez_1]; exact pk_mul _ _
              subst ez_1
              refine lv_iconst (v := nI 2) hx hb dX3_join_49 (by decide +kernel) ?_
              refine lv_iload hx hb dX3_join_50 (lv_at hl 0 rfl) ?_
              refine lv_imul hx hb dX3_join_52 ?_
              refine lv_topi (fun z_2 ez_2 => ?_)
              have ez_2 : z_2 = nI (2 * e9) := by rw [ez_2]; exact pk_mul _ _
              subst ez_2
              refine lv_iadd hx hb dX3_join_53 ?_
              refine lv_topi (fun z_3 ez_3 => ?_)
              have ez_3 : z_3 = nI (24 * i + 2 * e9) := by rw [ez_3]; exact nI_add _ _
              subst ez_3
              refine kx_nald hx hb hK hP (q + 4) F26_4 rfl (i := (24 * i + 2 * e9)) (by omega) (by decide) dX3_join_54 ?_
              refine kx_nald hx hb hK hP (q + 7) F26_7 rfl (i := (me (24 * i + 2 * e9))) (by have := he2i e9 hik; omega) (by decide) dX3_join_55 ?_
              refine lv_topi (fun z_4 ez_4 => ?_)
              have ez_4 : z_4 = nI ((jn (mA me i) (mB me i) S e9).1 (mA me i e9)) := by rw [ez_4]; rw [hmn _ (by have := he2i e9 hik; omega)]; rfl
              subst ez_4
              refine lv_istore (lv' := [(5, .int (nI ((jn (mA me i) (mB me i) S e9).1 (mA me i e9)))), (4, .int (nI e9)), (3, .int (nI ((jn (mA me i) (mB me i) S e9).2))), (0, .ref (am 0)), (1, .int (nI i)), (2, .int (nI S))]) hx hb dX3_join_56 hl (by decide) rfl (fun ls hl => ?_)
              refine lv_aload_n hx hb dX3_join_58 rfl (lv_at hl 3 rfl) ?_
              refine va_get (D := D) (ci := 3) (v := .ref (am 7)) (C := RX3) (T := TX3) (N := 10) hx hb hts inX3 hown hK hP q F26_0 rfl 7 (by decide) (hts _ tw_257) (fun _ h9 => h9) rfl dX3_join_59 ?_
              refine lv_aload_n hx hb dX3_join_62 rfl (lv_at hl 3 rfl) ?_
              refine va_get (D := D) (ci := 3) (v := .ref (am 4)) (C := RX3) (T := TX3) (N := 10) hx hb hts inX3 hown hK hP q F26_0 rfl 3 (by decide) (hts _ tw_253) (fun _ h9 => h9) rfl dX3_join_63 ?_
              refine lv_bipush (v := nI 24) hx hb dX3_join_66 (by decide +kernel) ?_
              refine lv_iload_n hx hb dX3_join_68 rfl (lv_at hl 4 rfl) ?_
              refine lv_imul hx hb dX3_join_69 ?_
              refine lv_topi (fun z_5 ez_5 => ?_)
              have ez_5 : z_5 = nI (24 * i) := by rw [ez_5]; exact pk_mul _ _
              subst ez_5
              refine lv_iconst (v := nI 2) hx hb dX3_join_70 (by decide +kernel) ?_
              refine lv_iload hx hb dX3_join_71 (lv_at hl 1 rfl) ?_
              refine lv_imul hx hb dX3_join_73 ?_
              refine lv_topi (fun z_6 ez_6 => ?_)
              have ez_6 : z_6 = nI (2 * e9) := by rw [ez_6]; exact pk_mul _ _
              subst ez_6
              refine lv_iadd hx hb dX3_join_74 ?_
              refine lv_topi (fun z_7 ez_7 => ?_)
              have ez_7 : z_7 = nI (24 * i + 2 * e9) := by rw [ez_7]; exact nI_add _ _
              subst ez_7
              refine lv_iconst (v := nI 1) hx hb dX3_join_75 (by decide +kernel) ?_
              refine lv_iadd hx hb dX3_join_76 ?_
              refine lv_topi (fun z_8 ez_8 => ?_)
              have ez_8 : z_8 = nI (24 * i + 2 * e9 + 1) := by rw [ez_8]; exact nI_add _ _
              subst ez_8
              refine kx_nald hx hb hK hP (q + 4) F26_4 rfl (i := (24 * i + 2 * e9 + 1)) (by omega) (by decide) dX3_join_77 ?_
              refine kx_nald hx hb hK hP (q + 7) F26_7 rfl (i := (me (24 * i + 2 * e9 + 1))) (by have := he2i e9 hik; omega) (by decide) dX3_join_78 ?_
              refine lv_topi (fun z_9 ez_9 => ?_)
              have ez_9 : z_9 = nI ((jn (mA me i) (mB me i) S e9).1 (mB me i e9)) := by rw [ez_9]; rw [hmn _ (by have := he2i e9 hik; omega)]; rfl
              subst ez_9
              refine lv_istore (lv' := [(6, .int (nI ((jn (mA me i) (mB me i) S e9).1 (mB me i e9)))), (5, .int (nI ((jn (mA me i) (mB me i) S e9).1 (mA me i e9)))), (4, .int (nI e9)), (3, .int (nI ((jn (mA me i) (mB me i) S e9).2))), (0, .ref (am 0)), (1, .int (nI i)), (2, .int (nI S))]) hx hb dX3_join_79 hl (by decide) rfl (fun ls hl => ?_)
              refine lv_iload_n hx hb dX3_join_81 rfl (lv_at hl 6 rfl) ?_
              refine lv_iload hx hb dX3_join_82 (lv_at hl 2 rfl) ?_
              refine lv_ishr hx hb dX3_join_84 ?_
              refine lv_iconst (v := 1) hx hb dX3_join_85 (by decide +kernel) ?_
              refine lv_iand hx hb dX3_join_86 ?_
              refine lv_topi (fun z_10 ez_10 => ?_)
              have ez_10 : z_10 = nI (if S.testBit e9 = true then 1 else 0) := by rw [ez_10]; exact kb_has hSb (by omega)
              subst ez_10
              refine lv_iconst (v := 1) hx hb dX3_join_87 (by decide +kernel) ?_
              refine lv_icmp_ne (tgt := 148) hx hb dX3_join_88 (by decide) (fun c_88 => ?_) (fun c_88 => ?_)
              · skip
                have ej : (jn (mA me i) (mB me i) S (e9 + 1)) = (jn (mA me i) (mB me i) S e9) := jn_no (fun h => c_88 ((kb_bit1 _).mpr h.1))
                have e3 : (jn (mA me i) (mB me i) S e9).2 = (jn (mA me i) (mB me i) S (e9 + 1)).2 := by rw [ej]
                rw [e3] at hl
                refine lv_iinc (v := nI (e9 + 1)) (lv' := [(4, .int (nI (e9 + 1))), (6, .int (nI ((jn (mA me i) (mB me i) S e9).1 (mB me i e9)))), (5, .int (nI ((jn (mA me i) (mB me i) S e9).1 (mA me i e9)))), (3, .int (nI ((jn (mA me i) (mB me i) S (e9 + 1)).2))), (0, .ref (am 0)), (1, .int (nI i)), (2, .int (nI S))]) hx hb dX3_join_148 hl (k := 2) rfl (nI_1 _) (by decide) rfl (fun ls hl => ?_)
                refine lv_goto (tgt := 26) hx hb dX3_join_151 (by decide) ?_
                exact ih26 (e9 + 1) mn1 (by omega) (fun v hv => by rw [ej]; exact hmn v hv) (by omega) w2 F26_0 F26_1 F26_2 F26_3 F26_4 F26_5 F26_6 F26_7 F26_8 F26_9 hfr _ _ hP hD hS _ (lv_sub hl [0, 3, 4, 5, 6] rfl)
              · skip
                have hS1 : S.testBit e9 = true := (kb_bit1 _).mp c_88
                have ha32 := hj1 (mA me i e9) (by have := he2i e9 hik; unfold mA; omega)
                have hb32 := hj1 (mB me i e9) (by have := he2i e9 hik; unfold mB; omega)
                refine lv_iload hx hb dX3_join_91 (lv_at hl 1 rfl) ?_
                refine lv_iload hx hb dX3_join_93 (lv_at hl 0 rfl) ?_
                refine lv_icmp_eq (tgt := 148) hx hb dX3_join_95 (by decide) (fun c_95 => ?_) (fun c_95 => ?_)
                · skip
                  have ej : (jn (mA me i) (mB me i) S (e9 + 1)) = (jn (mA me i) (mB me i) S e9) := jn_no (fun h => h.2 ((nI_eq (by omega) (by omega)).mp c_95))
                  have e3 : (jn (mA me i) (mB me i) S e9).2 = (jn (mA me i) (mB me i) S (e9 + 1)).2 := by rw [ej]
                  rw [e3] at hl
                  refine lv_iinc (v := nI (e9 + 1)) (lv' := [(4, .int (nI (e9 + 1))), (6, .int (nI ((jn (mA me i) (mB me i) S e9).1 (mB me i e9)))), (5, .int (nI ((jn (mA me i) (mB me i) S e9).1 (mA me i e9)))), (3, .int (nI ((jn (mA me i) (mB me i) S (e9 + 1)).2))), (0, .ref (am 0)), (1, .int (nI i)), (2, .int (nI S))]) hx hb dX3_join_148 hl (k := 2) rfl (nI_1 _) (by decide) rfl (fun ls hl => ?_)
                  refine lv_goto (tgt := 26) hx hb dX3_join_151 (by decide) ?_
                  exact ih26 (e9 + 1) mn1 (by omega) (fun v hv => by rw [ej]; exact hmn v hv) (by omega) w2 F26_0 F26_1 F26_2 F26_3 F26_4 F26_5 F26_6 F26_7 F26_8 F26_9 hfr _ _ hP hD hS _ (lv_sub hl [0, 3, 4, 5, 6] rfl)
                · skip
                  have hab : ((jn (mA me i) (mB me i) S e9).1 (mA me i e9)) ≠ ((jn (mA me i) (mB me i) S e9).1 (mB me i e9)) := fun h => c_95 (by rw [h])
                  refine lv_iinc (v := nI ((jn (mA me i) (mB me i) S e9).2 + 1)) (lv' := [(3, .int (nI ((jn (mA me i) (mB me i) S e9).2 + 1))), (6, .int (nI ((jn (mA me i) (mB me i) S e9).1 (mB me i e9)))), (5, .int (nI ((jn (mA me i) (mB me i) S e9).1 (mA me i e9)))), (4, .int (nI e9)), (0, .ref (am 0)), (1, .int (nI i)), (2, .int (nI S))]) hx hb dX3_join_98 hl (k := 3) rfl (nI_1 _) (by decide) rfl (fun ls hl => ?_)
                  refine lv_iconst (v := nI 0) hx hb dX3_join_101 (by decide +kernel) ?_
                  refine lv_istore (lv' := [(7, .int (nI 0)), (3, .int (nI ((jn (mA me i) (mB me i) S e9).2 + 1))), (6, .int (nI ((jn (mA me i) (mB me i) S e9).1 (mB me i e9)))), (5, .int (nI ((jn (mA me i) (mB me i) S e9).1 (mA me i e9)))), (4, .int (nI e9)), (0, .ref (am 0)), (1, .int (nI i)), (2, .int (nI S))]) hx hb dX3_join_102 hl (by decide) rfl (fun ls hl => ?_)
                  have loop_104 : ∀ (n104 : Nat) (v9 : Nat) (mn2 : Nat → Nat), (v9 ≤ 32) → (∀ v, v < v9 → mn2 v = (if (jn (mA me i) (mB me i) S e9).1 v = ((jn (mA me i) (mB me i) S e9).1 (mB me i e9)) then ((jn (mA me i) (mB me i) S e9).1 (mA me i e9)) else (jn (mA me i) (mB me i) S e9).1 v)) → (∀ v, v9 ≤ v → v < 32 → mn2 v = (jn (mA me i) (mB me i) S e9).1 v) → (33 ≤ v9 + n104) → ∀ (w3 : va_W), w3[q]? = some (am 0, .inr (3, [.ref (am 1), .ref (am 2), .ref (am 3), .ref (am 4), .ref (am 5), .ref (am 6), .int (nI mk), .ref (am 7), .ref (am 8), .ref (am 9)])) → w3[q + 1]? = some (am 1, .inl (k0 0, 8, .inl (fun y9 => nI (mv y9)))) → w3[q + 2]? = some (am 2, .inl (k0 0, 8, .inl (fun y9 => nI (mc y9)))) → w3[q + 3]? = some (am 3, .inl (k0 2, 8, .inl (fun y9 => nI (mo y9)))) → w3[q + 4]? = some (am 4, .inl (k0 0, 192, .inl (fun y9 => nI (me y9)))) → w3[q + 5]? = some (am 5, .inl (k0 0, 96, .inl mw)) → w3[q + 6]? = some (am 6, .inl (k0 0, 24, .inl (fun y9 => nI (mm y9)))) → w3[q + 7]? = some (am 7, .inl (k0 0, 32, .inl (fun y9 => nI (mn2 y9)))) → w3[q + 8]? = some (am 8, .inl (k0 3, 4096, .inl (fun y9 => nI (fb y9)))) → w3[q + 9]? = some (am 9, .inl (k0 3, 4096, .inl (fun y9 => nI (sb y9)))) → kx_fr w0 w3 (fun j => j = q + 7) → ∀ (H : Heap) (locs : List Loc), va_P D vwCl w3 H → va_D A w3 → va_S A s.heap H locs → ∀ (ls : Array Slot), lv_has ls 8 [(7, .int (nI v9)), (3, .int (nI ((jn (mA me i) (mB me i) S e9).2 + 1))), (6, .int (nI ((jn (mA me i) (mB me i) S e9).1 (mB me i e9)))), (5, .int (nI ((jn (mA me i) (mB me i) S e9).1 (mA me i e9)))), (4, .int (nI e9)), (0, .ref (am 0)), (1, .int (nI i)), (2, .int (nI S))] → W p l e ({ frames := 0, cells := 0, slots := 0, locals := 0 } : Room) s m ([.ref (am 0), .int (nI i), .int (nI S)] : List Value).toArray below meth c H locs 0 0 (MQ below (va_Qi (fun (r : Int32) (u : va_W) => ∃ mn9 : Nat → Nat, r = nI (jn (mA me i) (mB me i) S (mc i)).2 ∧ (∀ v, v < 32 → mn9 v = (jn (mA me i) (mB me i) S (mc i)).1 v) ∧ u[q + 7]? = some (am 7, .inl (k0 0, 32, .inl (fun j => nI (mn9 j)))) ∧ kx_fr w0 u (fun j => j = q + 7)) (kx_B D (tyL k0) A) A) ([.ref (am 0), .int (nI i), .int (nI S)] : List Value).toArray s 0 0 A) (F0 m 104 ls []) := by
                    intro n104
                    induction n104 with
                    | zero =>
                      intro v9 mn2 hv9 hm2 hm3 hme
                      exact absurd hme (by omega)
                    | succ n104 ih104 =>
                      intro v9 mn2 hv9 hm2 hm3 hme w3 F104_0 F104_1 F104_2 F104_3 F104_4 F104_5 F104_6 F104_7 F104_8 F104_9 hfr H locs hP hD hS ls hl
                      refine lv_iload hx hb dX3_join_104 (lv_at hl 0 rfl) ?_
                      refine lv_bipush (v := nI 32) hx hb dX3_join_106 (by decide +kernel) ?_
                      refine lv_icmp_ge (tgt := 148) hx hb dX3_join_108 (by decide) (fun c_108 => ?_) (fun c_108 => ?_)
                      · skip
                        have hv32 : v9 = 32 := by
                          have := (nI_leI (by omega) (by omega)).mp c_108
                          omega
                        have ej := jn_yes hS1 hab
                        have e3 : ((jn (mA me i) (mB me i) S e9).2 + 1) = (jn (mA me i) (mB me i) S (e9 + 1)).2 := by rw [ej]
                        rw [e3] at hl
                        refine lv_iinc (v := nI (e9 + 1)) (lv' := [(4, .int (nI (e9 + 1))), (7, .int (nI v9)), (3, .int (nI ((jn (mA me i) (mB me i) S (e9 + 1)).2))), (6, .int (nI ((jn (mA me i) (mB me i) S e9).1 (mB me i e9)))), (5, .int (nI ((jn (mA me i) (mB me i) S e9).1 (mA me i e9)))), (0, .ref (am 0)), (1, .int (nI i)), (2, .int (nI S))]) hx hb dX3_join_148 hl (k := 4) rfl (nI_1 _) (by decide) rfl (fun ls hl => ?_)
                        refine lv_goto (tgt := 26) hx hb dX3_join_151 (by decide) ?_
                        exact ih26 (e9 + 1) mn2 (by omega) (fun v hv => by rw [ej]; exact hm2 v (by omega)) (by omega) w3 F104_0 F104_1 F104_2 F104_3 F104_4 F104_5 F104_6 F104_7 F104_8 F104_9 hfr _ _ hP hD hS _ (lv_sub hl [0, 2, 5, 6, 7] rfl)
                      · skip
                        have hik : v9 < 32 := by
                          rcases Nat.lt_or_ge (v9) (32) with h | h
                          · exact h
                          · exact absurd ((nI_leI (by omega) (by omega)).mpr h) c_108
                        have hx32 := hj1 v9 hik
                        refine lv_aload_n hx hb dX3_join_111 rfl (lv_at hl 5 rfl) ?_
                        refine va_get (D := D) (ci := 3) (v := .ref (am 7)) (C := RX3) (T := TX3) (N := 10) hx hb hts inX3 hown hK hP q F104_0 rfl 7 (by decide) (hts _ tw_257) (fun _ h9 => h9) rfl dX3_join_112 ?_
                        refine lv_iload hx hb dX3_join_115 (lv_at hl 0 rfl) ?_
                        refine lv_aload_n hx hb dX3_join_117 rfl (lv_at hl 5 rfl) ?_
                        refine va_get (D := D) (ci := 3) (v := .ref (am 7)) (C := RX3) (T := TX3) (N := 10) hx hb hts inX3 hown hK hP q F104_0 rfl 7 (by decide) (hts _ tw_257) (fun _ h9 => h9) rfl dX3_join_118 ?_
                        refine lv_iload hx hb dX3_join_121 (lv_at hl 0 rfl) ?_
                        refine kx_nald hx hb hK hP (q + 7) F104_7 rfl (i := v9) (by omega) (by decide) dX3_join_123 ?_
                        refine lv_iload hx hb dX3_join_124 (lv_at hl 2 rfl) ?_
                        refine lv_icmp_ne (tgt := 134) hx hb dX3_join_126 (by decide) (fun c_126 => ?_) (fun c_126 => ?_)
                        · skip
                          have hz9 : (if (jn (mA me i) (mB me i) S e9).1 v9 = ((jn (mA me i) (mB me i) S e9).1 (mB me i e9)) then ((jn (mA me i) (mB me i) S e9).1 (mA me i e9)) else (jn (mA me i) (mB me i) S e9).1 v9) = (jn (mA me i) (mB me i) S e9).1 v9 := by
                            rw [if_neg]
                            intro h
                            exact c_126 (by rw [hm3 v9 (Nat.le_refl _) hik, h])
                          refine lv_aload_n hx hb dX3_join_134 rfl (lv_at hl 5 rfl) ?_
                          refine va_get (D := D) (ci := 3) (v := .ref (am 7)) (C := RX3) (T := TX3) (N := 10) hx hb hts inX3 hown hK hP q F104_0 rfl 7 (by decide) (hts _ tw_257) (fun _ h9 => h9) rfl dX3_join_135 ?_
                          refine lv_iload hx hb dX3_join_138 (lv_at hl 0 rfl) ?_
                          refine kx_nald hx hb hK hP (q + 7) F104_7 rfl (i := v9) (by omega) (by decide) dX3_join_140 ?_
                          refine lv_topi (fun z_11 ez_11 => ?_)
                          have ez_11 : z_11 = nI ((jn (mA me i) (mB me i) S e9).1 v9) := by rw [ez_11]; rw [hm3 v9 (Nat.le_refl _) hik]
                          subst ez_11
                          refine kx_nast hx hb hK hP hD hS (q + 7) F104_7 rfl (i := v9) (x := ((jn (mA me i) (mB me i) S e9).1 v9)) (by omega) (by decide) dX3_join_141 (fun H locs hP hD hS => ?_)
                          obtain ⟨w_12, ew_12⟩ : ∃ w, w = w3.set (q + 7) (am 7, .inl (k0 0, 32, .inl (fun y9 => nI ((fo_up mn2 v9 ((jn (mA me i) (mB me i) S e9).1 v9)) y9)))) := ⟨_, rfl⟩
                          have hP : va_P D vwCl w_12 H := by rw [ew_12]; exact hP
                          have hD : va_D A w_12 := by rw [ew_12]; exact hD
                          have f_13 : w_12[q]? = some (am 0, .inr (3, [.ref (am 1), .ref (am 2), .ref (am 3), .ref (am 4), .ref (am 5), .ref (am 6), .int (nI mk), .ref (am 7), .ref (am 8), .ref (am 9)])) := by rw [ew_12]; exact kx_set_ne F104_0 (by omega)
                          have f_14 : w_12[q + 1]? = some (am 1, .inl (k0 0, 8, .inl (fun y9 => nI (mv y9)))) := by rw [ew_12]; exact kx_set_ne F104_1 (by omega)
                          have f_15 : w_12[q + 2]? = some (am 2, .inl (k0 0, 8, .inl (fun y9 => nI (mc y9)))) := by rw [ew_12]; exact kx_set_ne F104_2 (by omega)
                          have f_16 : w_12[q + 3]? = some (am 3, .inl (k0 2, 8, .inl (fun y9 => nI (mo y9)))) := by rw [ew_12]; exact kx_set_ne F104_3 (by omega)
                          have f_17 : w_12[q + 4]? = some (am 4, .inl (k0 0, 192, .inl (fun y9 => nI (me y9)))) := by rw [ew_12]; exact kx_set_ne F104_4 (by omega)
                          have f_18 : w_12[q + 5]? = some (am 5, .inl (k0 0, 96, .inl mw)) := by rw [ew_12]; exact kx_set_ne F104_5 (by omega)
                          have f_19 : w_12[q + 6]? = some (am 6, .inl (k0 0, 24, .inl (fun y9 => nI (mm y9)))) := by rw [ew_12]; exact kx_set_ne F104_6 (by omega)
                          have f_20 : w_12[q + 7]? = some (am 7, .inl (k0 0, 32, .inl (fun y9 => nI ((fo_up mn2 v9 ((jn (mA me i) (mB me i) S e9).1 v9)) y9)))) := by rw [ew_12]; exact kx_set_self F104_7
                          have f_21 : w_12[q + 8]? = some (am 8, .inl (k0 3, 4096, .inl (fun y9 => nI (fb y9)))) := by rw [ew_12]; exact kx_set_ne F104_8 (by omega)
                          have f_22 : w_12[q + 9]? = some (am 9, .inl (k0 3, 4096, .inl (fun y9 => nI (sb y9)))) := by rw [ew_12]; exact kx_set_ne F104_9 (by omega)
                          have hfr : kx_fr w0 w_12 (fun j => j = q + 7) := kx_fr_tr hfr (by rw [ew_12]; exact kx_fr_set (by omega))
                          refine lv_iinc (v := nI (v9 + 1)) (lv' := [(7, .int (nI (v9 + 1))), (3, .int (nI ((jn (mA me i) (mB me i) S e9).2 + 1))), (6, .int (nI ((jn (mA me i) (mB me i) S e9).1 (mB me i e9)))), (5, .int (nI ((jn (mA me i) (mB me i) S e9).1 (mA me i e9)))), (4, .int (nI e9)), (0, .ref (am 0)), (1, .int (nI i)), (2, .int (nI S))]) hx hb dX3_join_142 hl (k := 0) rfl (nI_1 _) (by decide) rfl (fun ls hl => ?_)
                          refine lv_goto (tgt := 104) hx hb dX3_join_145 (by decide) ?_
                          exact ih104 (v9 + 1) (fo_up mn2 v9 ((jn (mA me i) (mB me i) S e9).1 v9)) (by omega) (fun v h => by
                              rcases Nat.lt_or_ge v v9 with h2 | h2
                              · rw [fo_up_lt _ _ h2]; exact hm2 v h2
                              · rw [show v = v9 by omega, fo_up_self, hz9]) (fun v h h2 => by
                              have h3 : ¬ v = v9 := by omega
                              simp only [fo_up, if_neg h3]; exact hm3 v (by omega) h2) (by omega) w_12 f_13 f_14 f_15 f_16 f_17 f_18 f_19 f_20 f_21 f_22 hfr _ _ hP hD hS _ (lv_sub hl [0, 1, 2, 3, 4, 5, 6, 7] rfl)
                        · skip
                          have hz9 : (if (jn (mA me i) (mB me i) S e9).1 v9 = ((jn (mA me i) (mB me i) S e9).1 (mB me i e9)) then ((jn (mA me i) (mB me i) S e9).1 (mA me i e9)) else (jn (mA me i) (mB me i) S e9).1 v9) = ((jn (mA me i) (mB me i) S e9).1 (mA me i e9)) := by
                            rw [if_pos]
                            have h126 := c_126
                            rw [hm3 v9 (Nat.le_refl _) hik] at h126
                            exact (nI_eq (by omega) (by omega)).mp h126
                          refine lv_iload hx hb dX3_join_129 (lv_at hl 3 rfl) ?_
                          refine lv_goto (tgt := 141) hx hb dX3_join_131 (by decide) ?_
                          refine kx_nast hx hb hK hP hD hS (q + 7) F104_7 rfl (i := v9) (x := ((jn (mA me i) (mB me i) S e9).1 (mA me i e9))) (by omega) (by decide) dX3_join_141 (fun H locs hP hD hS => ?_)
                          obtain ⟨w_23, ew_23⟩ : ∃ w, w = w3.set (q + 7) (am 7, .inl (k0 0, 32, .inl (fun y9 => nI ((fo_up mn2 v9 ((jn (mA me i) (mB me i) S e9).1 (mA me i e9))) y9)))) := ⟨_, rfl⟩
                          have hP : va_P D vwCl w_23 H := by rw [ew_23]; exact hP
                          have hD : va_D A w_23 := by rw [ew_23]; exact hD
                          have f_24 : w_23[q]? = some (am 0, .inr (3, [.ref (am 1), .ref (am 2), .ref (am 3), .ref (am 4), .ref (am 5), .ref (am 6), .int (nI mk), .ref (am 7), .ref (am 8), .ref (am 9)])) := by rw [ew_23]; exact kx_set_ne F104_0 (by omega)
                          have f_25 : w_23[q + 1]? = some (am 1, .inl (k0 0, 8, .inl (fun y9 => nI (mv y9)))) := by rw [ew_23]; exact kx_set_ne F104_1 (by omega)
                          have f_26 : w_23[q + 2]? = some (am 2, .inl (k0 0, 8, .inl (fun y9 => nI (mc y9)))) := by rw [ew_23]; exact kx_set_ne F104_2 (by omega)
                          have f_27 : w_23[q + 3]? = some (am 3, .inl (k0 2, 8, .inl (fun y9 => nI (mo y9)))) := by rw [ew_23]; exact kx_set_ne F104_3 (by omega)
                          have f_28 : w_23[q + 4]? = some (am 4, .inl (k0 0, 192, .inl (fun y9 => nI (me y9)))) := by rw [ew_23]; exact kx_set_ne F104_4 (by omega)
                          have f_29 : w_23[q + 5]? = some (am 5, .inl (k0 0, 96, .inl mw)) := by rw [ew_23]; exact kx_set_ne F104_5 (by omega)
                          have f_30 : w_23[q + 6]? = some (am 6, .inl (k0 0, 24, .inl (fun y9 => nI (mm y9)))) := by rw [ew_23]; exact kx_set_ne F104_6 (by omega)
                          have f_31 : w_23[q + 7]? = some (am 7, .inl (k0 0, 32, .inl (fun y9 => nI ((fo_up mn2 v9 ((jn (mA me i) (mB me i) S e9).1 (mA me i e9))) y9)))) := by rw [ew_23]; exact kx_set_self F104_7
                          have f_32 : w_23[q + 8]? = some (am 8, .inl (k0 3, 4096, .inl (fun y9 => nI (fb y9)))) := by rw [ew_23]; exact kx_set_ne F104_8 (by omega)
                          have f_33 : w_23[q + 9]? = some (am 9, .inl (k0 3, 4096, .inl (fun y9 => nI (sb y9)))) := by rw [ew_23]; exact kx_set_ne F104_9 (by omega)
                          have hfr : kx_fr w0 w_23 (fun j => j = q + 7) := kx_fr_tr hfr (by rw [ew_23]; exact kx_fr_set (by omega))
                          refine lv_iinc (v := nI (v9 + 1)) (lv' := [(7, .int (nI (v9 + 1))), (3, .int (nI ((jn (mA me i) (mB me i) S e9).2 + 1))), (6, .int (nI ((jn (mA me i) (mB me i) S e9).1 (mB me i e9)))), (5, .int (nI ((jn (mA me i) (mB me i) S e9).1 (mA me i e9)))), (4, .int (nI e9)), (0, .ref (am 0)), (1, .int (nI i)), (2, .int (nI S))]) hx hb dX3_join_142 hl (k := 0) rfl (nI_1 _) (by decide) rfl (fun ls hl => ?_)
                          refine lv_goto (tgt := 104) hx hb dX3_join_145 (by decide) ?_
                          exact ih104 (v9 + 1) (fo_up mn2 v9 ((jn (mA me i) (mB me i) S e9).1 (mA me i e9))) (by omega) (fun v h => by
                              rcases Nat.lt_or_ge v v9 with h2 | h2
                              · rw [fo_up_lt _ _ h2]; exact hm2 v h2
                              · rw [show v = v9 by omega, fo_up_self, hz9]) (fun v h h2 => by
                              have h3 : ¬ v = v9 := by omega
                              simp only [fo_up, if_neg h3]; exact hm3 v (by omega) h2) (by omega) w_23 f_24 f_25 f_26 f_27 f_28 f_29 f_30 f_31 f_32 f_33 hfr _ _ hP hD hS _ (lv_sub hl [0, 1, 2, 3, 4, 5, 6, 7] rfl)
                  exact loop_104 (33) 0 mn1 (by omega) (fun v h => absurd h (Nat.not_lt_zero v)) (fun v _ h => hmn v h) (by omega) w2 F26_0 F26_1 F26_2 F26_3 F26_4 F26_5 F26_6 F26_7 F26_8 F26_9 hfr _ _ hP hD hS _ (lv_sub hl [0, 1, 2, 3, 4, 5, 6, 7] rfl)
        exact loop_26 (mc i + 1) 0 mn1 (Nat.zero_le _) (fun v hv => hmn v hv) (by omega) w1 F2_0 F2_1 F2_2 F2_3 F2_4 F2_5 F2_6 F2_7 F2_8 F2_9 hfr _ _ hP hD hS _ (lv_sub hl [0, 1, 2, 3, 4] rfl)
      · skip
        have hik : v9 < 32 := by
          rcases Nat.lt_or_ge (v9) (32) with h | h
          · exact h
          · exact absurd ((nI_leI (by omega) (by omega)).mpr h) c_5
        refine lv_aload_n hx hb dX3_join_8 rfl (lv_at hl 1 rfl) ?_
        refine va_get (D := D) (ci := 3) (v := .ref (am 7)) (C := RX3) (T := TX3) (N := 10) hx hb hts inX3 hown hK hP q F2_0 rfl 7 (by decide) (hts _ tw_257) (fun _ h9 => h9) rfl dX3_join_9 ?_
        refine lv_iload_n hx hb dX3_join_12 rfl (lv_at hl 0 rfl) ?_
        refine lv_iload_n hx hb dX3_join_13 rfl (lv_at hl 0 rfl) ?_
        refine kx_nast hx hb hK hP hD hS (q + 7) F2_7 rfl (i := v9) (x := v9) (by omega) (by decide) dX3_join_14 (fun H locs hP hD hS => ?_)
        obtain ⟨w_34, ew_34⟩ : ∃ w, w = w1.set (q + 7) (am 7, .inl (k0 0, 32, .inl (fun y9 => nI ((fo_up mn1 v9 v9) y9)))) := ⟨_, rfl⟩
        have hP : va_P D vwCl w_34 H := by rw [ew_34]; exact hP
        have hD : va_D A w_34 := by rw [ew_34]; exact hD
        have f_35 : w_34[q]? = some (am 0, .inr (3, [.ref (am 1), .ref (am 2), .ref (am 3), .ref (am 4), .ref (am 5), .ref (am 6), .int (nI mk), .ref (am 7), .ref (am 8), .ref (am 9)])) := by rw [ew_34]; exact kx_set_ne F2_0 (by omega)
        have f_36 : w_34[q + 1]? = some (am 1, .inl (k0 0, 8, .inl (fun y9 => nI (mv y9)))) := by rw [ew_34]; exact kx_set_ne F2_1 (by omega)
        have f_37 : w_34[q + 2]? = some (am 2, .inl (k0 0, 8, .inl (fun y9 => nI (mc y9)))) := by rw [ew_34]; exact kx_set_ne F2_2 (by omega)
        have f_38 : w_34[q + 3]? = some (am 3, .inl (k0 2, 8, .inl (fun y9 => nI (mo y9)))) := by rw [ew_34]; exact kx_set_ne F2_3 (by omega)
        have f_39 : w_34[q + 4]? = some (am 4, .inl (k0 0, 192, .inl (fun y9 => nI (me y9)))) := by rw [ew_34]; exact kx_set_ne F2_4 (by omega)
        have f_40 : w_34[q + 5]? = some (am 5, .inl (k0 0, 96, .inl mw)) := by rw [ew_34]; exact kx_set_ne F2_5 (by omega)
        have f_41 : w_34[q + 6]? = some (am 6, .inl (k0 0, 24, .inl (fun y9 => nI (mm y9)))) := by rw [ew_34]; exact kx_set_ne F2_6 (by omega)
        have f_42 : w_34[q + 7]? = some (am 7, .inl (k0 0, 32, .inl (fun y9 => nI ((fo_up mn1 v9 v9) y9)))) := by rw [ew_34]; exact kx_set_self F2_7
        have f_43 : w_34[q + 8]? = some (am 8, .inl (k0 3, 4096, .inl (fun y9 => nI (fb y9)))) := by rw [ew_34]; exact kx_set_ne F2_8 (by omega)
        have f_44 : w_34[q + 9]? = some (am 9, .inl (k0 3, 4096, .inl (fun y9 => nI (sb y9)))) := by rw [ew_34]; exact kx_set_ne F2_9 (by omega)
        have hfr : kx_fr w0 w_34 (fun j => j = q + 7) := kx_fr_tr hfr (by rw [ew_34]; exact kx_fr_set (by omega))
        refine lv_iinc (v := nI (v9 + 1)) (lv' := [(3, .int (nI (v9 + 1))), (0, .ref (am 0)), (1, .int (nI i)), (2, .int (nI S))]) hx hb dX3_join_15 hl (k := 0) rfl (nI_1 _) (by decide) rfl (fun ls hl => ?_)
        refine lv_goto (tgt := 2) hx hb dX3_join_18 (by decide) ?_
        exact ih2 (v9 + 1) (fo_up mn1 v9 v9) (by omega) (fun v h => by
            rcases Nat.lt_or_ge v v9 with h2 | h2
            · rw [fo_up_lt _ _ h2]; exact hmn v h2
            · rw [show v = v9 by omega, fo_up_self]) (by omega) w_34 f_35 f_36 f_37 f_38 f_39 f_40 f_41 f_42 f_43 f_44 hfr _ _ hP hD hS _ (lv_sub hl [0, 1, 2, 3] rfl)
  exact loop_2 (33) 0 mn (by omega) (fun v h => absurd h (Nat.not_lt_zero v)) (by omega) w0 hM0 hM1 hM2 hM3 hM4 hM5 hM6 hM7 hM8 hM9 hfr _ _ hP hD hS _ (lv_sub hl [0, 1, 2, 3] rfl)
end
