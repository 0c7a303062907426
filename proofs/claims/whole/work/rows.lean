section
/-! SETS OF EDGES AS MASKS -/
def cf_card : Nat → Nat → Nat
  | 0, _ => 0
  | n + 1, S => cf_card n S + (if S.testBit n = true then 1 else 0)
def cf_sub (T S : Nat) : Prop := ∀ i, T.testBit i = true → S.testBit i = true
def cf_diff (S T : Nat) : Nat := S ^^^ (S &&& T)
def cf_full (n : Nat) : Nat := 2 ^ n - 1
theorem cf_diff_bit (S T i : Nat) : (cf_diff S T).testBit i = (S.testBit i && !T.testBit i) := by
  simp only [cf_diff, Nat.testBit_xor, Nat.testBit_and]
  cases S.testBit i <;> cases T.testBit i <;> rfl
theorem cf_full_bit (n i : Nat) : (cf_full n).testBit i = decide (i < n) := Nat.testBit_two_pow_sub_one n i
theorem cf_one_bit (e i : Nat) : (2 ^ e).testBit i = decide (e = i) := Nat.testBit_two_pow
theorem cf_add_bit (S e i : Nat) : (S ||| 2 ^ e).testBit i = (S.testBit i || decide (e = i)) := by
  rw [Nat.testBit_or, cf_one_bit]
theorem cf_card_congr {n S T : Nat} (h : ∀ i, i < n → S.testBit i = T.testBit i) : cf_card n S = cf_card n T := by
  induction n with
  | zero => rfl
  | succ n ih => simp only [cf_card]; rw [ih (fun i hi => h i (by omega)), h n (by omega)]
theorem cf_card_mono {n S T : Nat} (h : ∀ i, i < n → S.testBit i = true → T.testBit i = true) : cf_card n S ≤ cf_card n T := by
  induction n with
  | zero => exact Nat.le_refl _
  | succ n ih =>
    simp only [cf_card]
    have h1 := ih (fun i hi => h i (by omega))
    by_cases c : S.testBit n = true
    · rw [if_pos c, if_pos (h n (by omega) c)]; omega
    · rw [if_neg c]; split <;> omega
theorem cf_card_0 (n : Nat) : cf_card n 0 = 0 := by
  induction n with
  | zero => rfl
  | succ n ih => simp [cf_card, ih]
theorem cf_card_le (n S : Nat) : cf_card n S ≤ n := by
  induction n with
  | zero => exact Nat.le_refl _
  | succ n ih => simp only [cf_card]; split <;> omega
theorem cf_card_ui (n S T : Nat) : cf_card n (S ||| T) + cf_card n (S &&& T) = cf_card n S + cf_card n T := by
  induction n with
  | zero => rfl
  | succ n ih =>
    simp only [cf_card, Nat.testBit_or, Nat.testBit_and]
    cases S.testBit n <;> cases T.testBit n <;> simp <;> omega
theorem cf_card_none {n S : Nat} (h : ∀ i, i < n → S.testBit i = false) : cf_card n S = 0 := by
  rw [cf_card_congr (T := 0) (fun i hi => by rw [h i hi, Nat.zero_testBit]), cf_card_0]
theorem cf_card_one {n e : Nat} (he : e < n) : cf_card n (2 ^ e) = 1 := by
  induction n with
  | zero => omega
  | succ n ih =>
    simp only [cf_card, cf_one_bit]
    by_cases c : e = n
    · subst c
      rw [cf_card_none (fun i hi => by rw [cf_one_bit]; exact decide_eq_false (by omega))]; simp
    · rw [ih (by omega)]; simp [c]
theorem cf_card_add {n S e : Nat} (he : e < n) (hs : S.testBit e = false) : cf_card n (S ||| 2 ^ e) = cf_card n S + 1 := by
  have h := cf_card_ui n S (2 ^ e)
  rw [cf_card_one he, cf_card_none (S := S &&& 2 ^ e) (fun i _ => ?_)] at h
  · omega
  · rw [Nat.testBit_and, cf_one_bit]
    by_cases c : e = i
    · subst c; rw [hs]; rfl
    · simp [c]
theorem cf_card_addle (n S e : Nat) : cf_card n (S ||| 2 ^ e) ≤ cf_card n S + 1 := by
  by_cases he : e < n
  · have h := cf_card_ui n S (2 ^ e)
    rw [cf_card_one he] at h; omega
  · rw [cf_card_congr (T := S) (fun i hi => by rw [cf_add_bit]; simp; omega)]; omega
theorem cf_card_some {n S : Nat} (h : cf_card n S ≠ 0) : ∃ i, i < n ∧ S.testBit i = true := by
  rcases Classical.em (∃ i, i < n ∧ S.testBit i = true) with q | q
  · exact q
  · refine absurd (cf_card_none fun i hi => ?_) h
    cases c : S.testBit i with
    | false => rfl
    | true => exact absurd ⟨i, hi, c⟩ q
/-- taking an element out -/
theorem cf_card_del {n S e : Nat} (he : e < n) (hs : S.testBit e = true) : cf_card n (cf_diff S (2 ^ e)) + 1 = cf_card n S := by
  have h := cf_card_add (n := n) (S := cf_diff S (2 ^ e)) (e := e) he (by rw [cf_diff_bit, cf_one_bit]; simp)
  rw [← h]
  refine cf_card_congr fun i _ => ?_
  rw [cf_add_bit, cf_diff_bit, cf_one_bit]
  by_cases c : e = i
  · subst c; simp [hs]
  · simp [c]
theorem cf_sub_rf (S : Nat) : cf_sub S S := fun _ h => h
theorem cf_sub_0 (S : Nat) : cf_sub 0 S := fun i h => by rw [Nat.zero_testBit] at h; cases h
theorem cf_sub_tr {S T U : Nat} (h : cf_sub S T) (k : cf_sub T U) : cf_sub S U := fun i q => k i (h i q)
theorem cf_card_sub {n S T : Nat} (h : cf_sub S T) : cf_card n S ≤ cf_card n T := cf_card_mono fun i _ => h i
/-- a set within another of no more elements is the same -/
theorem cf_card_eq {n S T : Nat} (h : cf_sub S T) (hc : cf_card n T ≤ cf_card n S) : ∀ i, i < n → S.testBit i = T.testBit i := by
  intro i hi
  cases c : T.testBit i with
  | false =>
    cases d : S.testBit i with
    | false => rfl
    | true => rw [h i d] at c; cases c
  | true =>
    cases d : S.testBit i with
    | true => rfl
    | false =>
      have h1 := cf_card_del hi c
      have h2 : cf_card n S ≤ cf_card n (cf_diff T (2 ^ i)) := cf_card_mono fun j _ hj => by
        rw [cf_diff_bit, cf_one_bit, h j hj]
        by_cases q : i = j
        · subst q; rw [d] at hj; cases hj
        · simp [q]
      omega
end
section
/-! SUMS WITHOUT CARRY, SPANS, INDEPENDENT SETS, RANKS -/
def cf_xs (L : Nat → Nat) : Nat → Nat → Nat
  | 0, _ => 0
  | n + 1, T => if T.testBit n = true then cf_xs L n T ^^^ L n else cf_xs L n T
theorem cf_xs_congr {L : Nat → Nat} {n T U : Nat} (h : ∀ i, i < n → T.testBit i = U.testBit i) : cf_xs L n T = cf_xs L n U := by
  induction n with
  | zero => rfl
  | succ n ih => simp only [cf_xs]; rw [ih (fun i hi => h i (by omega)), h n (by omega)]
theorem cf_xs_congrL {L M : Nat → Nat} {n T : Nat} (h : ∀ i, i < n → T.testBit i = true → L i = M i) : cf_xs L n T = cf_xs M n T := by
  induction n with
  | zero => rfl
  | succ n ih =>
    simp only [cf_xs]; rw [ih (fun i hi => h i (by omega))]
    by_cases c : T.testBit n = true
    · rw [if_pos c, if_pos c, h n (by omega) c]
    · rw [if_neg c, if_neg c]
theorem cf_xs_0 (L : Nat → Nat) (n : Nat) : cf_xs L n 0 = 0 := by
  induction n with
  | zero => rfl
  | succ n ih => simp [cf_xs, ih]
theorem cf_x4 (a b c d : Nat) : (a ^^^ b) ^^^ (c ^^^ d) = (a ^^^ c) ^^^ (b ^^^ d) := by
  refine Nat.eq_of_testBit_eq fun i => ?_
  simp only [Nat.testBit_xor]
  cases a.testBit i <;> cases b.testBit i <;> cases c.testBit i <;> cases d.testBit i <;> rfl
theorem cf_xc (a b : Nat) : (a ^^^ b) ^^^ b = a := by rw [Nat.xor_assoc, Nat.xor_self, Nat.xor_zero]
theorem cf_xs_xor (L : Nat → Nat) (n T U : Nat) : cf_xs L n (T ^^^ U) = cf_xs L n T ^^^ cf_xs L n U := by
  induction n with
  | zero => simp [cf_xs]
  | succ n ih =>
    simp only [cf_xs, Nat.testBit_xor, ih]
    cases T.testBit n <;> cases U.testBit n
    · rfl
    · simp [Nat.xor_assoc]
    · simp [Nat.xor_assoc, Nat.xor_comm (L n)]
    · simp only [Bool.xor_self, if_true, Bool.false_eq_true, if_false]
      rw [cf_x4, Nat.xor_self, Nat.xor_zero]
theorem cf_xs_none {L : Nat → Nat} {n T : Nat} (h : ∀ i, i < n → T.testBit i = false) : cf_xs L n T = 0 := by
  rw [cf_xs_congr (U := 0) (fun i hi => by rw [h i hi, Nat.zero_testBit]), cf_xs_0]
theorem cf_xs_one {L : Nat → Nat} {n e : Nat} (he : e < n) : cf_xs L n (2 ^ e) = L e := by
  induction n with
  | zero => omega
  | succ n ih =>
    simp only [cf_xs, cf_one_bit]
    by_cases c : e = n
    · subst c
      rw [cf_xs_none (fun i hi => by rw [cf_one_bit]; exact decide_eq_false (by omega))]; simp
    · rw [ih (by omega)]; simp [c]
def cf_sp (L : Nat → Nat) (n S v : Nat) : Prop := ∃ T, cf_sub T S ∧ cf_xs L n T = v
theorem cf_sp_0 (L : Nat → Nat) (n S : Nat) : cf_sp L n S 0 := ⟨0, cf_sub_0 S, cf_xs_0 L n⟩
theorem cf_sp_xor {L : Nat → Nat} {n S v w : Nat} (h : cf_sp L n S v) (k : cf_sp L n S w) : cf_sp L n S (v ^^^ w) := by
  obtain ⟨T, h1, h2⟩ := h
  obtain ⟨U, k1, k2⟩ := k
  refine ⟨T ^^^ U, fun i hi => ?_, by rw [cf_xs_xor, h2, k2]⟩
  rw [Nat.testBit_xor] at hi
  cases c : T.testBit i with
  | true => exact h1 i c
  | false => rw [c] at hi; exact k1 i (by simpa using hi)
theorem cf_sp_mono {L : Nat → Nat} {n S S' v : Nat} (hs : cf_sub S S') (h : cf_sp L n S v) : cf_sp L n S' v := by
  obtain ⟨T, h1, h2⟩ := h
  exact ⟨T, cf_sub_tr h1 hs, h2⟩
theorem cf_one_sub {S e : Nat} (h : S.testBit e = true) : cf_sub (2 ^ e) S := fun i hi => by
  rw [cf_one_bit] at hi
  have : e = i := of_decide_eq_true hi
  rw [← this]; exact h
theorem cf_sp_mem {L : Nat → Nat} {n S e : Nat} (he : e < n) (h : S.testBit e = true) : cf_sp L n S (L e) := ⟨2 ^ e, cf_one_sub h, cf_xs_one he⟩
theorem cf_sp_sum {L : Nat → Nat} {n B T : Nat} (m : Nat) (hm : m ≤ n) (h : ∀ i, i < m → T.testBit i = true → cf_sp L n B (L i)) : cf_sp L n B (cf_xs L m T) := by
  induction m with
  | zero => exact cf_sp_0 L n B
  | succ m ih =>
    simp only [cf_xs]
    have h1 := ih (by omega) (fun i hi => h i (by omega))
    by_cases c : T.testBit m = true
    · rw [if_pos c]; exact cf_sp_xor h1 (h m (by omega) c)
    · rw [if_neg c]; exact h1
theorem cf_sp_trans {L : Nat → Nat} {n S B v : Nat} (h : ∀ i, i < n → S.testBit i = true → cf_sp L n B (L i)) (hv : cf_sp L n S v) : cf_sp L n B v := by
  obtain ⟨T, h1, rfl⟩ := hv
  exact cf_sp_sum n (Nat.le_refl n) fun i hi hT => h i hi (h1 i hT)
def cf_ind (L : Nat → Nat) (n S : Nat) : Prop := ∀ T, cf_sub T S → cf_xs L n T = 0 → ∀ i, i < n → T.testBit i = false
theorem cf_ind_0 (L : Nat → Nat) (n : Nat) : cf_ind L n 0 := fun T hT _ i _ => by
  cases c : T.testBit i with
  | false => rfl
  | true => have := hT i c; rw [Nat.zero_testBit] at this; cases this
theorem cf_ind_sub {L : Nat → Nat} {n S S' : Nat} (hs : cf_sub S S') (h : cf_ind L n S') : cf_ind L n S := fun T hT => h T (cf_sub_tr hT hs)
theorem cf_ind_add {L : Nat → Nat} {n S e : Nat} (he : e < n) (h : cf_ind L n S) (hn : ¬ cf_sp L n S (L e)) : cf_ind L n (S ||| 2 ^ e) := by
  intro T hT h0
  by_cases c : T.testBit e = true
  · refine absurd ⟨T ^^^ 2 ^ e, fun i hi => ?_, ?_⟩ hn
    · rw [Nat.testBit_xor, cf_one_bit] at hi
      by_cases q : e = i
      · subst q; rw [c] at hi; simp at hi
      · simp [q] at hi
        have := hT i hi
        rw [cf_add_bit] at this
        simpa [q] using this
    · rw [cf_xs_xor, h0, cf_xs_one he, Nat.zero_xor]
  · refine h T (fun i hi => ?_) h0
    have := hT i hi
    rw [cf_add_bit] at this
    by_cases q : e = i
    · subst q; exact absurd hi c
    · simpa [q] using this
theorem cf_ind_nsp {L : Nat → Nat} {n S e : Nat} (he : e < n) (h : cf_ind L n S) (hs : S.testBit e = true) : ¬ cf_sp L n (cf_diff S (2 ^ e)) (L e) := by
  rintro ⟨T, h1, h2⟩
  have hT : T.testBit e = false := by
    cases c : T.testBit e with
    | false => rfl
    | true => have := h1 e c; rw [cf_diff_bit, cf_one_bit] at this; simp at this
  have h3 := h (T ^^^ 2 ^ e) (fun i hi => by
    rw [Nat.testBit_xor, cf_one_bit] at hi
    by_cases q : e = i
    · subst q; exact hs
    · simp [q] at hi
      have := h1 i hi
      rw [cf_diff_bit] at this
      cases c : S.testBit i with
      | true => rfl
      | false => rw [c] at this; simp at this) (by rw [cf_xs_xor, h2, cf_xs_one he, Nat.xor_self]) e he
  rw [Nat.testBit_xor, cf_one_bit, hT] at h3
  simp at h3
/-- Steinitz: an independent set that another spans has no more elements -/
theorem cf_stz {L : Nat → Nat} {n : Nat} : ∀ (k J I : Nat), cf_card n (cf_diff J I) = k → cf_ind L n J → (∀ j, j < n → J.testBit j = true → cf_sp L n I (L j)) → cf_card n J ≤ cf_card n I := by
  intro k
  induction k with
  | zero =>
    intro J I hk _ _
    refine cf_card_mono fun i hi hJ => ?_
    cases c : I.testBit i with
    | true => rfl
    | false =>
      have : cf_card n (cf_diff J I) ≠ 0 := by
        have := cf_card_del (n := n) (S := cf_diff J I) hi (by rw [cf_diff_bit, hJ, c]; rfl)
        omega
      exact absurd hk this
  | succ k ih =>
    intro J I hk hJ hsp
    obtain ⟨j, hj, hd⟩ := cf_card_some (n := n) (S := cf_diff J I) (by omega)
    have hd0 := hd
    rw [cf_diff_bit] at hd
    have hJj : J.testBit j = true := by cases c : J.testBit j <;> simp [c] at hd ⊢
    have hIj : I.testBit j = false := by cases c : I.testBit j <;> simp [c] at hd ⊢
    have hn := cf_ind_nsp hj hJ hJj
    have hex : ∃ i, i < n ∧ I.testBit i = true ∧ ¬ cf_sp L n (cf_diff J (2 ^ j)) (L i) := by
      rcases Classical.em (∃ i, i < n ∧ I.testBit i = true ∧ ¬ cf_sp L n (cf_diff J (2 ^ j)) (L i)) with q | q
      · exact q
      · refine absurd (cf_sp_trans (fun i hi hI => ?_) (hsp j hj hJj)) hn
        rcases Classical.em (cf_sp L n (cf_diff J (2 ^ j)) (L i)) with r | r
        · exact r
        · exact absurd ⟨i, hi, hI, r⟩ q
    obtain ⟨i, hi, hIi, hni⟩ := hex
    have hij : j ≠ i := fun q => by rw [q, hIi] at hIj; cases hIj
    have hJ0i : (cf_diff J (2 ^ j)).testBit i = false := by
      cases c : (cf_diff J (2 ^ j)).testBit i with
      | false => rfl
      | true => exact absurd (cf_sp_mem hi c) hni
    have hind := cf_ind_add hi (cf_ind_sub (S' := J) (fun q hq => by
      rw [cf_diff_bit] at hq
      cases c : J.testBit q with
      | true => rfl
      | false => rw [c] at hq; simp at hq) hJ) hni
    have hc := cf_card_add (n := n) hi hJ0i
    have hc2 := cf_card_del hj hJj
    have hk2 : cf_card n (cf_diff (cf_diff J (2 ^ j) ||| 2 ^ i) I) = k := by
      have := cf_card_del hj hd0
      rw [hk] at this
      rw [← Nat.add_right_cancel this]
      refine cf_card_congr fun q _ => ?_
      rw [cf_diff_bit, cf_add_bit, cf_diff_bit, cf_one_bit, cf_diff_bit, cf_diff_bit, cf_one_bit]
      by_cases r : i = q
      · subst r; simp [hIi]
      · simp [r]; cases J.testBit q <;> cases I.testBit q <;> simp
    have hfin := ih _ I hk2 hind (fun q hq hb => by
      rw [cf_add_bit, cf_diff_bit] at hb
      by_cases r : i = q
      · subst r; exact cf_sp_mem hi hIi
      · refine hsp q hq ?_
        cases c : J.testBit q with
        | true => rfl
        | false => simp [r, c] at hb)
    omega
def cf_bas (L : Nat → Nat) (n S B : Nat) : Prop := cf_sub B S ∧ cf_ind L n B ∧ ∀ i, i < n → S.testBit i = true → cf_sp L n B (L i)
theorem cf_bas_ext {L : Nat → Nat} {n S B0 : Nat} (h0 : cf_ind L n B0) (hs : cf_sub B0 S) : ∃ B, cf_bas L n S B ∧ cf_sub B0 B := by
  have key : ∀ m, m ≤ n → ∃ B, cf_sub B0 B ∧ cf_sub B S ∧ cf_ind L n B ∧ ∀ i, i < m → S.testBit i = true → cf_sp L n B (L i) := by
    intro m
    induction m with
    | zero => intro _; exact ⟨B0, cf_sub_rf _, hs, h0, fun i hi => absurd hi (Nat.not_lt_zero i)⟩
    | succ m ih =>
      intro hm
      obtain ⟨B, h1, h2, h3, h4⟩ := ih (by omega)
      by_cases c : S.testBit m = true
      · rcases Classical.em (cf_sp L n B (L m)) with q | q
        · refine ⟨B, h1, h2, h3, fun i hi hS => ?_⟩
          rcases Nat.lt_or_ge i m with r | r
          · exact h4 i r hS
          · have : i = m := by omega
            rw [this]; exact q
        · have hB : cf_sub B (B ||| 2 ^ m) := fun i hi => by rw [cf_add_bit, hi]; rfl
          refine ⟨B ||| 2 ^ m, cf_sub_tr h1 hB, fun i hi => ?_, cf_ind_add (by omega) h3 q, fun i hi hS => ?_⟩
          · rw [cf_add_bit] at hi
            by_cases r : m = i
            · subst r; exact c
            · exact h2 i (by simpa [r] using hi)
          · rcases Nat.lt_or_ge i m with r | r
            · exact cf_sp_mono hB (h4 i r hS)
            · have : i = m := by omega
              rw [this]; exact cf_sp_mem (by omega) (by rw [cf_add_bit]; simp)
      · refine ⟨B, h1, h2, h3, fun i hi hS => ?_⟩
        rcases Nat.lt_or_ge i m with r | r
        · exact h4 i r hS
        · have : i = m := by omega
          rw [this] at hS; exact absurd hS c
  obtain ⟨B, h1, h2, h3, h4⟩ := key n (Nat.le_refl n)
  exact ⟨B, ⟨h2, h3, h4⟩, h1⟩
theorem cf_bas_ex (L : Nat → Nat) (n S : Nat) : ∃ B, cf_bas L n S B := by
  obtain ⟨B, h, _⟩ := cf_bas_ext (cf_ind_0 L n) (cf_sub_0 S)
  exact ⟨B, h⟩
noncomputable def cf_rk (L : Nat → Nat) (n S : Nat) : Nat := cf_card n (Classical.choose (cf_bas_ex L n S))
theorem cf_rk_ind {L : Nat → Nat} {n S J : Nat} (h : cf_ind L n J) (hs : ∀ j, j < n → J.testBit j = true → S.testBit j = true) : cf_card n J ≤ cf_rk L n S := by
  have hb := Classical.choose_spec (cf_bas_ex L n S)
  exact cf_stz _ J _ rfl h fun j hj hJ => hb.2.2 j hj (hs j hj hJ)
theorem cf_rk_bas {L : Nat → Nat} {n S B : Nat} (h : cf_bas L n S B) : cf_rk L n S = cf_card n B := by
  refine Nat.le_antisymm ?_ (cf_rk_ind h.2.1 fun j _ hj => h.1 j hj)
  have hb := Classical.choose_spec (cf_bas_ex L n S)
  exact cf_stz _ _ B rfl hb.2.1 fun j hj hJ => h.2.2 j hj (hb.1 j hJ)
theorem cf_rk_of_ind {L : Nat → Nat} {n S : Nat} (h : cf_ind L n S) : cf_rk L n S = cf_card n S := cf_rk_bas ⟨cf_sub_rf S, h, fun _ hi hS => cf_sp_mem hi hS⟩
theorem cf_ind_of_rk {L : Nat → Nat} {n S : Nat} (h : cf_card n S ≤ cf_rk L n S) : cf_ind L n S := by
  obtain ⟨B, hb⟩ := cf_bas_ex L n S
  rw [cf_rk_bas hb] at h
  have := cf_card_eq hb.1 h
  intro T hT h0
  have q := hb.2.1 (T &&& cf_full n) (fun i hi => by
    rw [Nat.testBit_and, cf_full_bit] at hi
    have h2 : i < n := by
      by_cases c : i < n
      · exact c
      · simp [c] at hi
    rw [this i h2]
    exact hT i (by simpa [h2] using hi)) (by rw [cf_xs_congr (U := T) (fun i hi => by rw [Nat.testBit_and, cf_full_bit]; simp [hi])]; exact h0)
  intro i hi
  have := q i hi
  rw [Nat.testBit_and, cf_full_bit] at this
  simpa [hi] using this
def cf_mat (r : Nat → Nat) : Prop := r 0 = 0 ∧ (∀ S T, cf_sub S T → r S ≤ r T) ∧ (∀ S e, r (S ||| 2 ^ e) ≤ r S + 1) ∧ ∀ S T, r (S ||| T) + r (S &&& T) ≤ r S + r T
theorem cf_rk_mono {L : Nat → Nat} {n S T : Nat} (h : ∀ j, j < n → S.testBit j = true → T.testBit j = true) : cf_rk L n S ≤ cf_rk L n T := by
  obtain ⟨B, hb⟩ := cf_bas_ex L n S
  rw [cf_rk_bas hb]
  exact cf_rk_ind hb.2.1 fun j hj hB => h j hj (hb.1 j hB)
theorem cf_rk_congr {L : Nat → Nat} {n S T : Nat} (h : ∀ j, j < n → S.testBit j = T.testBit j) : cf_rk L n S = cf_rk L n T :=
  Nat.le_antisymm (cf_rk_mono fun j hj q => by rw [← h j hj]; exact q) (cf_rk_mono fun j hj q => by rw [h j hj]; exact q)
theorem cf_rk_le {L : Nat → Nat} {n S : Nat} : cf_rk L n S ≤ cf_card n S := by
  obtain ⟨B, hb⟩ := cf_bas_ex L n S
  rw [cf_rk_bas hb]
  exact cf_card_sub hb.1
theorem cf_rk_mat (L : Nat → Nat) (n : Nat) : cf_mat (cf_rk L n) := by
  refine ⟨?_, fun S T h => cf_rk_mono fun j _ q => h j q, fun S e => ?_, fun S T => ?_⟩
  · rw [cf_rk_of_ind (cf_ind_0 L n), cf_card_0]
  · obtain ⟨B, hb⟩ := cf_bas_ex L n S
    obtain ⟨C, hc⟩ := cf_bas_ex L n (S ||| 2 ^ e)
    rw [cf_rk_bas hb, cf_rk_bas hc]
    refine Nat.le_trans (cf_stz _ C (B ||| 2 ^ e) rfl hc.2.1 fun j hj hC => ?_) (cf_card_addle n B e)
    have := hc.1 j hC
    rw [cf_add_bit] at this
    by_cases q : e = j
    · subst q; exact cf_sp_mem hj (by rw [cf_add_bit]; simp)
    · exact cf_sp_mono (fun i hi => by rw [cf_add_bit, hi]; rfl) (hb.2.2 j hj (by simpa [q] using this))
  · obtain ⟨B, hb⟩ := cf_bas_ex L n (S &&& T)
    obtain ⟨C, hc, hBC⟩ := cf_bas_ext (S := S ||| T) hb.2.1 (fun i hi => by
      have := hb.1 i hi
      rw [Nat.testBit_and] at this
      rw [Nat.testBit_or]
      cases h : S.testBit i <;> simp [h] at this ⊢)
    rw [cf_rk_bas hb, cf_rk_bas hc]
    have h1 : cf_card n (C &&& S) ≤ cf_rk L n S := cf_rk_ind (cf_ind_sub (fun i hi => by
      rw [Nat.testBit_and] at hi; cases h : C.testBit i <;> simp [h] at hi ⊢) hc.2.1) (fun j _ hj => by
      rw [Nat.testBit_and] at hj; cases h : S.testBit j <;> simp [h] at hj ⊢)
    have h2 : cf_card n (C &&& T) ≤ cf_rk L n T := cf_rk_ind (cf_ind_sub (fun i hi => by
      rw [Nat.testBit_and] at hi; cases h : C.testBit i <;> simp [h] at hi ⊢) hc.2.1) (fun j _ hj => by
      rw [Nat.testBit_and] at hj; cases h : T.testBit j <;> simp [h] at hj ⊢)
    have h3 := cf_card_ui n (C &&& S) (C &&& T)
    have h4 : cf_card n ((C &&& S) ||| (C &&& T)) = cf_card n C := cf_card_congr fun i _ => by
      rw [Nat.testBit_or, Nat.testBit_and, Nat.testBit_and]
      cases h : C.testBit i with
      | false => rfl
      | true => have := hc.1 i h; rw [Nat.testBit_or] at this; simpa using this
    have h5 : cf_card n B ≤ cf_card n ((C &&& S) &&& (C &&& T)) := cf_card_mono fun i _ hi => by
      have q := hb.1 i hi
      have r := hBC i hi
      rw [Nat.testBit_and] at q
      rw [Nat.testBit_and, Nat.testBit_and, Nat.testBit_and, r]
      simpa using q
    omega
end
section
/-! THE LARGEST COMMON INDEPENDENT SETS OF TWO RANK FUNCTIONS -/
theorem cf_mat_con {r : Nat → Nat} {e : Nat} (h : cf_mat r) (h1 : r (2 ^ e) = 1) : cf_mat (fun S => r (S ||| 2 ^ e) - 1) := by
  obtain ⟨_, b, c, d⟩ := h
  have one : ∀ S, 1 ≤ r (S ||| 2 ^ e) := fun S => by
    rw [← h1]
    exact b _ _ fun i hi => by rw [Nat.testBit_or, hi, Bool.or_true]
  refine ⟨by simp [h1], fun S T q => ?_, fun S f => ?_, fun S T => ?_⟩
  · have := b (S ||| 2 ^ e) (T ||| 2 ^ e) fun i hi => by
      rw [Nat.testBit_or] at hi ⊢
      cases k : S.testBit i with
      | true => rw [q i k]; rfl
      | false => rw [k] at hi; simp only [Bool.false_or] at hi; rw [hi, Bool.or_true]
    dsimp only
    omega
  · have := c (S ||| 2 ^ e) f
    have e1 : S ||| 2 ^ f ||| 2 ^ e = S ||| 2 ^ e ||| 2 ^ f := by rw [Nat.or_assoc, Nat.or_comm (2 ^ f), ← Nat.or_assoc]
    dsimp only
    rw [e1]
    have := one S
    omega
  · have q := d (S ||| 2 ^ e) (T ||| 2 ^ e)
    have e1 : (S ||| 2 ^ e) ||| (T ||| 2 ^ e) = S ||| T ||| 2 ^ e := Nat.eq_of_testBit_eq fun i => by
      simp only [Nat.testBit_or]; cases S.testBit i <;> cases T.testBit i <;> cases (2 ^ e).testBit i <;> rfl
    have e2 : (S ||| 2 ^ e) &&& (T ||| 2 ^ e) = (S &&& T) ||| 2 ^ e := Nat.eq_of_testBit_eq fun i => by
      simp only [Nat.testBit_or, Nat.testBit_and]; cases S.testBit i <;> cases T.testBit i <;> cases (2 ^ e).testBit i <;> rfl
    rw [e1, e2] at q
    have a1 := one (S ||| T)
    have a2 := one (S &&& T)
    have a3 := one S
    have a4 := one T
    dsimp only
    omega
theorem cf_full_succ (n : Nat) : cf_full (n + 1) = cf_full n ||| 2 ^ n := Nat.eq_of_testBit_eq fun i => by
  rw [cf_add_bit, cf_full_bit, cf_full_bit]
  by_cases c : i < n
  · simp [c, Nat.lt_succ_of_lt c]
  · by_cases d : n = i
    · subst d; simp
    · have : ¬ i < n + 1 := by omega
      simp [c, d, this]
/-- what is left out has no bit from n on -/
theorem cf_sub_full {A n i : Nat} (h : cf_sub A (cf_full n)) (hi : n ≤ i) : A.testBit i = false := by
  cases c : A.testBit i with
  | false => rfl
  | true => have := h i c; rw [cf_full_bit] at this; have := of_decide_eq_true this; omega
theorem cf_edm : ∀ (n : Nat) (r1 r2 : Nat → Nat), cf_mat r1 → cf_mat r2 → ∀ k, (∀ A, cf_sub A (cf_full n) → k ≤ r1 A + r2 (cf_diff (cf_full n) A)) → ∃ I, cf_sub I (cf_full n) ∧ cf_card n I = k ∧ r1 I = k ∧ r2 I = k := by
  intro n
  induction n with
  | zero =>
    intro r1 r2 m1 m2 k hk
    have h := hk 0 (cf_sub_0 _)
    have e0 : cf_diff (cf_full 0) 0 = 0 := rfl
    rw [e0, m1.1, m2.1] at h
    have : k = 0 := by omega
    subst this
    exact ⟨0, cf_sub_0 _, rfl, m1.1, m2.1⟩
  | succ n ih =>
    intro r1 r2 m1 m2 k hk
    have hup : ∀ A, cf_sub A (cf_full n) → cf_sub A (cf_full (n + 1)) := fun A hA i hi => by
      have := hA i hi
      rw [cf_full_bit] at this ⊢
      exact decide_eq_true (by have := of_decide_eq_true this; omega)
    have hupe : ∀ A, cf_sub A (cf_full n) → cf_sub (A ||| 2 ^ n) (cf_full (n + 1)) := fun A hA i hi => by
      rw [cf_add_bit] at hi
      by_cases c : n = i
      · subst c; rw [cf_full_bit]; simp
      · exact hup A hA i (by simpa [c] using hi)
    by_cases hdel : ∀ A, cf_sub A (cf_full n) → k ≤ r1 A + r2 (cf_diff (cf_full n) A)
    · obtain ⟨I, i1, i2, i3, i4⟩ := ih r1 r2 m1 m2 k hdel
      refine ⟨I, hup I i1, ?_, i3, i4⟩
      simp only [cf_card]
      rw [cf_sub_full i1 (Nat.le_refl n), i2]
      rfl
    · have hA : ∃ A, cf_sub A (cf_full n) ∧ r1 A + r2 (cf_diff (cf_full n) A) < k := by
        rcases Classical.em (∃ A, cf_sub A (cf_full n) ∧ r1 A + r2 (cf_diff (cf_full n) A) < k) with q | q
        · exact q
        · exact absurd (fun A hA => Nat.le_of_not_lt fun hc => q ⟨A, hA, hc⟩) hdel
      obtain ⟨A, hA1, hA2⟩ := hA
      have hAn := cf_sub_full hA1 (Nat.le_refl n)
      -- the last element is no loop
      have l1 : r1 (2 ^ n) = 1 := by
        have u := m1.2.2.1 0 n
        rw [Nat.zero_or, m1.1] at u
        rcases Nat.lt_or_ge (r1 (2 ^ n)) 1 with q | q
        · exfalso
          have s := m1.2.2.2 A (2 ^ n)
          have g := hk (A ||| 2 ^ n) (hupe A hA1)
          have e1 : cf_diff (cf_full (n + 1)) (A ||| 2 ^ n) = cf_diff (cf_full n) A := Nat.eq_of_testBit_eq fun i => by
            rw [cf_diff_bit, cf_diff_bit, cf_full_succ, cf_add_bit, cf_add_bit, cf_full_bit]
            by_cases c : n = i
            · subst c; simp
            · simp [c]
          rw [e1] at g
          omega
        · omega
      have l2 : r2 (2 ^ n) = 1 := by
        have u := m2.2.2.1 0 n
        rw [Nat.zero_or, m2.1] at u
        rcases Nat.lt_or_ge (r2 (2 ^ n)) 1 with q | q
        · exfalso
          have s := m2.2.2.2 (cf_diff (cf_full n) A) (2 ^ n)
          have g := hk A (hup A hA1)
          have e1 : cf_diff (cf_full (n + 1)) A = cf_diff (cf_full n) A ||| 2 ^ n := Nat.eq_of_testBit_eq fun i => by
            rw [cf_diff_bit, cf_full_succ, cf_add_bit, cf_add_bit, cf_diff_bit]
            by_cases c : n = i
            · subst c; simp [hAn]
            · simp [c]
          rw [e1] at g
          omega
        · omega
      have m1' := cf_mat_con m1 l1
      have m2' := cf_mat_con m2 l2
      have one1 : ∀ S, 1 ≤ r1 (S ||| 2 ^ n) := fun S => by
        rw [← l1]; exact m1.2.1 _ _ fun i hi => by rw [Nat.testBit_or, hi, Bool.or_true]
      have one2 : ∀ S, 1 ≤ r2 (S ||| 2 ^ n) := fun S => by
        rw [← l2]; exact m2.2.1 _ _ fun i hi => by rw [Nat.testBit_or, hi, Bool.or_true]
      obtain ⟨I, i1, i2, i3, i4⟩ := ih _ _ m1' m2' (k - 1) (fun B hB => by
        rcases Nat.lt_or_ge ((r1 (B ||| 2 ^ n) - 1) + (r2 (cf_diff (cf_full n) B ||| 2 ^ n) - 1)) (k - 1) with q | q
        · exfalso
          have hBn := cf_sub_full hB (Nat.le_refl n)
          have a1 := one1 B
          have a2 := one2 (cf_diff (cf_full n) B)
          have s1 := m1.2.2.2 A (B ||| 2 ^ n)
          have s2 := m2.2.2.2 (cf_diff (cf_full n) A) (cf_diff (cf_full n) B ||| 2 ^ n)
          have g1 := hk (A ||| (B ||| 2 ^ n)) (fun i hi => by
            rw [Nat.testBit_or] at hi
            cases c : A.testBit i with
            | true => exact hup A hA1 i c
            | false => rw [c, Bool.false_or] at hi; exact hupe B hB i hi)
          have g2 := hk (A &&& (B ||| 2 ^ n)) (fun i hi => by
            rw [Nat.testBit_and] at hi
            cases c : A.testBit i with
            | true => exact hup A hA1 i c
            | false => rw [c] at hi; simp at hi)
          have e1 : cf_diff (cf_full (n + 1)) (A &&& (B ||| 2 ^ n)) = cf_diff (cf_full n) A ||| (cf_diff (cf_full n) B ||| 2 ^ n) := Nat.eq_of_testBit_eq fun i => by
            rw [cf_diff_bit, cf_full_succ, cf_add_bit, Nat.testBit_and, cf_add_bit, Nat.testBit_or, cf_diff_bit, cf_add_bit, cf_diff_bit]
            by_cases c : n = i
            · subst c; simp [hAn, hBn]
            · simp [c]; cases (cf_full n).testBit i <;> cases A.testBit i <;> cases B.testBit i <;> rfl
          have e2 : cf_diff (cf_full (n + 1)) (A ||| (B ||| 2 ^ n)) = cf_diff (cf_full n) A &&& (cf_diff (cf_full n) B ||| 2 ^ n) := Nat.eq_of_testBit_eq fun i => by
            rw [cf_diff_bit, cf_full_succ, cf_add_bit, Nat.testBit_or, cf_add_bit, Nat.testBit_and, cf_diff_bit, cf_add_bit, cf_diff_bit]
            by_cases c : n = i
            · subst c; simp [cf_full_bit]
            · simp [c]; cases (cf_full n).testBit i <;> cases A.testBit i <;> cases B.testBit i <;> rfl
          rw [e2] at g1
          rw [e1] at g2
          omega
        · exact q)
      try dsimp only at i3 i4
      have b1 := one1 I
      have b2 := one2 I
      refine ⟨I ||| 2 ^ n, hupe I i1, ?_, by omega, by omega⟩
      simp only [cf_card]
      rw [cf_card_congr (T := I) (fun i hi => by rw [cf_add_bit]; simp; omega), i2, cf_add_bit]
      simp
      omega
end
section
/-! THE COVER: what is forced into every cover, if it is closed, is one -/
/-- a largest common set: independent in both, and no common one has more -/
def cf_com (L M : Nat → Nat) (n I : Nat) : Prop := cf_sub I (cf_full n) ∧ cf_ind L n I ∧ cf_ind M n I ∧ ∀ J, cf_sub J (cf_full n) → cf_ind L n J → cf_ind M n J → cf_card n J ≤ cf_card n I
/-- a cover: the rank of A in the first and that of the others in the second make no more than I has -/
def cf_cov (L M : Nat → Nat) (n I A : Nat) : Prop := cf_rk L n A + cf_rk M n (cf_diff (cf_full n) A) = cf_card n I
theorem cf_cov_ex {L M : Nat → Nat} {n I : Nat} (h : cf_com L M n I) : ∃ A, cf_sub A (cf_full n) ∧ cf_cov L M n I A := by
  obtain ⟨h0, h1, h2, h3⟩ := h
  rcases Classical.em (∃ A, cf_sub A (cf_full n) ∧ cf_rk L n A + cf_rk M n (cf_diff (cf_full n) A) ≤ cf_card n I) with ⟨A, a1, a2⟩ | q
  · refine ⟨A, a1, Nat.le_antisymm a2 ?_⟩
    have b1 : cf_card n (I &&& A) ≤ cf_rk L n A := cf_rk_ind (cf_ind_sub (fun i hi => by rw [Nat.testBit_and] at hi; cases c : I.testBit i <;> simp [c] at hi ⊢) h1) (fun j _ hj => by rw [Nat.testBit_and] at hj; cases c : A.testBit j <;> simp [c] at hj ⊢)
    have b2 : cf_card n (cf_diff I A) ≤ cf_rk M n (cf_diff (cf_full n) A) := cf_rk_ind (cf_ind_sub (fun i hi => by rw [cf_diff_bit] at hi; cases c : I.testBit i <;> simp [c] at hi ⊢) h2) (fun j hj hd => by rw [cf_diff_bit] at hd ⊢; rw [cf_full_bit]; cases c : A.testBit j <;> simp [c, hj] at hd ⊢)
    have b3 := cf_card_ui n (I &&& A) (cf_diff I A)
    have b4 : cf_card n ((I &&& A) &&& cf_diff I A) = 0 := cf_card_none fun i _ => by
      rw [Nat.testBit_and, Nat.testBit_and, cf_diff_bit]; cases I.testBit i <;> cases A.testBit i <;> rfl
    have b5 : cf_card n ((I &&& A) ||| cf_diff I A) = cf_card n I := cf_card_congr fun i _ => by
      rw [Nat.testBit_or, Nat.testBit_and, cf_diff_bit]; cases I.testBit i <;> cases A.testBit i <;> rfl
    omega
  · exfalso
    obtain ⟨J, j1, j2, j3, j4⟩ := cf_edm n _ _ (cf_rk_mat L n) (cf_rk_mat M n) (cf_card n I + 1) (fun A hA => by
      rcases Nat.lt_or_ge (cf_rk L n A + cf_rk M n (cf_diff (cf_full n) A)) (cf_card n I + 1) with r | r
      · exact absurd ⟨A, hA, by omega⟩ q
      · exact r)
    have := h3 J j1 (cf_ind_of_rk (by omega)) (cf_ind_of_rk (by omega))
    omega
/-- what a cover does with the common set: its edges in the cover span it in the first, the others span the others in the second -/
theorem cf_cov_sp {L M : Nat → Nat} {n I A : Nat} (h1 : cf_ind L n I) (h2 : cf_ind M n I) (h : cf_cov L M n I A) : (∀ e, e < n → A.testBit e = true → cf_sp L n (I &&& A) (L e)) ∧ ∀ e, e < n → A.testBit e = false → cf_sp M n (cf_diff I A) (M e) := by
  have s1 : cf_sub (I &&& A) I := fun i hi => by rw [Nat.testBit_and] at hi; cases c : I.testBit i <;> simp [c] at hi ⊢
  have s2 : cf_sub (cf_diff I A) I := fun i hi => by rw [cf_diff_bit] at hi; cases c : I.testBit i <;> simp [c] at hi ⊢
  have t1 : ∀ j, (I &&& A).testBit j = true → A.testBit j = true := fun j hj => by rw [Nat.testBit_and] at hj; cases c : A.testBit j <;> simp [c] at hj ⊢
  have t2 : ∀ j, j < n → (cf_diff I A).testBit j = true → (cf_diff (cf_full n) A).testBit j = true := fun j hj hd => by rw [cf_diff_bit] at hd ⊢; rw [cf_full_bit]; cases c : A.testBit j <;> simp [c, hj] at hd ⊢
  have b1 : cf_card n (I &&& A) ≤ cf_rk L n A := cf_rk_ind (cf_ind_sub s1 h1) (fun j _ hj => t1 j hj)
  have b2 : cf_card n (cf_diff I A) ≤ cf_rk M n (cf_diff (cf_full n) A) := cf_rk_ind (cf_ind_sub s2 h2) t2
  have b3 := cf_card_ui n (I &&& A) (cf_diff I A)
  have b4 : cf_card n ((I &&& A) &&& cf_diff I A) = 0 := cf_card_none fun i _ => by
    rw [Nat.testBit_and, Nat.testBit_and, cf_diff_bit]; cases I.testBit i <;> cases A.testBit i <;> rfl
  have b5 : cf_card n ((I &&& A) ||| cf_diff I A) = cf_card n I := cf_card_congr fun i _ => by
    rw [Nat.testBit_or, Nat.testBit_and, cf_diff_bit]; cases I.testBit i <;> cases A.testBit i <;> rfl
  have h' : cf_rk L n A + cf_rk M n (cf_diff (cf_full n) A) = cf_card n I := h
  refine ⟨fun e he hA => ?_, fun e he hA => ?_⟩
  · rcases Classical.em (cf_sp L n (I &&& A) (L e)) with q | q
    · exact q
    · exfalso
      have w := cf_rk_ind (S := A) (cf_ind_add he (cf_ind_sub s1 h1) q) (fun j _ hj => by
        rw [cf_add_bit] at hj
        by_cases c : e = j
        · subst c; exact hA
        · exact t1 j (by simpa [c] using hj))
      have hn : (I &&& A).testBit e = false := by
        cases c : (I &&& A).testBit e with
        | false => rfl
        | true => exact absurd (cf_sp_mem he c) q
      rw [cf_card_add he hn] at w
      omega
  · rcases Classical.em (cf_sp M n (cf_diff I A) (M e)) with q | q
    · exact q
    · exfalso
      have w := cf_rk_ind (S := cf_diff (cf_full n) A) (cf_ind_add he (cf_ind_sub s2 h2) q) (fun j hj hd => by
        rw [cf_add_bit] at hd
        by_cases c : e = j
        · subst c; rw [cf_diff_bit, cf_full_bit, hA]; simp [hj]
        · exact t2 j hj (by simpa [c] using hd))
      have hn : (cf_diff I A).testBit e = false := by
        cases c : (cf_diff I A).testBit e with
        | false => rfl
        | true => exact absurd (cf_sp_mem he c) q
      rw [cf_card_add he hn] at w
      omega
/-- the least cover: a set that is in every cover, and that is closed as the covers are, is one -/
theorem cf_cov_least {L M : Nat → Nat} {n I C : Nat} (h : cf_com L M n I) (hC : cf_sub C (cf_full n)) (hin : ∀ A, cf_sub A (cf_full n) → cf_cov L M n I A → cf_sub C A)
    (hg : ∀ e, e < n → C.testBit e = true → I.testBit e = false → cf_sp L n I (L e) → cf_sp L n (I &&& C) (L e))
    (hh : ∀ e, e < n → C.testBit e = false → I.testBit e = false → cf_sp M n (cf_diff I C) (M e)) : cf_cov L M n I C := by
  obtain ⟨A, a1, a2⟩ := cf_cov_ex h
  obtain ⟨h0, h1, h2, h3⟩ := h
  have sp := (cf_cov_sp h1 h2 a2).1
  have hCA := hin A a1 a2
  have s1 : cf_sub (I &&& C) I := fun i hi => by rw [Nat.testBit_and] at hi; cases c : I.testBit i <;> simp [c] at hi ⊢
  have s2 : cf_sub (cf_diff I C) I := fun i hi => by rw [cf_diff_bit] at hi; cases c : I.testBit i <;> simp [c] at hi ⊢
  have k1 : cf_bas L n C (I &&& C) := by
    refine ⟨fun i hi => by rw [Nat.testBit_and] at hi; cases c : C.testBit i <;> simp [c] at hi ⊢, cf_ind_sub s1 h1, fun e he hCe => ?_⟩
    cases c : I.testBit e with
    | true => exact cf_sp_mem he (by rw [Nat.testBit_and, c, hCe]; rfl)
    | false => exact hg e he hCe c (cf_sp_mono (fun i hi => by rw [Nat.testBit_and] at hi; cases d : I.testBit i <;> simp [d] at hi ⊢) (sp e he (hCA e hCe)))
  have k2 : cf_bas M n (cf_diff (cf_full n) C) (cf_diff I C) := by
    refine ⟨fun i hi => ?_, cf_ind_sub s2 h2, fun e he hd => ?_⟩
    · have := s2 i hi
      have := h0 i this
      rw [cf_diff_bit] at hi ⊢
      rw [this]
      cases c : C.testBit i <;> simp [c] at hi ⊢
    · rw [cf_diff_bit] at hd
      have hCe : C.testBit e = false := by cases c : C.testBit e <;> simp [c] at hd ⊢
      cases c : I.testBit e with
      | true => exact cf_sp_mem he (by rw [cf_diff_bit, c, hCe]; rfl)
      | false => exact hh e he hCe c
  show cf_rk L n C + cf_rk M n (cf_diff (cf_full n) C) = cf_card n I
  rw [cf_rk_bas k1, cf_rk_bas k2]
  have b3 := cf_card_ui n (I &&& C) (cf_diff I C)
  have b4 : cf_card n ((I &&& C) &&& cf_diff I C) = 0 := cf_card_none fun i _ => by
    rw [Nat.testBit_and, Nat.testBit_and, cf_diff_bit]; cases I.testBit i <;> cases C.testBit i <;> rfl
  have b5 : cf_card n ((I &&& C) ||| cf_diff I C) = cf_card n I := cf_card_congr fun i _ => by
    rw [Nat.testBit_or, Nat.testBit_and, cf_diff_bit]; cases I.testBit i <;> cases C.testBit i <;> rfl
  omega
end
section
/-! A FOREST'S ROWS: one pass over them takes the lines of its edges out of a line -/
theorem cf_lt_bit {a b t : Nat} (ha : a.testBit t = false) (hb : b.testBit t = true) (h : ∀ j, t < j → a.testBit j = b.testBit j) : a < b := by
  have hq : a / 2 ^ (t + 1) = b / 2 ^ (t + 1) := Nat.eq_of_testBit_eq fun i => by
    rw [Nat.testBit_div_two_pow, Nat.testBit_div_two_pow]; exact h _ (by omega)
  have h1 : a % 2 ^ (t + 1) < 2 ^ t := Nat.lt_pow_two_of_testBit _ fun i hi => by
    rw [Nat.testBit_mod_two_pow]
    by_cases c : i = t
    · subst c; rw [ha]; simp
    · have : ¬ i < t + 1 := by omega
      simp [this]
  have h2 : 2 ^ t ≤ b % 2 ^ (t + 1) := Nat.ge_two_pow_of_testBit (by rw [Nat.testBit_mod_two_pow, hb]; simp)
  have e1 := Nat.div_add_mod a (2 ^ (t + 1))
  have e2 := Nat.div_add_mod b (2 ^ (t + 1))
  rw [hq] at e1
  omega
def fo_step (r row : Nat) : Nat := if r ^^^ row < r then r ^^^ row else r
theorem fo_top {r row : Nat} (h : row ≠ 0) : r ^^^ row < r ↔ r.testBit row.log2 = true := by
  have hb : ∀ j, row.log2 < j → row.testBit j = false := fun j hj => Nat.testBit_lt_two_pow ((Nat.log2_lt h).mp hj)
  have ht := Nat.testBit_log2 h
  cases c : r.testBit row.log2 with
  | true =>
    refine ⟨fun _ => rfl, fun _ => cf_lt_bit (t := row.log2) (by rw [Nat.testBit_xor, c, ht]; rfl) c fun j hj => ?_⟩
    rw [Nat.testBit_xor, hb j hj]; simp
  | false =>
    refine ⟨fun q => ?_, fun q => by cases q⟩
    have := cf_lt_bit (a := r) (b := r ^^^ row) (t := row.log2) c (by rw [Nat.testBit_xor, c, ht]; rfl) fun j hj => by
      rw [Nat.testBit_xor, hb j hj]; simp
    omega
theorem fo_step_bit {r row : Nat} (h : row ≠ 0) : fo_step r row = if r.testBit row.log2 = true then r ^^^ row else r := by
  unfold fo_step
  by_cases c : r ^^^ row < r
  · rw [if_pos c, if_pos ((fo_top h).mp c)]
  · rw [if_neg c, if_neg fun q => c ((fo_top h).mpr q)]
theorem fo_step_lin {a b row : Nat} (h : row ≠ 0) : fo_step (a ^^^ b) row = fo_step a row ^^^ fo_step b row := by
  rw [fo_step_bit h, fo_step_bit h, fo_step_bit h, Nat.testBit_xor]
  cases a.testBit row.log2 <;> cases b.testBit row.log2
  · simp
  · simp [Nat.xor_assoc]
  · simp [Nat.xor_assoc, Nat.xor_comm row]
  · simp only [Bool.xor_self, if_true, Bool.false_eq_true, if_false]
    rw [cf_x4, Nat.xor_self, Nat.xor_zero]
theorem fo_step_0 (row : Nat) : fo_step 0 row = 0 := by simp [fo_step]
theorem fo_step_self (row : Nat) : fo_step row row = 0 := by
  unfold fo_step
  rw [Nat.xor_self]
  by_cases c : 0 < row
  · rw [if_pos c]
  · rw [if_neg c]; omega
def fo_rest (rows : Nat → Nat) (v : Nat) : Nat → Nat
  | 0 => v
  | i + 1 => fo_step (fo_rest rows v i) (rows i)
def fo_way (rows parts : Nat → Nat) (v : Nat) : Nat → Nat
  | 0 => 0
  | i + 1 => if fo_rest rows v i ^^^ rows i < fo_rest rows v i then fo_way rows parts v i ^^^ parts i else fo_way rows parts v i
theorem fo_rest_congr {rows rows' : Nat → Nat} {v k : Nat} (h : ∀ i, i < k → rows i = rows' i) : fo_rest rows v k = fo_rest rows' v k := by
  induction k with
  | zero => rfl
  | succ k ih => simp only [fo_rest]; rw [ih fun i hi => h i (by omega), h k (by omega)]
theorem fo_way_congr {rows rows' parts parts' : Nat → Nat} {v k : Nat} (h : ∀ i, i < k → rows i = rows' i) (h2 : ∀ i, i < k → parts i = parts' i) : fo_way rows parts v k = fo_way rows' parts' v k := by
  induction k with
  | zero => rfl
  | succ k ih =>
    simp only [fo_way]
    rw [ih (fun i hi => h i (by omega)) (fun i hi => h2 i (by omega)), fo_rest_congr (k := k) fun i hi => h i (by omega), h k (by omega), h2 k (by omega)]
theorem fo_rest_0 (rows : Nat → Nat) (k : Nat) : fo_rest rows 0 k = 0 := by
  induction k with
  | zero => rfl
  | succ k ih => simp only [fo_rest]; rw [ih, fo_step_0]
theorem fo_rest_lin {rows : Nat → Nat} {a b k : Nat} (h : ∀ i, i < k → rows i ≠ 0) : fo_rest rows (a ^^^ b) k = fo_rest rows a k ^^^ fo_rest rows b k := by
  induction k with
  | zero => rfl
  | succ k ih => simp only [fo_rest]; rw [ih fun i hi => h i (by omega), fo_step_lin (h k (by omega))]
/-- what a forest B of the edges' lines L holds -/
def fo_ok (L : Nat → Nat) (n B : Nat) (rows parts : Nat → Nat) (k : Nat) : Prop :=
  cf_sub B (cf_full n) ∧ cf_ind L n B ∧ cf_card n B = k ∧ (∀ i, i < k → rows i ≠ 0 ∧ cf_xs L n (parts i) = rows i ∧ cf_sub (parts i) B) ∧ ∀ b, b < n → B.testBit b = true → fo_rest rows (L b) k = 0
theorem fo_ok_congr {L : Nat → Nat} {n B : Nat} {rows parts rows' parts' : Nat → Nat} {k : Nat} (h : fo_ok L n B rows parts k) (h1 : ∀ i, i < k → rows i = rows' i) (h2 : ∀ i, i < k → parts i = parts' i) : fo_ok L n B rows' parts' k := by
  obtain ⟨a, b, c, d, e⟩ := h
  refine ⟨a, b, c, fun i hi => ?_, fun b hb hB => ?_⟩
  · rw [← h1 i hi, ← h2 i hi]; exact d i hi
  · rw [← fo_rest_congr h1]; exact e b hb hB
theorem fo_ok_0 (L : Nat → Nat) (n : Nat) (rows parts : Nat → Nat) : fo_ok L n 0 rows parts 0 :=
  ⟨cf_sub_0 _, cf_ind_0 L n, cf_card_0 n, fun i hi => absurd hi (Nat.not_lt_zero i), fun b _ h => by rw [Nat.zero_testBit] at h; cases h⟩
theorem fo_way_sub {L : Nat → Nat} {n B : Nat} {rows parts : Nat → Nat} {k : Nat} (h : fo_ok L n B rows parts k) (v : Nat) : ∀ i, i ≤ k → cf_sub (fo_way rows parts v i) B := by
  intro i
  induction i with
  | zero => intro _; exact cf_sub_0 B
  | succ i ih =>
    intro hi
    simp only [fo_way]
    have h1 := ih (by omega)
    have h2 := (h.2.2.2.1 i (by omega)).2.2
    split
    · intro j hj
      rw [Nat.testBit_xor] at hj
      cases c : (fo_way rows parts v i).testBit j with
      | true => exact h1 j c
      | false => rw [c] at hj; exact h2 j (by simpa using hj)
    · exact h1
theorem fo_way_eq {L : Nat → Nat} {n B : Nat} {rows parts : Nat → Nat} {k : Nat} (h : fo_ok L n B rows parts k) (v : Nat) : ∀ i, i ≤ k → fo_rest rows v i = v ^^^ cf_xs L n (fo_way rows parts v i) := by
  intro i
  induction i with
  | zero => intro _; simp [fo_rest, fo_way, cf_xs_0]
  | succ i ih =>
    intro hi
    simp only [fo_way, fo_rest, fo_step]
    have h1 := ih (by omega)
    have h2 := (h.2.2.2.1 i (by omega)).2.1
    split
    · rw [cf_xs_xor, h2, h1, Nat.xor_assoc]
    · exact h1
theorem fo_rest_iff {L : Nat → Nat} {n B : Nat} {rows parts : Nat → Nat} {k : Nat} (h : fo_ok L n B rows parts k) (v : Nat) : fo_rest rows v k = 0 ↔ cf_sp L n B v := by
  refine ⟨fun q => ⟨fo_way rows parts v k, fo_way_sub h v k (Nat.le_refl k), ?_⟩, fun q => ?_⟩
  · have e := fo_way_eq h v k (Nat.le_refl k)
    rw [q] at e
    have : v ^^^ (v ^^^ cf_xs L n (fo_way rows parts v k)) = v := by rw [← e, Nat.xor_zero]
    rw [← Nat.xor_assoc, Nat.xor_self, Nat.zero_xor] at this
    exact this
  · obtain ⟨T, hT, rfl⟩ := q
    have key : ∀ m, m ≤ n → fo_rest rows (cf_xs L m T) k = 0 := by
      intro m
      induction m with
      | zero => intro _; exact fo_rest_0 rows k
      | succ m ih =>
        intro hm
        simp only [cf_xs]
        split
        · rw [fo_rest_lin fun i hi => (h.2.2.2.1 i hi).1, ih (by omega), h.2.2.2.2 m (by omega) (hT m (by assumption)), Nat.xor_zero]
        · exact ih (by omega)
    exact key n (Nat.le_refl n)
theorem fo_way_sp {L : Nat → Nat} {n B : Nat} {rows parts : Nat → Nat} {k : Nat} (h : fo_ok L n B rows parts k) {v : Nat} (q : cf_sp L n B v) : cf_xs L n (fo_way rows parts v k) = v := by
  have e := fo_way_eq h v k (Nat.le_refl k)
  rw [(fo_rest_iff h v).mpr q] at e
  have : v ^^^ (v ^^^ cf_xs L n (fo_way rows parts v k)) = v := by rw [← e, Nat.xor_zero]
  rw [← Nat.xor_assoc, Nat.xor_self, Nat.zero_xor] at this
  exact this
/-- the way is the only one -/
theorem fo_way_only {L : Nat → Nat} {n B : Nat} {rows parts : Nat → Nat} {k : Nat} (h : fo_ok L n B rows parts k) {v T : Nat} (hT : cf_sub T B) (e : cf_xs L n T = v) : ∀ i, i < n → (fo_way rows parts v k).testBit i = T.testBit i := by
  have w := fo_way_sp h ⟨T, hT, e⟩
  have s := fo_way_sub h v k (Nat.le_refl k)
  intro i hi
  have := h.2.1 (fo_way rows parts v k ^^^ T) (fun j hj => by
    rw [Nat.testBit_xor] at hj
    cases c : (fo_way rows parts v k).testBit j with
    | true => exact s j c
    | false => rw [c] at hj; exact hT j (by simpa using hj)) (by rw [cf_xs_xor, w, e, Nat.xor_self]) i hi
  rw [Nat.testBit_xor] at this
  cases c : (fo_way rows parts v k).testBit i <;> cases d : T.testBit i <;> simp [c, d] at this ⊢
def fo_up (f : Nat → Nat) (k v : Nat) : Nat → Nat := fun j => if j = k then v else f j
theorem fo_up_self (f : Nat → Nat) (k v : Nat) : fo_up f k v k = v := by simp [fo_up]
theorem fo_up_lt (f : Nat → Nat) {k j : Nat} (v : Nat) (h : j < k) : fo_up f k v j = f j := by simp [fo_up]; omega
theorem fo_take {L : Nat → Nat} {n B : Nat} {rows parts : Nat → Nat} {k e : Nat} (h : fo_ok L n B rows parts k) (he : e < n) (hr : fo_rest rows (L e) k ≠ 0) :
    fo_ok L n (B ||| 2 ^ e) (fo_up rows k (fo_rest rows (L e) k)) (fo_up parts k (fo_way rows parts (L e) k ^^^ 2 ^ e)) (k + 1) := by
  have hns : ¬ cf_sp L n B (L e) := fun q => hr ((fo_rest_iff h _).mpr q)
  have hBe : B.testBit e = false := by
    cases c : B.testBit e with
    | false => rfl
    | true => exact absurd (cf_sp_mem he c) hns
  have hB : cf_sub B (B ||| 2 ^ e) := fun i hi => by rw [cf_add_bit, hi]; rfl
  refine ⟨fun i hi => ?_, cf_ind_add he h.2.1 hns, by rw [cf_card_add he hBe, h.2.2.1], fun i hi => ?_, fun b hb hBb => ?_⟩
  · rw [cf_add_bit] at hi
    by_cases c : e = i
    · subst c; rw [cf_full_bit]; exact decide_eq_true he
    · exact h.1 i (by simpa [c] using hi)
  · rcases Nat.lt_or_ge i k with q | q
    · rw [fo_up_lt _ _ q, fo_up_lt _ _ q]
      have := h.2.2.2.1 i q
      exact ⟨this.1, this.2.1, cf_sub_tr this.2.2 hB⟩
    · have : i = k := by omega
      subst this
      rw [fo_up_self, fo_up_self]
      refine ⟨hr, ?_, fun j hj => ?_⟩
      · rw [cf_xs_xor, cf_xs_one he, fo_way_eq h (L e) i (Nat.le_refl i), Nat.xor_comm]
      · rw [Nat.testBit_xor, cf_one_bit] at hj
        rw [cf_add_bit]
        by_cases c : e = j
        · simp [c]
        · simp [c] at hj
          rw [fo_way_sub h (L e) i (Nat.le_refl i) j hj]; rfl
  · simp only [fo_rest]
    rw [fo_up_self, fo_rest_congr (rows' := rows) fun i hi => fo_up_lt _ _ hi]
    rw [cf_add_bit] at hBb
    by_cases c : e = b
    · subst c; exact fo_step_self _
    · rw [h.2.2.2.2 b hb (by simpa [c] using hBb), fo_step_0]
/-- how many edges it has is less than how many there are, where one can still be taken -/
theorem fo_room {L : Nat → Nat} {n B : Nat} {rows parts : Nat → Nat} {k e : Nat} (h : fo_ok L n B rows parts k) (he : e < n) (hr : fo_rest rows (L e) k ≠ 0) : k < n := by
  have := fo_take h he hr
  have h2 := cf_card_le n (B ||| 2 ^ e)
  rw [this.2.2.1] at h2
  omega
/-- a row of edges put to it, those that close a ring left out -/
abbrev fo_St : Type := (Nat → Nat) × (Nat → Nat) × Nat
def fo_takes (L : Nat → Nat) (e : Nat) (q : fo_St) : fo_St :=
  if fo_rest q.1 (L e) q.2.2 = 0 then q else (fo_up q.1 q.2.2 (fo_rest q.1 (L e) q.2.2), fo_up q.2.1 q.2.2 (fo_way q.1 q.2.1 (L e) q.2.2 ^^^ 2 ^ e), q.2.2 + 1)
def fo_fill (L : Nat → Nat) (S : Nat) (rows parts : Nat → Nat) : Nat → fo_St
  | 0 => (rows, parts, 0)
  | m + 1 => if S.testBit m = true then fo_takes L m (fo_fill L S rows parts m) else fo_fill L S rows parts m
theorem fo_fill_ok {L : Nat → Nat} {n S : Nat} {rows parts : Nat → Nat} : ∀ m, m ≤ n → ∃ B, fo_ok L n B (fo_fill L S rows parts m).1 (fo_fill L S rows parts m).2.1 (fo_fill L S rows parts m).2.2 ∧ cf_sub B S ∧ (∀ i, i < m → S.testBit i = true → cf_sp L n B (L i)) ∧ ∀ i, m ≤ i → B.testBit i = false := by
  intro m
  induction m with
  | zero => intro _; exact ⟨0, fo_ok_0 L n rows parts, cf_sub_0 S, fun i hi => absurd hi (Nat.not_lt_zero i), fun i _ => Nat.zero_testBit i⟩
  | succ m ih =>
    intro hm
    obtain ⟨B, h1, h2, h3, h4⟩ := ih (by omega)
    simp only [fo_fill]
    by_cases c : S.testBit m = true
    · rw [if_pos c]
      unfold fo_takes
      by_cases d : fo_rest (fo_fill L S rows parts m).1 (L m) (fo_fill L S rows parts m).2.2 = 0
      · rw [if_pos d]
        refine ⟨B, h1, h2, fun i hi hS => ?_, fun i hi => h4 i (by omega)⟩
        rcases Nat.lt_or_ge i m with r | r
        · exact h3 i r hS
        · have : i = m := by omega
          rw [this]; exact (fo_rest_iff h1 _).mp d
      · rw [if_neg d]
        have hB : cf_sub B (B ||| 2 ^ m) := fun i hi => by rw [cf_add_bit, hi]; rfl
        refine ⟨B ||| 2 ^ m, fo_take h1 (by omega) d, fun i hi => ?_, fun i hi hS => ?_, fun i hi => ?_⟩
        · rw [cf_add_bit] at hi
          by_cases r : m = i
          · subst r; exact c
          · exact h2 i (by simpa [r] using hi)
        · rcases Nat.lt_or_ge i m with r | r
          · exact cf_sp_mono hB (h3 i r hS)
          · have : i = m := by omega
            rw [this]; exact cf_sp_mem (by omega) (by rw [cf_add_bit]; simp)
        · rw [cf_add_bit, h4 i (by omega)]; simp; omega
    · rw [if_neg c]
      refine ⟨B, h1, h2, fun i hi hS => ?_, fun i hi => h4 i (by omega)⟩
      rcases Nat.lt_or_ge i m with r | r
      · exact h3 i r hS
      · have : i = m := by omega
        rw [this] at hS; exact absurd hS c
theorem fo_fill_rk (L : Nat → Nat) (n S : Nat) (rows parts : Nat → Nat) : (fo_fill L S rows parts n).2.2 = cf_rk L n S := by
  obtain ⟨B, h1, h2, h3, _⟩ := fo_fill_ok (L := L) (n := n) (S := S) (rows := rows) (parts := parts) n (Nat.le_refl n)
  rw [cf_rk_bas ⟨h2, h1.2.1, h3⟩, h1.2.2.1]
end
section
/-! THE COVER'S LOOPS -/
/-- a forest that is filled with an independent set holds all of it -/
theorem fo_fill_ind {L : Nat → Nat} {n S : Nat} {rows parts : Nat → Nat} (hS : cf_sub S (cf_full n)) (hi : cf_ind L n S) : fo_ok L n S (fo_fill L S rows parts n).1 (fo_fill L S rows parts n).2.1 (fo_fill L S rows parts n).2.2 := by
  obtain ⟨B, h1, h2, h3, h4⟩ := fo_fill_ok (L := L) (n := n) (S := S) (rows := rows) (parts := parts) n (Nat.le_refl n)
  have e : B = S := Nat.eq_of_testBit_eq fun i => by
    cases c : S.testBit i with
    | false =>
      cases d : B.testBit i with
      | false => rfl
      | true => rw [h2 i d] at c; cases c
    | true =>
      have hin : i < n := by have := hS i c; rw [cf_full_bit] at this; exact of_decide_eq_true this
      cases d : B.testBit i with
      | true => rfl
      | false =>
        refine absurd (cf_sp_mono (fun j hj => ?_) (h3 i hin c)) (cf_ind_nsp hin hi c)
        rw [cf_diff_bit, cf_one_bit, h2 j hj]
        by_cases q : i = j
        · subst q; rw [d] at hj; cases hj
        · simp [q]
  rw [← e]; exact e ▸ h1
def cv_first (M : Nat → Nat) (rows : Nat → Nat) (k : Nat) : Nat → Nat
  | 0 => 0
  | e + 1 => if fo_rest rows (M e) k = 0 then cv_first M rows k e else cv_first M rows k e ||| 2 ^ e
theorem cv_first_bit (M rows : Nat → Nat) (k n i : Nat) : (cv_first M rows k n).testBit i = (decide (i < n) && decide (fo_rest rows (M i) k ≠ 0)) := by
  induction n with
  | zero => simp [cv_first]
  | succ n ih =>
    simp only [cv_first]
    by_cases d : i = n
    · subst d
      by_cases c : fo_rest rows (M i) k = 0
      · rw [if_pos c, ih]; simp [c]
      · rw [if_neg c, cf_add_bit]; simp [c]
    · have e1 : decide (i < n + 1) = decide (i < n) := by simp; omega
      have e2 : decide (n = i) = false := decide_eq_false fun q => d q.symm
      split
      · rw [ih, e1]
      · rw [cf_add_bit, ih, e1, e2, Bool.or_false]
def cv_grown (I : Nat) (w1 w2 : Nat → Nat) (C : Nat) : Nat → Nat
  | 0 => C
  | e + 1 => if I.testBit e = true then cv_grown I w1 w2 C e else if (cv_grown I w1 w2 C e).testBit e = true then cv_grown I w1 w2 C e ||| w1 e
    else if w2 e &&& cv_grown I w1 w2 C e = 0 then cv_grown I w1 w2 C e else cv_grown I w1 w2 C e ||| 2 ^ e
def cv_rounds (I : Nat) (w1 w2 : Nat → Nat) (n C : Nat) : Nat → Nat
  | 0 => C
  | r + 1 => cv_grown I w1 w2 (cv_rounds I w1 w2 n C r) n
theorem cf_or_sub {A B C : Nat} (h : cf_sub A C) (k : cf_sub B C) : cf_sub (A ||| B) C := fun i hi => by
  rw [Nat.testBit_or] at hi
  cases c : A.testBit i with
  | true => exact h i c
  | false => rw [c, Bool.false_or] at hi; exact k i hi
theorem cf_sub_or (A B : Nat) : cf_sub A (A ||| B) := fun i hi => by rw [Nat.testBit_or, hi]; rfl
theorem cf_sub_or' (A B : Nat) : cf_sub B (A ||| B) := fun i hi => by rw [Nat.testBit_or, hi, Bool.or_true]
theorem cv_grown_le (I : Nat) (w1 w2 : Nat → Nat) (C : Nat) : ∀ m, cf_sub C (cv_grown I w1 w2 C m) := by
  intro m
  induction m with
  | zero => exact cf_sub_rf C
  | succ m ih =>
    simp only [cv_grown]
    split
    · exact ih
    · split
      · exact cf_sub_tr ih (cf_sub_or _ _)
      · split
        · exact ih
        · exact cf_sub_tr ih (cf_sub_or _ _)
theorem cv_grown_mono (I : Nat) (w1 w2 : Nat → Nat) (C : Nat) {a : Nat} : ∀ b, a ≤ b → cf_sub (cv_grown I w1 w2 C a) (cv_grown I w1 w2 C b) := by
  intro b
  induction b with
  | zero => intro h; have : a = 0 := by omega
            subst this; exact cf_sub_rf _
  | succ b ih =>
    intro h
    rcases Nat.lt_or_ge b a with q | q
    · have : a = b + 1 := by omega
      subst this; exact cf_sub_rf _
    · refine cf_sub_tr (ih q) ?_
      simp only [cv_grown]
      split
      · exact cf_sub_rf _
      · split
        · exact cf_sub_or _ _
        · split
          · exact cf_sub_rf _
          · exact cf_sub_or _ _
theorem cf_sub_anti {A B : Nat} (h : cf_sub A B) (k : cf_sub B A) : A = B := Nat.eq_of_testBit_eq fun i => by
  cases c : A.testBit i with
  | true => rw [h i c]
  | false =>
    cases d : B.testBit i with
    | false => rfl
    | true => rw [k i d] at c; cases c
/-- a round that adds nothing: the set is closed -/
theorem cv_closed {I : Nat} {w1 w2 : Nat → Nat} {C n : Nat} (h : cv_grown I w1 w2 C n = C) {e : Nat} (he : e < n) (hI : I.testBit e = false) : (C.testBit e = true → cf_sub (w1 e) C) ∧ (C.testBit e = false → w2 e &&& C = 0) := by
  have all : ∀ m, m ≤ n → cv_grown I w1 w2 C m = C := fun m hm => cf_sub_anti (by have := cv_grown_mono I w1 w2 C n hm; rw [h] at this; exact this) (cv_grown_le I w1 w2 C m)
  have h1 := all (e + 1) (by omega)
  simp only [cv_grown] at h1
  rw [all e (by omega), if_neg (by rw [hI]; simp)] at h1
  refine ⟨fun c => ?_, fun c => ?_⟩
  · rw [if_pos c] at h1
    have := cf_sub_or' C (w1 e)
    rw [h1] at this; exact this
  · rw [if_neg (by rw [c]; simp)] at h1
    by_cases d : w2 e &&& C = 0
    · exact d
    · rw [if_neg d] at h1
      have := cf_sub_or' C (2 ^ e) e (by rw [cf_one_bit]; simp)
      rw [h1, c] at this; cases this
theorem cv_rounds_fix {I : Nat} {w1 w2 : Nat → Nat} {n C : Nat} (hC : cf_sub C (cf_full n)) (hw : ∀ e, e < n → cf_sub (w1 e) (cf_full n)) : cf_sub (cv_rounds I w1 w2 n C n) (cf_full n) ∧ cv_grown I w1 w2 (cv_rounds I w1 w2 n C n) n = cv_rounds I w1 w2 n C n := by
  have hfull : ∀ C, cf_sub C (cf_full n) → ∀ m, m ≤ n → cf_sub (cv_grown I w1 w2 C m) (cf_full n) := by
    intro C hC m
    induction m with
    | zero => intro _; exact hC
    | succ m ih =>
      intro hm
      have h1 := ih (by omega)
      simp only [cv_grown]
      split
      · exact h1
      · split
        · exact cf_or_sub h1 (hw m (by omega))
        · split
          · exact h1
          · exact cf_or_sub h1 (cf_one_sub (by rw [cf_full_bit]; exact decide_eq_true (by omega)))
  have key : ∀ r, cf_sub (cv_rounds I w1 w2 n C r) (cf_full n) ∧ (cv_grown I w1 w2 (cv_rounds I w1 w2 n C r) n = cv_rounds I w1 w2 n C r ∨ r ≤ cf_card n (cv_rounds I w1 w2 n C r)) := by
    intro r
    induction r with
    | zero => exact ⟨hC, Or.inr (Nat.zero_le _)⟩
    | succ r ih =>
      obtain ⟨h1, h2⟩ := ih
      refine ⟨hfull _ h1 n (Nat.le_refl n), ?_⟩
      rcases h2 with h2 | h2
      · left
        simp only [cv_rounds]
        rw [h2, h2]
      · by_cases c : cv_grown I w1 w2 (cv_rounds I w1 w2 n C r) n = cv_rounds I w1 w2 n C r
        · left; simp only [cv_rounds]; rw [c, c]
        · right
          simp only [cv_rounds]
          rcases Nat.lt_or_ge (cf_card n (cv_rounds I w1 w2 n C r)) (cf_card n (cv_grown I w1 w2 (cv_rounds I w1 w2 n C r) n)) with q | q
          · omega
          · exfalso
            refine c (cf_sub_anti (fun i hi => ?_) (cv_grown_le _ _ _ _ _))
            have hin : i < n := by have := hfull _ h1 n (Nat.le_refl n) i hi; rw [cf_full_bit] at this; exact of_decide_eq_true this
            rw [cf_card_eq (cv_grown_le _ _ _ _ _) q i hin]; exact hi
  obtain ⟨k1, k2⟩ := key n
  refine ⟨k1, ?_⟩
  rcases k2 with k2 | k2
  · exact k2
  · have hall : cv_rounds I w1 w2 n C n = cf_full n := cf_sub_anti k1 fun i hi => by
      have hin : i < n := by rw [cf_full_bit] at hi; exact of_decide_eq_true hi
      have hc : cf_card n (cf_full n) ≤ cf_card n (cv_rounds I w1 w2 n C n) := Nat.le_trans (cf_card_le n _) k2
      rw [cf_card_eq k1 hc i hin]; exact hi
    exact cf_sub_anti (by rw [hall]; exact hfull _ (cf_sub_rf _) n (Nat.le_refl n)) (cv_grown_le _ _ _ _ _)
/-- THE COVER -/
theorem cv_ok {L M : Nat → Nat} {n I : Nat} {rows1 parts1 rows2 parts2 : Nat → Nat} {k1 k2 : Nat} (h : cf_com L M n I) (f1 : fo_ok L n I rows1 parts1 k1) (f2 : fo_ok M n I rows2 parts2 k2) :
    cf_sub (cv_rounds I (fun e => fo_way rows1 parts1 (L e) k1) (fun e => fo_way rows2 parts2 (M e) k2) n (cv_first M rows2 k2 n) n) (cf_full n)
    ∧ cf_cov L M n I (cv_rounds I (fun e => fo_way rows1 parts1 (L e) k1) (fun e => fo_way rows2 parts2 (M e) k2) n (cv_first M rows2 k2 n) n)
    ∧ ∀ A, cf_sub A (cf_full n) → cf_cov L M n I A → cf_sub (cv_rounds I (fun e => fo_way rows1 parts1 (L e) k1) (fun e => fo_way rows2 parts2 (M e) k2) n (cv_first M rows2 k2 n) n) A := by
  have hw1 : ∀ e, cf_sub (fo_way rows1 parts1 (L e) k1) I := fun e => fo_way_sub f1 _ k1 (Nat.le_refl k1)
  have hw2 : ∀ e, cf_sub (fo_way rows2 parts2 (M e) k2) I := fun e => fo_way_sub f2 _ k2 (Nat.le_refl k2)
  have hf0 : cf_sub (cv_first M rows2 k2 n) (cf_full n) := fun i hi => by
    rw [cv_first_bit] at hi
    rw [cf_full_bit]
    cases c : decide (i < n) with
    | true => rfl
    | false => rw [c] at hi; simp at hi
  obtain ⟨g1, g2⟩ := cv_rounds_fix (I := I) (w1 := fun e => fo_way rows1 parts1 (L e) k1) (w2 := fun e => fo_way rows2 parts2 (M e) k2) hf0 (fun e _ => cf_sub_tr (hw1 e) h.1)
  have hin : ∀ A, cf_sub A (cf_full n) → cf_cov L M n I A → ∀ r, cf_sub (cv_rounds I (fun e => fo_way rows1 parts1 (L e) k1) (fun e => fo_way rows2 parts2 (M e) k2) n (cv_first M rows2 k2 n) r) A := by
    intro A hA hc
    obtain ⟨s1, s2⟩ := cf_cov_sp h.2.1 h.2.2.1 hc
    have ia : cf_sub (I &&& A) I := fun i hi => by rw [Nat.testBit_and] at hi; cases c : I.testBit i <;> simp [c] at hi ⊢
    have id : cf_sub (cf_diff I A) I := fun i hi => by rw [cf_diff_bit] at hi; cases c : I.testBit i <;> simp [c] at hi ⊢
    intro r
    induction r with
    | zero =>
      intro i hi
      simp only [cv_rounds] at hi
      rw [cv_first_bit] at hi
      have hi1 : i < n := by
        by_cases c : i < n
        · exact c
        · simp [c] at hi
      have hi2 : fo_rest rows2 (M i) k2 ≠ 0 := by
        intro c; simp [c] at hi
      cases c : A.testBit i with
      | true => rfl
      | false => exact absurd ((fo_rest_iff f2 _).mpr (cf_sp_mono id (s2 i hi1 c))) hi2
    | succ r ih =>
      simp only [cv_rounds]
      have step : ∀ m, m ≤ n → cf_sub (cv_grown I (fun e => fo_way rows1 parts1 (L e) k1) (fun e => fo_way rows2 parts2 (M e) k2) (cv_rounds I (fun e => fo_way rows1 parts1 (L e) k1) (fun e => fo_way rows2 parts2 (M e) k2) n (cv_first M rows2 k2 n) r) m) A := by
        intro m
        induction m with
        | zero => intro _; exact ih
        | succ m ihm =>
          intro hm
          have h1 := ihm (by omega)
          simp only [cv_grown]
          split
          · exact h1
          · split
            · rename_i hmm
              refine cf_or_sub h1 fun i hi => ?_
              obtain ⟨T, t1, t2⟩ := s1 m (by omega) (h1 m hmm)
              have hin : i < n := by have := h.1 i (hw1 m i hi); rw [cf_full_bit] at this; exact of_decide_eq_true this
              have := fo_way_only f1 (cf_sub_tr t1 ia) t2 i hin
              rw [hi] at this
              have := t1 i this.symm
              rw [Nat.testBit_and] at this
              cases c : A.testBit i <;> simp [c] at this ⊢
            · split
              · exact h1
              · rename_i hne
                refine cf_or_sub h1 (cf_one_sub ?_)
                cases c : A.testBit m with
                | true => rfl
                | false =>
                  exfalso
                  obtain ⟨T, t1, t2⟩ := s2 m (by omega) c
                  refine hne (Nat.eq_of_testBit_eq fun i => ?_)
                  rw [Nat.testBit_and, Nat.zero_testBit]
                  cases d : (fo_way rows2 parts2 (M m) k2).testBit i with
                  | false => rfl
                  | true =>
                    have hin : i < n := by have := h.1 i (hw2 m i d); rw [cf_full_bit] at this; exact of_decide_eq_true this
                    have := fo_way_only f2 (cf_sub_tr t1 id) t2 i hin
                    rw [d] at this
                    have := t1 i this.symm
                    rw [cf_diff_bit] at this
                    have hAi : A.testBit i = false := by cases q : A.testBit i <;> simp [q] at this ⊢
                    rw [Bool.true_and]
                    cases q : (cv_grown I (fun e => fo_way rows1 parts1 (L e) k1) (fun e => fo_way rows2 parts2 (M e) k2) (cv_rounds I (fun e => fo_way rows1 parts1 (L e) k1) (fun e => fo_way rows2 parts2 (M e) k2) n (cv_first M rows2 k2 n) r) m).testBit i with
                    | false => rfl
                    | true => rw [h1 i q] at hAi; cases hAi
      exact step n (Nat.le_refl n)
  have hfirst : ∀ r, cf_sub (cv_first M rows2 k2 n) (cv_rounds I (fun e => fo_way rows1 parts1 (L e) k1) (fun e => fo_way rows2 parts2 (M e) k2) n (cv_first M rows2 k2 n) r) := by
    intro r
    induction r with
    | zero => exact cf_sub_rf _
    | succ r ih => exact cf_sub_tr ih (cv_grown_le _ _ _ _ _)
  refine ⟨g1, cf_cov_least h g1 (fun A a b => hin A a b n) (fun e he hC hI hs => ?_) (fun e he hC hI => ?_), fun A a b => hin A a b n⟩
  · have := (cv_closed g2 he hI).1 hC
    refine ⟨fo_way rows1 parts1 (L e) k1, fun i hi => ?_, fo_way_sp f1 hs⟩
    rw [Nat.testBit_and, hw1 e i hi, this i hi]; rfl
  · have := (cv_closed g2 he hI).2 hC
    have hs : cf_sp M n I (M e) := by
      refine (fo_rest_iff f2 _).mp ?_
      by_cases c : fo_rest rows2 (M e) k2 = 0
      · exact c
      · have := hfirst n e (by rw [cv_first_bit]; simp [he, c])
        rw [hC] at this; cases this
    refine ⟨fo_way rows2 parts2 (M e) k2, fun i hi => ?_, fo_way_sp f2 hs⟩
    rw [cf_diff_bit, hw2 e i hi]
    have q : (fo_way rows2 parts2 (M e) k2 &&& cv_rounds I (fun e => fo_way rows1 parts1 (L e) k1) (fun e => fo_way rows2 parts2 (M e) k2) n (cv_first M rows2 k2 n) n).testBit i = false := by
      rw [show fo_way rows2 parts2 (M e) k2 &&& cv_rounds I (fun e => fo_way rows1 parts1 (L e) k1) (fun e => fo_way rows2 parts2 (M e) k2) n (cv_first M rows2 k2 n) n = 0 from this]; exact Nat.zero_testBit i
    rw [Nat.testBit_and, hi, Bool.true_and] at q
    rw [q]; rfl
end
section
/-! THE COMMON SET: the search that tries sets with an edge before those without it -/
def cf_lex (A B : Nat) : Prop := ∃ i, A.testBit i = true ∧ B.testBit i = false ∧ ∀ j, j < i → A.testBit j = B.testBit j
theorem cf_lex_ir {A : Nat} (h : cf_lex A A) : False := by
  obtain ⟨i, h1, h2, _⟩ := h
  rw [h1] at h2; cases h2
theorem cf_lex_tr {A B C : Nat} (h : cf_lex A B) (k : cf_lex B C) : cf_lex A C := by
  obtain ⟨i, h1, h2, h3⟩ := h
  obtain ⟨j, k1, k2, k3⟩ := k
  rcases Nat.lt_trichotomy i j with q | q | q
  · exact ⟨i, h1, by rw [← k3 i q]; exact h2, fun x hx => by rw [h3 x hx, k3 x (by omega)]⟩
  · subst q; rw [h2] at k1; cases k1
  · exact ⟨j, by rw [h3 j q]; exact k1, k2, fun x hx => by rw [h3 x (by omega), k3 x hx]⟩
theorem cf_lex_or {A B : Nat} (h : A ≠ B) : cf_lex A B ∨ cf_lex B A := by
  have key : ∀ m, (∀ i, i < m → A.testBit i = B.testBit i) ∨ ∃ i, A.testBit i ≠ B.testBit i ∧ ∀ j, j < i → A.testBit j = B.testBit j := by
    intro m
    induction m with
    | zero => left; intro i hi; exact absurd hi (Nat.not_lt_zero i)
    | succ m ih =>
      rcases ih with q | q
      · by_cases c : A.testBit m = B.testBit m
        · left
          intro i hi
          rcases Nat.lt_or_ge i m with r | r
          · exact q i r
          · have : i = m := by omega
            rw [this]; exact c
        · right; exact ⟨m, c, q⟩
      · right; exact q
  obtain ⟨x, hx⟩ := Nat.exists_testBit_ne_of_ne h
  rcases key (x + 1) with q | ⟨i, h1, h2⟩
  · exact absurd (q x (by omega)) hx
  · cases c : A.testBit i with
    | true => left; exact ⟨i, c, by cases d : B.testBit i with
        | false => rfl
        | true => rw [c, d] at h1; exact absurd rfl h1, h2⟩
    | false => right; exact ⟨i, by cases d : B.testBit i with
        | true => rfl
        | false => rw [c, d] at h1; exact absurd rfl h1, c, fun j hj => (h2 j hj).symm⟩
/-- J is common, and below e it is the set -/
def se_ext (L M : Nat → Nat) (n e S J : Nat) : Prop := cf_sub J (cf_full n) ∧ cf_ind L n J ∧ cf_ind M n J ∧ ∀ i, i < e → J.testBit i = S.testBit i
def se_spec (L M : Nat → Nat) (n e S found r : Nat) : Prop :=
  (r = found ∧ ∀ J, se_ext L M n e S J → cf_card n J ≤ cf_card n found) ∨ (se_ext L M n e S r ∧ cf_card n found < cf_card n r ∧ ∀ J, se_ext L M n e S J → cf_card n J ≤ cf_card n r ∧ (cf_card n J = cf_card n r → r = J ∨ cf_lex r J))
theorem cf_card_split {n e S J : Nat} (he : e ≤ n) (h : ∀ i, i < e → J.testBit i = S.testBit i) (hS : ∀ i, e ≤ i → S.testBit i = false) : cf_card n J ≤ cf_card n S + (n - e) := by
  have k1 : cf_card e J = cf_card e S := cf_card_congr h
  have key : ∀ d, cf_card (e + d) J ≤ cf_card e J + d ∧ cf_card (e + d) S = cf_card e S := by
    intro d
    induction d with
    | zero => exact ⟨Nat.le_refl _, rfl⟩
    | succ d ih =>
      obtain ⟨a, b⟩ := ih
      refine ⟨?_, ?_⟩
      · show cf_card (e + d) J + (if J.testBit (e + d) = true then 1 else 0) ≤ _
        split <;> omega
      · show cf_card (e + d) S + (if S.testBit (e + d) = true then 1 else 0) = _
        rw [hS (e + d) (by omega), b]; simp
  obtain ⟨a, b⟩ := key (n - e)
  rw [show e + (n - e) = n by omega] at a b
  omega
theorem se_prune {L M : Nat → Nat} {n e S found lim : Nat} (he : e ≤ n) (hS : ∀ i, e ≤ i → S.testBit i = false) (hl : ∀ J, cf_ind L n J → cf_ind M n J → cf_card n J ≤ lim)
    (h : min lim (cf_card n S + n - e) ≤ cf_card n found) : se_spec L M n e S found found := by
  left
  refine ⟨rfl, fun J hJ => ?_⟩
  have h1 := hl J hJ.2.1 hJ.2.2.1
  have h2 := cf_card_split he hJ.2.2.2 hS
  omega
theorem se_leaf {L M : Nat → Nat} {n S found : Nat} (hS : cf_sub S (cf_full n)) (h1 : cf_ind L n S) (h2 : cf_ind M n S) (h : cf_card n found < cf_card n S) : se_spec L M n n S found S := by
  right
  refine ⟨⟨hS, h1, h2, fun _ _ => rfl⟩, h, fun J hJ => ?_⟩
  have e : S = J := Nat.eq_of_testBit_eq fun i => by
    rcases Nat.lt_or_ge i n with q | q
    · exact (hJ.2.2.2 i q).symm
    · rw [cf_sub_full hS q, cf_sub_full hJ.1 q]
  rw [← e]
  exact ⟨Nat.le_refl _, fun _ => Or.inl rfl⟩
theorem se_ext_in {L M : Nat → Nat} {n e S J : Nat} (h : se_ext L M n e S J) (c : J.testBit e = true) : se_ext L M n (e + 1) (S ||| 2 ^ e) J := by
  refine ⟨h.1, h.2.1, h.2.2.1, fun i hi => ?_⟩
  rw [cf_add_bit]
  by_cases q : e = i
  · subst q; rw [c]; simp
  · rw [h.2.2.2 i (by omega)]; simp [q]
theorem se_ext_out {L M : Nat → Nat} {n e S J : Nat} (hS : S.testBit e = false) (h : se_ext L M n e S J) (c : J.testBit e = false) : se_ext L M n (e + 1) S J := by
  refine ⟨h.1, h.2.1, h.2.2.1, fun i hi => ?_⟩
  by_cases q : e = i
  · subst q; rw [c, hS]
  · exact h.2.2.2 i (by omega)
theorem se_ext_up {L M : Nat → Nat} {n e S J : Nat} (h : se_ext L M n (e + 1) S J) : se_ext L M n e S J := ⟨h.1, h.2.1, h.2.2.1, fun i hi => h.2.2.2 i (by omega)⟩
theorem se_ext_upi {L M : Nat → Nat} {n e S J : Nat} (h : se_ext L M n (e + 1) (S ||| 2 ^ e) J) : se_ext L M n e S J ∧ J.testBit e = true := by
  refine ⟨⟨h.1, h.2.1, h.2.2.1, fun i hi => ?_⟩, ?_⟩
  · rw [h.2.2.2 i (by omega), cf_add_bit]
    have : ¬ e = i := by omega
    simp [this]
  · rw [h.2.2.2 e (by omega), cf_add_bit]; simp
theorem se_out {L M : Nat → Nat} {n e S found r : Nat} (hS : S.testBit e = false) (hn : ∀ J, se_ext L M n e S J → J.testBit e = false) (h : se_spec L M n (e + 1) S found r) : se_spec L M n e S found r := by
  rcases h with ⟨h1, h2⟩ | ⟨h1, h2, h3⟩
  · left; exact ⟨h1, fun J hJ => h2 J (se_ext_out hS hJ (hn J hJ))⟩
  · right; exact ⟨se_ext_up h1, h2, fun J hJ => h3 J (se_ext_out hS hJ (hn J hJ))⟩
theorem se_in {L M : Nat → Nat} {n e S found x y : Nat} (hS : S.testBit e = false) (h : se_spec L M n (e + 1) (S ||| 2 ^ e) found x) (k : se_spec L M n (e + 1) S x y) : se_spec L M n e S found y := by
  rcases h with ⟨h1, h2⟩ | ⟨h1, h2, h3⟩
  · subst h1
    rcases k with ⟨k1, k2⟩ | ⟨k1, k2, k3⟩
    · left
      refine ⟨k1, fun J hJ => ?_⟩
      cases c : J.testBit e with
      | true => exact h2 J (se_ext_in hJ c)
      | false => exact k2 J (se_ext_out hS hJ c)
    · right
      refine ⟨se_ext_up k1, k2, fun J hJ => ?_⟩
      cases c : J.testBit e with
      | true => have := h2 J (se_ext_in hJ c); exact ⟨by omega, fun _ => by omega⟩
      | false => exact k3 J (se_ext_out hS hJ c)
  · obtain ⟨h1a, h1b⟩ := se_ext_upi h1
    rcases k with ⟨k1, k2⟩ | ⟨k1, k2, k3⟩
    · subst k1
      right
      refine ⟨h1a, h2, fun J hJ => ?_⟩
      cases c : J.testBit e with
      | true => exact h3 J (se_ext_in hJ c)
      | false =>
        refine ⟨k2 J (se_ext_out hS hJ c), fun _ => Or.inr ⟨e, h1b, c, fun j hj => ?_⟩⟩
        rw [h1a.2.2.2 j hj, hJ.2.2.2 j hj]
    · right
      refine ⟨se_ext_up k1, by omega, fun J hJ => ?_⟩
      cases c : J.testBit e with
      | true => have := (h3 J (se_ext_in hJ c)).1; exact ⟨by omega, fun _ => by omega⟩
      | false => exact k3 J (se_ext_out hS hJ c)
/-- THE COMMON SET -/
def cm_spec (L M : Nat → Nat) (n I : Nat) : Prop := cf_com L M n I ∧ ∀ J, cf_sub J (cf_full n) → cf_ind L n J → cf_ind M n J → cf_card n J = cf_card n I → I = J ∨ cf_lex I J
theorem cm_of_se {L M : Nat → Nat} {n r : Nat} (h : se_spec L M n 0 0 0 r) : cm_spec L M n r := by
  have ext : ∀ J, cf_sub J (cf_full n) → cf_ind L n J → cf_ind M n J → se_ext L M n 0 0 J := fun J a b c => ⟨a, b, c, fun i hi => absurd hi (Nat.not_lt_zero i)⟩
  rcases h with ⟨h1, h2⟩ | ⟨h1, h2, h3⟩
  · subst h1
    refine ⟨⟨cf_sub_0 _, cf_ind_0 L n, cf_ind_0 M n, fun J a b c => h2 J (ext J a b c)⟩, fun J a b c d => Or.inl ?_⟩
    rw [cf_card_0] at d
    refine Nat.eq_of_testBit_eq fun i => ?_
    rw [Nat.zero_testBit]
    rcases Nat.lt_or_ge i n with q | q
    · have := cf_card_eq (n := n) (cf_sub_0 J) (by rw [d]; exact Nat.zero_le _) i q
      rw [Nat.zero_testBit] at this; exact this
    · exact (cf_sub_full a q).symm
  · exact ⟨⟨h1.1, h1.2.1, h1.2.2.1, fun J a b c => (h3 J (ext J a b c)).1⟩, fun J a b c d => (h3 J (ext J a b c)).2 d⟩
theorem cm_only {L M : Nat → Nat} {n I J : Nat} (h : cm_spec L M n I) (k : cm_spec L M n J) : I = J := by
  have c1 := h.1.2.2.2 J k.1.1 k.1.2.1 k.1.2.2.1
  have c2 := k.1.2.2.2 I h.1.1 h.1.2.1 h.1.2.2.1
  rcases h.2 J k.1.1 k.1.2.1 k.1.2.2.1 (by omega) with q | q
  · exact q
  · rcases k.2 I h.1.1 h.1.2.1 h.1.2.2.1 (by omega) with r | r
    · exact r.symm
    · exact absurd (cf_lex_tr q r) cf_lex_ir
end
section
/-! THE BEST FOREST: heaviest edges first -/
def gy_hv (f : Nat → Int32) (S : Nat) : Nat → Int32 × Nat
  | 0 => (-1000, 0)
  | e + 1 => if S.testBit e = true ∧ (gy_hv f S e).1 < f e then (f e, e) else gy_hv f S e
def gw_in (f : Nat → Int32) (n : Nat) : Prop := ∀ e, e < n → -999 ≤ (f e).toInt ∧ (f e).toInt ≤ 999
theorem gy_hvor {f : Nat → Int32} {S n : Nat} (hf : gw_in f n) : ∀ m, m ≤ n → ((∀ e, e < m → S.testBit e = false) ∧ gy_hv f S m = (-1000, 0)) ∨ ((gy_hv f S m).2 < m ∧ S.testBit (gy_hv f S m).2 = true ∧ (gy_hv f S m).1 = f (gy_hv f S m).2 ∧ ∀ e, e < m → S.testBit e = true → (f e).toInt < (f (gy_hv f S m).2).toInt ∨ ((f e).toInt = (f (gy_hv f S m).2).toInt ∧ (gy_hv f S m).2 ≤ e)) := by
  intro m
  induction m with
  | zero => intro _; left; exact ⟨fun e he => absurd he (Nat.not_lt_zero e), rfl⟩
  | succ m ih =>
    intro hm
    simp only [gy_hv]
    rcases ih (by omega) with ⟨h1, h2⟩ | ⟨h1, h2, h3, h4⟩
    · by_cases c : S.testBit m = true
      · right
        have q : (gy_hv f S m).1 < f m := by
          rw [h2, Int32.lt_iff_toInt_lt]
          have := hf m (by omega)
          have e1 : ((-1000 : Int32)).toInt = -1000 := by decide
          rw [e1]; omega
        rw [if_pos ⟨c, q⟩]
        refine ⟨by omega, c, rfl, fun e he hS => ?_⟩
        rcases Nat.lt_or_ge e m with r | r
        · rw [h1 e r] at hS; cases hS
        · have : e = m := by omega
          subst this; right; exact ⟨rfl, Nat.le_refl _⟩
      · left
        rw [if_neg fun q => c q.1]
        refine ⟨fun e he => ?_, h2⟩
        rcases Nat.lt_or_ge e m with r | r
        · exact h1 e r
        · have : e = m := by omega
          subst this
          cases d : S.testBit e with
          | false => rfl
          | true => exact absurd d c
    · right
      by_cases c : S.testBit m = true ∧ (gy_hv f S m).1 < f m
      · rw [if_pos c]
        have q := c.2
        rw [h3, Int32.lt_iff_toInt_lt] at q
        refine ⟨by omega, c.1, rfl, fun e he hS => ?_⟩
        rcases Nat.lt_or_ge e m with r | r
        · rcases h4 e r hS with s | s
          · left; show (f e).toInt < (f m).toInt; omega
          · left; show (f e).toInt < (f m).toInt; omega
        · have : e = m := by omega
          subst this; right; exact ⟨rfl, Nat.le_refl _⟩
      · rw [if_neg c]
        refine ⟨by omega, h2, h3, fun e he hS => ?_⟩
        rcases Nat.lt_or_ge e m with r | r
        · exact h4 e r hS
        · have : e = m := by omega
          subst this
          have q : ¬ (f (gy_hv f S e).2).toInt < (f e).toInt := fun q => c ⟨hS, by rw [h3, Int32.lt_iff_toInt_lt]; exact q⟩
          rcases Int.lt_or_eq_of_le (Int.not_lt.mp q) with s | s
          · left; exact s
          · right; exact ⟨s, by omega⟩
/-- the turns: what is untried, and the forest so far -/
def gy_U (f : Nat → Int32) (n : Nat) : Nat → Nat
  | 0 => cf_full n
  | t + 1 => cf_diff (gy_U f n t) (2 ^ (gy_hv f (gy_U f n t) n).2)
def gy_s (f : Nat → Int32) (n t : Nat) : Nat := (gy_hv f (gy_U f n t) n).2
theorem gy_U_card {f : Nat → Int32} {n : Nat} (hf : gw_in f n) : ∀ t, t ≤ n → cf_card n (gy_U f n t) = n - t ∧ (t < n → gy_s f n t < n ∧ (gy_U f n t).testBit (gy_s f n t) = true) := by
  have has : ∀ t, t < n → cf_card n (gy_U f n t) = n - t → gy_s f n t < n ∧ (gy_U f n t).testBit (gy_s f n t) = true := by
    intro t ht hc
    rcases gy_hvor (S := gy_U f n t) hf n (Nat.le_refl n) with ⟨h1, _⟩ | ⟨h1, h2, _, _⟩
    · rw [cf_card_none h1] at hc; omega
    · exact ⟨h1, h2⟩
  intro t
  induction t with
  | zero =>
    intro _
    have e : cf_card n (gy_U f n 0) = n - 0 := by
      show cf_card n (cf_full n) = n
      have key : ∀ m, m ≤ n → cf_card m (cf_full n) = m := by
        intro m
        induction m with
        | zero => intro _; rfl
        | succ m ih =>
          intro hm
          simp only [cf_card]
          rw [ih (by omega), cf_full_bit]
          have : m < n := by omega
          simp [this]
      exact key n (Nat.le_refl n)
    exact ⟨e, fun h => has 0 h e⟩
  | succ t ih =>
    intro ht
    obtain ⟨a, b⟩ := ih (by omega)
    obtain ⟨b1, b2⟩ := b (by omega)
    have e : cf_card n (gy_U f n (t + 1)) = n - (t + 1) := by
      have := cf_card_del b1 b2
      show cf_card n (cf_diff (gy_U f n t) (2 ^ gy_s f n t)) = _
      omega
    exact ⟨e, fun h => has (t + 1) h e⟩
theorem gy_U_le {f : Nat → Int32} {n a : Nat} : ∀ d, cf_sub (gy_U f n (a + d)) (gy_U f n a) := by
  intro d
  induction d with
  | zero => exact cf_sub_rf _
  | succ d ih =>
    refine cf_sub_tr (fun i hi => ?_) ih
    have hi : (cf_diff (gy_U f n (a + d)) (2 ^ gy_s f n (a + d))).testBit i = true := hi
    rw [cf_diff_bit] at hi
    cases c : (gy_U f n (a + d)).testBit i <;> simp [c] at hi ⊢
/-- an edge comes before another: it is heavier, or as heavy and less -/
def gy_lt (f : Nat → Int32) (a b : Nat) : Prop := (f b).toInt < (f a).toInt ∨ ((f b).toInt = (f a).toInt ∧ a < b)
theorem gy_sorted {f : Nat → Int32} {n i j : Nat} (hf : gw_in f n) (hij : i < j) (hj : j < n) : gy_lt f (gy_s f n i) (gy_s f n j) := by
  obtain ⟨_, hJ⟩ := gy_U_card hf j (by omega)
  obtain ⟨j1, j2⟩ := hJ hj
  have hsub := gy_U_le (f := f) (n := n) (a := i + 1) (j - (i + 1)) (gy_s f n j)
  rw [show i + 1 + (j - (i + 1)) = j by omega] at hsub
  have h1 := hsub j2
  have h1 : (cf_diff (gy_U f n i) (2 ^ gy_s f n i)).testBit (gy_s f n j) = true := h1
  rw [cf_diff_bit, cf_one_bit] at h1
  have hU : (gy_U f n i).testBit (gy_s f n j) = true := by cases c : (gy_U f n i).testBit (gy_s f n j) <;> simp [c] at h1 ⊢
  have hne : gy_s f n i ≠ gy_s f n j := fun q => by simp [q] at h1
  rcases gy_hvor (S := gy_U f n i) hf n (Nat.le_refl n) with ⟨k1, _⟩ | ⟨k1, k2, _, k4⟩
  · rw [k1 _ j1] at hU; cases hU
  · rcases k4 _ j1 hU with s | ⟨s, s2⟩
    · left; exact s
    · right; refine ⟨s, ?_⟩
      have : gy_s f n i ≤ gy_s f n j := s2
      omega
theorem gy_onto {f : Nat → Int32} {n x : Nat} (hf : gw_in f n) (hx : x < n) : ∃ t, t < n ∧ gy_s f n t = x := by
  have key : ∀ t, t ≤ n → (∃ u, u < t ∧ gy_s f n u = x) ∨ (gy_U f n t).testBit x = true := by
    intro t
    induction t with
    | zero => intro _; right; show (cf_full n).testBit x = true; rw [cf_full_bit]; exact decide_eq_true hx
    | succ t ih =>
      intro ht
      rcases ih (by omega) with ⟨u, h1, h2⟩ | h
      · left; exact ⟨u, by omega, h2⟩
      · by_cases c : gy_s f n t = x
        · left; exact ⟨t, by omega, c⟩
        · right
          show (cf_diff (gy_U f n t) (2 ^ gy_s f n t)).testBit x = true
          rw [cf_diff_bit, cf_one_bit, h]; simp [c]
  rcases key n (Nat.le_refl n) with ⟨u, h1, h2⟩ | h
  · exact ⟨u, h1, h2⟩
  · have := (gy_U_card hf n (Nat.le_refl n)).1
    have := cf_card_del hx h
    omega
/-- sums of weights -/
def gw_sum (f : Nat → Int32) : Nat → Nat → Int
  | 0, _ => 0
  | n + 1, S => gw_sum f n S + (if S.testBit n = true then (f n).toInt else 0)
theorem gw_congr {f : Nat → Int32} {n S T : Nat} (h : ∀ i, i < n → S.testBit i = T.testBit i) : gw_sum f n S = gw_sum f n T := by
  induction n with
  | zero => rfl
  | succ n ih => simp only [gw_sum]; rw [ih fun i hi => h i (by omega), h n (by omega)]
theorem gw_add {f : Nat → Int32} {n S e : Nat} (he : e < n) (hs : S.testBit e = false) : gw_sum f n (S ||| 2 ^ e) = gw_sum f n S + (f e).toInt := by
  induction n with
  | zero => omega
  | succ n ih =>
    simp only [gw_sum, cf_add_bit]
    by_cases c : e = n
    · subst c
      rw [gw_congr (T := S) (fun i hi => by rw [cf_add_bit]; simp; omega), hs]; simp
    · rw [ih (by omega)]; simp [c]; omega
/-- better: a greater sum, or the same and first in ORDER -/
def gw_bet (f : Nat → Int32) (n A B : Nat) : Prop := gw_sum f n B < gw_sum f n A ∨ (gw_sum f n B = gw_sum f n A ∧ cf_lex A B)
theorem gw_bet_tr {f : Nat → Int32} {n A B C : Nat} (h : gw_bet f n A B) (k : gw_bet f n B C) : gw_bet f n A C := by
  rcases h with h | ⟨h, h2⟩ <;> rcases k with k | ⟨k, k2⟩
  · left; omega
  · left; omega
  · left; omega
  · right; exact ⟨by omega, cf_lex_tr h2 k2⟩
theorem gw_bet_ir {f : Nat → Int32} {n A : Nat} (h : gw_bet f n A A) : False := by
  rcases h with h | ⟨_, h⟩
  · omega
  · exact cf_lex_ir h
theorem gw_swap {f : Nat → Int32} {n J x y : Nat} (hx : x < n) (hy : y < n) (hJx : J.testBit x = false) (hJy : J.testBit y = true) (hl : gy_lt f x y) : gw_bet f n (cf_diff J (2 ^ y) ||| 2 ^ x) J := by
  have hxy : y ≠ x := fun q => by rw [q, hJx] at hJy; cases hJy
  have b1 : (cf_diff J (2 ^ y)).testBit x = false := by rw [cf_diff_bit, hJx]; rfl
  have s1 := gw_add (f := f) hx b1
  have s2 := gw_add (f := f) (n := n) (S := cf_diff J (2 ^ y)) hy (by rw [cf_diff_bit, cf_one_bit]; simp)
  have e1 : cf_diff J (2 ^ y) ||| 2 ^ y = J := Nat.eq_of_testBit_eq fun i => by
    rw [cf_add_bit, cf_diff_bit, cf_one_bit]
    by_cases c : y = i
    · subst c; rw [hJy]; simp
    · simp [c]
  rw [e1] at s2
  rcases hl with h | ⟨h, h2⟩
  · left; omega
  · right
    refine ⟨by omega, x, by rw [cf_add_bit]; simp, hJx, fun j hj => ?_⟩
    rw [cf_add_bit, cf_diff_bit, cf_one_bit]
    have q1 : ¬ x = j := by omega
    have q2 : ¬ y = j := by omega
    simp [q1, q2]
/-- THE BEST FOREST -/
def be_spec (L : Nat → Nat) (f : Nat → Int32) (n F : Nat) : Prop := cf_sub F (cf_full n) ∧ cf_ind L n F ∧ cf_card n F = cf_rk L n (cf_full n) ∧ ∀ J, cf_sub J (cf_full n) → cf_ind L n J → cf_card n J = cf_rk L n (cf_full n) → F = J ∨ gw_bet f n F J
theorem be_only {L : Nat → Nat} {f : Nat → Int32} {n F G : Nat} (h : be_spec L f n F) (k : be_spec L f n G) : F = G := by
  rcases h.2.2.2 G k.1 k.2.1 k.2.2.1 with q | q
  · exact q
  · rcases k.2.2.2 F h.1 h.2.1 h.2.2.1 with r | r
    · exact r.symm
    · exact absurd (gw_bet_tr q r) gw_bet_ir
/-- F is what the turns make: an edge is in F just when what of F came before does not span it -/
def gy_ok (L : Nat → Nat) (f : Nat → Int32) (n t F : Nat) : Prop := cf_sub F (cf_full n) ∧ cf_ind L n F ∧ (∀ x, F.testBit x = true → ∃ u, u < t ∧ gy_s f n u = x) ∧ ∀ u, u < t → F.testBit (gy_s f n u) = false → ∃ T, cf_sub T F ∧ cf_sp L n T (L (gy_s f n u)) ∧ ∀ x, T.testBit x = true → ∃ v, v < u ∧ gy_s f n v = x
theorem gy_ok_0 (L : Nat → Nat) (f : Nat → Int32) (n : Nat) : gy_ok L f n 0 0 := ⟨cf_sub_0 _, cf_ind_0 L n, (fun x h => absurd h (by rw [Nat.zero_testBit]; exact Bool.false_ne_true)), fun u hu => absurd hu (Nat.not_lt_zero u)⟩
theorem gy_ok_in {L : Nat → Nat} {f : Nat → Int32} {n t F : Nat} (hf : gw_in f n) (ht : t < n) (h : gy_ok L f n t F) (hn : ¬ cf_sp L n F (L (gy_s f n t))) : gy_ok L f n (t + 1) (F ||| 2 ^ gy_s f n t) := by
  obtain ⟨a, b, c, d⟩ := h
  obtain ⟨s1, _⟩ := (gy_U_card hf t (by omega)).2 ht
  refine ⟨cf_or_sub a (cf_one_sub (by rw [cf_full_bit]; exact decide_eq_true s1)), cf_ind_add s1 b hn, fun x hx => ?_, fun u hu hF => ?_⟩
  · rw [cf_add_bit] at hx
    by_cases q : gy_s f n t = x
    · exact ⟨t, by omega, q⟩
    · obtain ⟨u, u1, u2⟩ := c x (by simpa [q] using hx)
      exact ⟨u, by omega, u2⟩
  · rw [cf_add_bit] at hF
    have hF1 : F.testBit (gy_s f n u) = false := by cases q : F.testBit (gy_s f n u) <;> simp [q] at hF ⊢
    have hut : u ≠ t := fun q => by simp [q] at hF
    obtain ⟨T, t1, t2, t3⟩ := d u (by omega) hF1
    exact ⟨T, cf_sub_tr t1 (cf_sub_or _ _), t2, t3⟩
theorem gy_ok_out {L : Nat → Nat} {f : Nat → Int32} {n t F : Nat} (h : gy_ok L f n t F) (hs : cf_sp L n F (L (gy_s f n t))) : gy_ok L f n (t + 1) F := by
  obtain ⟨a, b, c, d⟩ := h
  refine ⟨a, b, fun x hx => ?_, fun u hu hF => ?_⟩
  · obtain ⟨u, u1, u2⟩ := c x hx
    exact ⟨u, by omega, u2⟩
  · rcases Nat.lt_or_ge u t with q | q
    · exact d u q hF
    · have : u = t := by omega
      subst this
      exact ⟨F, cf_sub_rf F, hs, c⟩
/-- an independent set with as many elements as the rank spans all -/
theorem cf_sp_full {L : Nat → Nat} {n J : Nat} (hJ : cf_sub J (cf_full n)) (hi : cf_ind L n J) (hc : cf_card n J = cf_rk L n (cf_full n)) {x : Nat} (hx : x < n) : cf_sp L n J (L x) := by
  rcases Classical.em (cf_sp L n J (L x)) with q | q
  · exact q
  · exfalso
    have hJx : J.testBit x = false := by
      cases c : J.testBit x with
      | false => rfl
      | true => exact absurd (cf_sp_mem hx c) q
    have := cf_rk_ind (S := cf_full n) (cf_ind_add hx hi q) (fun j hj _ => by rw [cf_full_bit]; exact decide_eq_true hj)
    rw [cf_card_add hx hJx] at this
    omega
theorem gy_best {L : Nat → Nat} {f : Nat → Int32} {n F : Nat} (hf : gw_in f n) (h : gy_ok L f n n F) : be_spec L f n F := by
  obtain ⟨a, b, c, d⟩ := h
  have hcard : cf_card n F = cf_rk L n (cf_full n) := by
    refine (cf_rk_bas ⟨a, b, fun i hi _ => ?_⟩).symm
    cases q : F.testBit i with
    | true => exact cf_sp_mem hi q
    | false =>
      obtain ⟨t, t1, t2⟩ := gy_onto hf hi
      obtain ⟨T, s1, s2, _⟩ := d t t1 (by rw [t2]; exact q)
      rw [t2] at s2
      exact cf_sp_mono s1 s2
  refine ⟨a, b, hcard, ?_⟩
  have key : ∀ k J, cf_card n (cf_diff J F) = k → cf_sub J (cf_full n) → cf_ind L n J → cf_card n J = cf_rk L n (cf_full n) → F = J ∨ gw_bet f n F J := by
    intro k
    induction k with
    | zero =>
      intro J hk hJ hi hc
      left
      have hsub : cf_sub J F := fun i hi => by
        have hin : i < n := by have := hJ i hi; rw [cf_full_bit] at this; exact of_decide_eq_true this
        cases q : F.testBit i with
        | true => rfl
        | false =>
          have := cf_card_del (n := n) (S := cf_diff J F) hin (by rw [cf_diff_bit, hi, q]; rfl)
          omega
      refine Nat.eq_of_testBit_eq fun i => ?_
      rcases Nat.lt_or_ge i n with q | q
      · exact (cf_card_eq hsub (by omega) i q).symm
      · rw [cf_sub_full a q, cf_sub_full hJ q]
    | succ k ih =>
      intro J hk hJ hi hc
      right
      -- the first turn at which they differ
      have first : ∀ m, m ≤ n → (∀ t, t < m → F.testBit (gy_s f n t) = J.testBit (gy_s f n t)) ∨ ∃ t, t < n ∧ F.testBit (gy_s f n t) ≠ J.testBit (gy_s f n t) ∧ ∀ u, u < t → F.testBit (gy_s f n u) = J.testBit (gy_s f n u) := by
        intro m
        induction m with
        | zero => intro _; left; intro t ht; exact absurd ht (Nat.not_lt_zero t)
        | succ m ihm =>
          intro hm
          rcases ihm (by omega) with q | q
          · by_cases r : F.testBit (gy_s f n m) = J.testBit (gy_s f n m)
            · left
              intro t ht
              rcases Nat.lt_or_ge t m with w | w
              · exact q t w
              · have : t = m := by omega
                rw [this]; exact r
            · right; exact ⟨m, by omega, r, q⟩
          · right; exact q
      rcases first n (Nat.le_refl n) with q | ⟨t, t1, t2, t3⟩
      · exfalso
        obtain ⟨x, x1, x2⟩ := cf_card_some (n := n) (S := cf_diff J F) (by omega)
        obtain ⟨t, t1, t2⟩ := gy_onto hf x1
        have := q t t1
        rw [t2] at this
        rw [cf_diff_bit, this] at x2
        cases r : J.testBit x <;> simp [r] at x2
      · obtain ⟨s1, _⟩ := (gy_U_card hf t (by omega)).2 t1
        have hFt : F.testBit (gy_s f n t) = true := by
          cases r : F.testBit (gy_s f n t) with
          | true => rfl
          | false =>
            exfalso
            have hJt : J.testBit (gy_s f n t) = true := by
              cases w : J.testBit (gy_s f n t) with
              | true => rfl
              | false => rw [r, w] at t2; exact absurd rfl t2
            obtain ⟨T, p1, p2, p3⟩ := d t t1 r
            refine cf_ind_nsp s1 hi hJt (cf_sp_mono (fun x hx => ?_) p2)
            obtain ⟨v, v1, v2⟩ := p3 x hx
            have hFx := p1 x hx
            have := t3 v v1
            rw [v2, hFx] at this
            rw [cf_diff_bit, ← this, cf_one_bit]
            have hne : ¬ gy_s f n t = x := fun w => by rw [w, hFx] at r; cases r
            simp [hne]
        have hJt : J.testBit (gy_s f n t) = false := by
          cases w : J.testBit (gy_s f n t) with
          | false => rfl
          | true => rw [hFt, w] at t2; exact absurd rfl t2
        obtain ⟨T, p1, p2⟩ := cf_sp_full hJ hi hc s1
        -- one of the circle that F has not
        have hex : ∃ y, y < n ∧ T.testBit y = true ∧ F.testBit y = false := by
          rcases Classical.em (∃ y, y < n ∧ T.testBit y = true ∧ F.testBit y = false) with q | q
          · exact q
          · exfalso
            have hT : (T &&& cf_full n).testBit (gy_s f n t) = false := by
              rw [Nat.testBit_and]
              cases w : T.testBit (gy_s f n t) with
              | false => rfl
              | true => rw [p1 _ w] at hJt; cases hJt
            refine cf_ind_nsp s1 b hFt ⟨T &&& cf_full n, fun x hx => ?_, ?_⟩
            · have hx0 := hx
              rw [Nat.testBit_and, cf_full_bit] at hx
              have hxn : x < n := by
                by_cases w : x < n
                · exact w
                · simp [w] at hx
              have hTx : T.testBit x = true := by simpa [hxn] using hx
              have hFx : F.testBit x = true := by
                cases w : F.testBit x with
                | true => rfl
                | false => exact absurd ⟨x, hxn, hTx, w⟩ q
              have hne : ¬ gy_s f n t = x := fun w => by rw [← w, hT] at hx0; cases hx0
              rw [cf_diff_bit, cf_one_bit, hFx]; simp [hne]
            · rw [← p2]
              exact cf_xs_congr fun i hi => by rw [Nat.testBit_and, cf_full_bit]; simp [hi]
        obtain ⟨y, y1, y2, y3⟩ := hex
        have hJy := p1 y y2
        obtain ⟨v, v1, v2⟩ := gy_onto hf y1
        have hvt : t < v := by
          rcases Nat.lt_trichotomy t v with w | w | w
          · exact w
          · rw [← w] at v2; rw [v2, y3] at hFt; cases hFt
          · have := t3 v w
            rw [v2, y3, hJy] at this; cases this
        have hlt := gy_sorted hf hvt v1
        rw [v2] at hlt
        have hne : y ≠ gy_s f n t := fun w => by rw [w, hFt] at y3; cases y3
        have hns : ¬ cf_sp L n (cf_diff J (2 ^ y)) (L (gy_s f n t)) := by
          rintro ⟨V, w1, w2⟩
          have hJs : cf_sub (cf_diff J (2 ^ y)) J := fun i hi => by rw [cf_diff_bit] at hi; cases r : J.testBit i <;> simp [r] at hi ⊢
          have := hi (T ^^^ V) (fun i hi => by
            rw [Nat.testBit_xor] at hi
            cases r : T.testBit i with
            | true => exact p1 i r
            | false => rw [r] at hi; exact hJs i (w1 i (by simpa using hi))) (by rw [cf_xs_xor, p2, w2, Nat.xor_self]) y y1
          rw [Nat.testBit_xor, y2] at this
          have hV : V.testBit y = true := by cases r : V.testBit y <;> simp [r] at this ⊢
          have := w1 y hV
          rw [cf_diff_bit, cf_one_bit] at this
          simp at this
        have hJ0 : cf_ind L n (cf_diff J (2 ^ y)) := cf_ind_sub (fun i hi => by rw [cf_diff_bit] at hi; cases r : J.testBit i <;> simp [r] at hi ⊢) hi
        have hb0 : (cf_diff J (2 ^ y)).testBit (gy_s f n t) = false := by rw [cf_diff_bit, hJt]; rfl
        have hbet := gw_swap (f := f) s1 y1 hJt hJy hlt
        have hc1 := cf_card_add (n := n) s1 hb0
        have hc2 := cf_card_del y1 hJy
        have hk2 : cf_card n (cf_diff (cf_diff J (2 ^ y) ||| 2 ^ gy_s f n t) F) = k := by
          have := cf_card_del (n := n) (S := cf_diff J F) y1 (by rw [cf_diff_bit, hJy, y3]; rfl)
          rw [hk] at this
          rw [← Nat.add_right_cancel this]
          refine cf_card_congr fun i _ => ?_
          rw [cf_diff_bit, cf_add_bit, cf_diff_bit, cf_one_bit, cf_diff_bit, cf_diff_bit, cf_one_bit]
          by_cases r : gy_s f n t = i
          · rw [← r, hFt]; simp
          · simp [r]; cases J.testBit i <;> cases F.testBit i <;> simp
        have hJ' : cf_sub (cf_diff J (2 ^ y) ||| 2 ^ gy_s f n t) (cf_full n) := cf_or_sub (fun i hi => by rw [cf_diff_bit] at hi; exact hJ i (by cases r : J.testBit i <;> simp [r] at hi ⊢)) (cf_one_sub (by rw [cf_full_bit]; exact decide_eq_true s1))
        rcases ih _ hk2 hJ' (cf_ind_add s1 hJ0 hns) (by omega) with w | w
        · rw [← w] at hbet; exact hbet
        · exact gw_bet_tr w hbet
  exact fun J => key _ J rfl
end
section
/-! THE SAME CIRCLES: what two rows of lines have in common; packing, shifting, putting side by side, tying together -/
def cy_eq (L M : Nat → Nat) (n : Nat) : Prop := ∀ T, cf_sub T (cf_full n) → (cf_xs L n T = 0 ↔ cf_xs M n T = 0)
theorem cy_rf (L : Nat → Nat) (n : Nat) : cy_eq L L n := fun _ _ => Iff.rfl
theorem cy_sym {L M : Nat → Nat} {n : Nat} (h : cy_eq L M n) : cy_eq M L n := fun T hT => (h T hT).symm
theorem cy_tr {L M N : Nat → Nat} {n : Nat} (h : cy_eq L M n) (k : cy_eq M N n) : cy_eq L N n := fun T hT => (h T hT).trans (k T hT)
theorem cf_cut (n T : Nat) : cf_sub (T &&& cf_full n) (cf_full n) := fun i hi => by rw [Nat.testBit_and] at hi; cases c : (cf_full n).testBit i <;> simp [c] at hi ⊢
theorem cf_cut_bit {n T i : Nat} (hi : i < n) : (T &&& cf_full n).testBit i = T.testBit i := by rw [Nat.testBit_and, cf_full_bit]; simp [hi]
theorem cf_cut_xs (L : Nat → Nat) (n T : Nat) : cf_xs L n (T &&& cf_full n) = cf_xs L n T := cf_xs_congr fun _ hi => cf_cut_bit hi
theorem cy_ind {L M : Nat → Nat} {n S : Nat} (h : cy_eq L M n) (hi : cf_ind L n S) : cf_ind M n S := by
  intro T hT h0 i hin
  have h1 := (h (T &&& cf_full n) (cf_cut n T)).mpr (by rw [cf_cut_xs]; exact h0)
  have := hi (T &&& cf_full n) (fun j hj => by rw [Nat.testBit_and] at hj; exact hT j (by cases c : T.testBit j <;> simp [c] at hj ⊢)) h1 i hin
  rw [cf_cut_bit hin] at this; exact this
theorem cy_rk {L M : Nat → Nat} {n : Nat} (h : cy_eq L M n) (S : Nat) : cf_rk L n S = cf_rk M n S := by
  have key : ∀ {L M : Nat → Nat}, cy_eq L M n → cf_rk L n S ≤ cf_rk M n S := by
    intro L M h
    obtain ⟨B, hb⟩ := cf_bas_ex L n S
    rw [cf_rk_bas hb]
    exact cf_rk_ind (cy_ind h hb.2.1) fun j _ hj => hb.1 j hj
  exact Nat.le_antisymm (key h) (key (cy_sym h))
theorem cy_com {L L' M M' : Nat → Nat} {n I : Nat} (h : cy_eq L L' n) (k : cy_eq M M' n) (c : cf_com L M n I) : cf_com L' M' n I :=
  ⟨c.1, cy_ind h c.2.1, cy_ind k c.2.2.1, fun J a b d => c.2.2.2 J a (cy_ind (cy_sym h) b) (cy_ind (cy_sym k) d)⟩
theorem cy_cm {L L' M M' : Nat → Nat} {n I : Nat} (h : cy_eq L L' n) (k : cy_eq M M' n) (c : cm_spec L M n I) : cm_spec L' M' n I :=
  ⟨cy_com h k c.1, fun J a b d => c.2 J a (cy_ind (cy_sym h) b) (cy_ind (cy_sym k) d)⟩
theorem cy_be {L L' : Nat → Nat} {f : Nat → Int32} {n F : Nat} (h : cy_eq L L' n) (c : be_spec L f n F) : be_spec L' f n F :=
  ⟨c.1, cy_ind h c.2.1, by rw [← cy_rk h]; exact c.2.2.1, fun J a b d => c.2.2.2 J a (cy_ind (cy_sym h) b) (by rw [cy_rk h]; exact d)⟩
theorem cy_cov {L L' M M' : Nat → Nat} {n I A : Nat} (h : cy_eq L L' n) (k : cy_eq M M' n) (c : cf_cov L M n I A) : cf_cov L' M' n I A := by
  unfold cf_cov at c ⊢
  rw [← cy_rk h, ← cy_rk k]; exact c
/-- sums stay below a power of two -/
theorem cf_xs_lt {L : Nat → Nat} {n T k : Nat} (h : ∀ i, i < n → T.testBit i = true → L i < 2 ^ k) : cf_xs L n T < 2 ^ k := by
  induction n with
  | zero => exact Nat.two_pow_pos k
  | succ n ih =>
    simp only [cf_xs]
    have h1 := ih fun i hi => h i (by omega)
    split
    · exact Nat.xor_lt_two_pow h1 (h n (by omega) (by assumption))
    · exact h1
theorem cf_xs_sub {L : Nat → Nat} {n T m : Nat} (h : ∀ i, i < n → T.testBit i = true → cf_sub (L i) m) : cf_sub (cf_xs L n T) m := by
  induction n with
  | zero => exact cf_sub_0 m
  | succ n ih =>
    simp only [cf_xs]
    have h1 := ih fun i hi => h i (by omega)
    split
    · intro j hj
      rw [Nat.testBit_xor] at hj
      cases c : (cf_xs L n T).testBit j with
      | true => exact h1 j c
      | false => rw [c] at hj; exact h n (by omega) (by assumption) j (by simpa using hj)
    · exact h1
/-- a map that keeps sums, over a sum -/
theorem cf_xs_map {L : Nat → Nat} {φ : Nat → Nat} (h0 : φ 0 = 0) (hx : ∀ a b, φ (a ^^^ b) = φ a ^^^ φ b) (n T : Nat) : cf_xs (fun e => φ (L e)) n T = φ (cf_xs L n T) := by
  induction n with
  | zero => exact h0.symm
  | succ n ih =>
    simp only [cf_xs]
    split
    · rw [ih, hx]
    · exact ih
/-- the place of a vertex among those that are met -/
def pq_ix (met i : Nat) : Nat := cf_card i met
def pq_of (met v : Nat) : Nat := cf_xs (fun i => 2 ^ pq_ix met i) 32 v
theorem pq_ix_lt {met i j : Nat} (h : i < j) (hi : met.testBit i = true) : pq_ix met i < pq_ix met j := by
  unfold pq_ix
  have key : ∀ d, cf_card (i + d) met ≤ cf_card (i + d + 1) met := fun d => by
    show _ ≤ cf_card (i + d) met + _
    omega
  have k2 : ∀ d, cf_card (i + 1) met ≤ cf_card (i + 1 + d) met := by
    intro d
    induction d with
    | zero => exact Nat.le_refl _
    | succ d ih => exact Nat.le_trans ih (by have := key (1 + d); rw [show i + (1 + d) = i + 1 + d by omega] at this; exact this)
  have k3 := k2 (j - (i + 1))
  rw [show i + 1 + (j - (i + 1)) = j by omega] at k3
  have : cf_card (i + 1) met = cf_card i met + 1 := by simp only [cf_card]; rw [if_pos hi]
  omega
theorem pq_inj {met v : Nat} (hv : cf_sub v met) (hn : v < 2 ^ 32) (h : pq_of met v = 0) : v = 0 := by
  have key : ∀ m, cf_xs (fun i => 2 ^ pq_ix met i) m v = 0 → ∀ i, i < m → v.testBit i = false := by
    intro m
    induction m with
    | zero => intro _ i hi; exact absurd hi (Nat.not_lt_zero i)
    | succ m ih =>
      intro h0 i hi
      simp only [cf_xs] at h0
      by_cases c : v.testBit m = true
      · exfalso
        rw [if_pos c] at h0
        have hl : cf_xs (fun i => 2 ^ pq_ix met i) m v < 2 ^ pq_ix met m := cf_xs_lt fun j hj hb => Nat.pow_lt_pow_right (by omega) (pq_ix_lt hj (hv j hb))
        have : (cf_xs (fun i => 2 ^ pq_ix met i) m v ^^^ 2 ^ pq_ix met m).testBit (pq_ix met m) = true := by
          rw [Nat.testBit_xor, Nat.testBit_lt_two_pow hl, cf_one_bit]; simp
        rw [h0, Nat.zero_testBit] at this; cases this
      · rw [if_neg c] at h0
        rcases Nat.lt_or_ge i m with q | q
        · exact ih h0 i q
        · have : i = m := by omega
          rw [this]
          cases d : v.testBit m with
          | false => rfl
          | true => exact absurd d c
  refine Nat.eq_of_testBit_eq fun i => ?_
  rw [Nat.zero_testBit]
  rcases Nat.lt_or_ge i 32 with q | q
  · exact key 32 h i q
  · exact Nat.testBit_lt_two_pow (Nat.lt_of_lt_of_le hn (Nat.pow_le_pow_right (by omega) q))
theorem pq_xor (met a b : Nat) : pq_of met (a ^^^ b) = pq_of met a ^^^ pq_of met b := cf_xs_xor _ 32 a b
theorem pq_0 (met : Nat) : pq_of met 0 = 0 := cf_xs_0 _ 32
theorem pq_one (met : Nat) {i : Nat} (hi : i < 32) : pq_of met (2 ^ i) = 2 ^ pq_ix met i := cf_xs_one hi
/-- packed lines make the same circles -/
theorem pq_cy {L : Nat → Nat} {n met : Nat} (hm : ∀ e, e < n → cf_sub (L e) met) (hl : ∀ e, e < n → L e < 2 ^ 32) : cy_eq L (fun e => pq_of met (L e)) n := by
  intro T _
  rw [cf_xs_map (pq_0 met) (pq_xor met)]
  refine ⟨fun h => by rw [h, pq_0], fun h => pq_inj (cf_xs_sub fun i hi _ => hm i hi) (cf_xs_lt fun i hi _ => hl i hi) h⟩
/-- below the count of what is met -/
theorem pq_lt {met v : Nat} (hv : cf_sub v met) (hm : met < 2 ^ 32) : pq_of met v < 2 ^ cf_card 32 met := by
  refine cf_xs_lt fun i hi hb => Nat.pow_lt_pow_right (by omega) ?_
  exact pq_ix_lt hi (hv i hb)
/-- two rows of lines, one behind the other, the second's lines above a power of two -/
def bs_L (L M : Nat → Nat) (n sh : Nat) : Nat → Nat := fun e => if e < n then L e else M (e - n) * 2 ^ sh
theorem bs_xs {L M : Nat → Nat} {n sh : Nat} : ∀ k T, cf_xs (bs_L L M n sh) (n + k) T = cf_xs L n T ^^^ (cf_xs M k (T / 2 ^ n) * 2 ^ sh) := by
  intro k
  induction k with
  | zero =>
    intro T
    rw [show cf_xs M 0 (T / 2 ^ n) = 0 from rfl, Nat.zero_mul, Nat.xor_zero, Nat.add_zero]
    exact cf_xs_congrL fun i hi _ => by simp [bs_L, hi]
  | succ k ih =>
    intro T
    rw [← Nat.add_assoc]
    simp only [cf_xs]
    rw [ih, Nat.testBit_div_two_pow, Nat.add_comm k n]
    by_cases c : T.testBit (n + k) = true
    · rw [if_pos c, if_pos c]
      have e : bs_L L M n sh (n + k) = M k * 2 ^ sh := by
        unfold bs_L
        rw [if_neg (by omega), Nat.add_sub_cancel_left]
      rw [e, Nat.xor_assoc, ← Nat.shiftLeft_eq, ← Nat.shiftLeft_eq, ← Nat.shiftLeft_eq, Nat.shiftLeft_xor_distrib]
    · rw [if_neg c, if_neg c]
theorem bs_zero {a b sh : Nat} (ha : a < 2 ^ sh) : a ^^^ (b * 2 ^ sh) = 0 ↔ a = 0 ∧ b = 0 := by
  refine ⟨fun h => ?_, fun ⟨h, k⟩ => by rw [h, k, Nat.zero_mul, Nat.xor_zero]⟩
  have e : a = b * 2 ^ sh := by
    have : (a ^^^ (b * 2 ^ sh)) ^^^ (b * 2 ^ sh) = b * 2 ^ sh := by rw [h, Nat.zero_xor]
    rw [cf_xc] at this; exact this
  have hb : b = 0 := by
    rcases Nat.eq_zero_or_pos b with q | q
    · exact q
    · exfalso
      have : 1 * 2 ^ sh ≤ b * 2 ^ sh := Nat.mul_le_mul_right _ q
      omega
  subst hb
  rw [Nat.zero_mul] at e
  exact ⟨e, rfl⟩
/-- graphs side by side: circles are those of the one and those of the other -/
theorem bs_cy {L M : Nat → Nat} {n k sh : Nat} (hL : ∀ e, e < n → L e < 2 ^ sh) (T : Nat) : cf_xs (bs_L L M n sh) (n + k) T = 0 ↔ cf_xs L n T = 0 ∧ cf_xs M k (T / 2 ^ n) = 0 := by
  rw [bs_xs]
  exact bs_zero (cf_xs_lt fun i hi _ => hL i hi)
theorem bs_eq {L M L' M' : Nat → Nat} {n k sh sh' : Nat} (hL : ∀ e, e < n → L e < 2 ^ sh) (hL' : ∀ e, e < n → L' e < 2 ^ sh') (h : cy_eq L L' n) (q : cy_eq M M' k) : cy_eq (bs_L L M n sh) (bs_L L' M' n sh') (n + k) := by
  intro T hT
  rw [bs_cy hL, bs_cy hL']
  have e1 : cf_xs L n T = 0 ↔ cf_xs L' n T = 0 := by
    rw [← cf_cut_xs L, ← cf_cut_xs L']; exact h _ (cf_cut n T)
  have e2 : cf_xs M k (T / 2 ^ n) = 0 ↔ cf_xs M' k (T / 2 ^ n) = 0 := by
    rw [← cf_cut_xs M, ← cf_cut_xs M']; exact q _ (cf_cut k _)
  rw [e1, e2]
/-- lines of two ends -/
def gl_two (v : Nat) : Prop := ∃ a b, a < 24 ∧ b < 24 ∧ v = 2 ^ a ^^^ 2 ^ b
theorem gl_lt {v : Nat} (h : gl_two v) : v < 2 ^ 24 := by
  obtain ⟨a, b, ha, hb, rfl⟩ := h
  exact Nat.xor_lt_two_pow (Nat.pow_lt_pow_right (by omega) ha) (Nat.pow_lt_pow_right (by omega) hb)
theorem gl_step {r row : Nat} (hr : gl_two r) (hw : gl_two row) : gl_two (fo_step r row) := by
  unfold fo_step
  by_cases c : r ^^^ row < r
  · rw [if_pos c]
    have hne : row ≠ 0 := fun q => by rw [q, Nat.xor_zero] at c; omega
    have ht := (fo_top hne).mp c
    have h2 := Nat.testBit_log2 hne
    obtain ⟨a, b, ha, hb, rfl⟩ := hr
    obtain ⟨x, y, hx, hy, rfl⟩ := hw
    generalize (2 ^ x ^^^ 2 ^ y).log2 = t at ht h2
    rw [Nat.testBit_xor, cf_one_bit, cf_one_bit] at ht h2
    have k1 : a = t ∨ b = t := by
      by_cases q : a = t
      · exact Or.inl q
      · by_cases q2 : b = t
        · exact Or.inr q2
        · simp [q, q2] at ht
    have k2 : x = t ∨ y = t := by
      by_cases q : x = t
      · exact Or.inl q
      · by_cases q2 : y = t
        · exact Or.inr q2
        · simp [q, q2] at h2
    rcases k1 with rfl | rfl <;> rcases k2 with rfl | rfl
    · exact ⟨b, y, hb, hy, by rw [cf_x4, Nat.xor_self, Nat.zero_xor]⟩
    · exact ⟨b, x, hb, hx, by rw [Nat.xor_comm (2 ^ x), cf_x4, Nat.xor_self, Nat.zero_xor]⟩
    · exact ⟨a, y, ha, hy, by rw [Nat.xor_comm (2 ^ a), cf_x4, Nat.xor_self, Nat.zero_xor]⟩
    · exact ⟨a, x, ha, hx, by rw [cf_x4, Nat.xor_self, Nat.xor_zero]⟩
  · rw [if_neg c]; exact hr
theorem gl_rest {rows : Nat → Nat} {v k : Nat} (hv : gl_two v) (h : ∀ i, i < k → gl_two (rows i)) : gl_two (fo_rest rows v k) := by
  induction k with
  | zero => exact hv
  | succ k ih => exact gl_step (ih fun i hi => h i (by omega)) (h k (by omega))
theorem gl_fill {L : Nat → Nat} {n S : Nat} {rows parts : Nat → Nat} (hL : ∀ e, e < n → gl_two (L e)) : ∀ m, m ≤ n → ∀ i, i < (fo_fill L S rows parts m).2.2 → gl_two ((fo_fill L S rows parts m).1 i) := by
  intro m
  induction m with
  | zero => intro _ i hi; exact absurd hi (Nat.not_lt_zero i)
  | succ m ih =>
    intro hm
    have h1 := ih (by omega)
    simp only [fo_fill]
    split
    · unfold fo_takes
      split
      · exact h1
      · intro i hi
        dsimp only at hi ⊢
        rcases Nat.lt_or_ge i (fo_fill L S rows parts m).2.2 with q | q
        · rw [fo_up_lt _ _ q]; exact h1 i q
        · have : i = (fo_fill L S rows parts m).2.2 := by omega
          rw [this, fo_up_self]
          exact gl_rest (hL m (by omega)) h1
    · exact h1
/-- tied together: a sum of rests is nothing just when the sum of the lines is spanned -/
theorem gl_tied {L : Nat → Nat} {n B : Nat} {rows parts : Nat → Nat} {k : Nat} (h : fo_ok L n B rows parts k) (T : Nat) : cf_xs (fun e => fo_rest rows (L e) k) n T = 0 ↔ cf_sp L n B (cf_xs L n T) := by
  rw [cf_xs_map (φ := fun v => fo_rest rows v k) (fo_rest_0 rows k) (fun a b => fo_rest_lin fun i hi => (h.2.2.2.1 i hi).1)]
  exact fo_rest_iff h _
end
section
/-! HOW MANY BITS: the sums of pairs, of fours, of eights -/
theorem bc_split (k a M c : Nat) (hc : c < 2 ^ k) : a &&& (2 ^ k * M + c) = 2 ^ k * ((a / 2 ^ k) &&& M) + ((a % 2 ^ k) &&& c) := by
  have h2 : (a % 2 ^ k) &&& c < 2 ^ k := Nat.and_lt_two_pow _ hc
  refine Nat.eq_of_testBit_eq fun j => ?_
  rw [Nat.testBit_and, Nat.testBit_two_pow_mul_add _ hc, Nat.testBit_two_pow_mul_add _ h2]
  by_cases q : j < k
  · rw [if_pos q, if_pos q, Nat.testBit_and, Nat.testBit_mod_two_pow]
    simp [q]
  · rw [if_neg q, if_neg q, Nat.testBit_and, Nat.testBit_div_two_pow]
    rw [show j - k + k = j by omega]
def bc_p (d : Nat) : Nat := d - d / 2
def bc_M : Nat → Nat
  | 0 => 0
  | j + 1 => 4 * bc_M j + 1
def bc_N : Nat → Nat
  | 0 => 0
  | j + 1 => 16 * bc_N j + 3
def bc_O : Nat → Nat
  | 0 => 0
  | j + 1 => 256 * bc_O j + 15
def bc_1 : Nat → Nat → Nat
  | 0, _ => 0
  | j + 1, x => 4 * bc_1 j (x / 4) + bc_p (x % 4)
def bc_2 : Nat → Nat → Nat
  | 0, _ => 0
  | j + 1, x => 16 * bc_2 j (x / 16) + (bc_p (x / 4 % 4) + bc_p (x % 4))
def bc_3 : Nat → Nat → Nat
  | 0, _ => 0
  | j + 1, x => 256 * bc_3 j (x / 256) + ((bc_p (x / 64 % 4) + bc_p (x / 16 % 4)) + (bc_p (x / 4 % 4) + bc_p (x % 4)))
theorem bc_p_le {d : Nat} (h : d < 4) : bc_p d ≤ 2 := by unfold bc_p; omega
theorem bc_s1 : ∀ j x, x < 4 ^ j → ((x / 2) &&& bc_M j) + bc_1 j x = x := by
  intro j
  induction j with
  | zero => intro x hx; simp [bc_M, bc_1] at hx ⊢; omega
  | succ j ih =>
    intro x hx
    have h1 := ih (x / 4) (by rw [Nat.pow_succ] at hx; omega)
    simp only [bc_M, bc_1]
    have e := bc_split 2 (x / 2) (bc_M j) 1 (by decide)
    rw [show (2 : Nat) ^ 2 = 4 from rfl] at e
    rw [e, Nat.and_one_is_mod, show x / 2 / 4 = x / 4 / 2 by omega]
    unfold bc_p
    omega
theorem bc_1_two (j x : Nat) : bc_1 (2 * (j + 1)) x = 16 * bc_1 (2 * j) (x / 16) + (4 * bc_p (x / 4 % 4) + bc_p (x % 4)) := by
  rw [show 2 * (j + 1) = 2 * j + 1 + 1 by omega]
  simp only [bc_1]
  rw [show x / 4 / 4 = x / 16 by omega]
  omega
theorem bc_s2 : ∀ j x, ((bc_1 (2 * j) x) &&& bc_N j) + ((bc_1 (2 * j) x / 4) &&& bc_N j) = bc_2 j x := by
  intro j
  induction j with
  | zero => intro x; simp [bc_1, bc_2, bc_N]
  | succ j ih =>
    intro x
    have h1 := ih (x / 16)
    have pa := bc_p_le (d := x / 4 % 4) (by omega)
    have pb := bc_p_le (d := x % 4) (by omega)
    simp only [bc_N, bc_2]
    rw [bc_1_two]
    generalize bc_1 (2 * j) (x / 16) = v at h1 ⊢
    generalize bc_p (x / 4 % 4) = pa' at pa ⊢
    generalize bc_p (x % 4) = pb' at pb ⊢
    have e1 := bc_split 4 (16 * v + (4 * pa' + pb')) (bc_N j) 3 (by decide)
    have e2 := bc_split 4 ((16 * v + (4 * pa' + pb')) / 4) (bc_N j) 3 (by decide)
    rw [show (2 : Nat) ^ 4 = 16 from rfl] at e1 e2
    have m3 : ∀ z : Nat, z &&& 3 = z % 4 := fun z => by
      have := Nat.and_two_pow_sub_one_eq_mod z 2
      exact this
    rw [m3] at e1 e2
    rw [e1, e2, show (16 * v + (4 * pa' + pb')) / 16 = v by omega, show (16 * v + (4 * pa' + pb')) / 4 / 16 = v / 4 by omega]
    omega
theorem bc_2_two (j x : Nat) : bc_2 (2 * (j + 1)) x = 256 * bc_2 (2 * j) (x / 256) + (16 * (bc_p (x / 64 % 4) + bc_p (x / 16 % 4)) + (bc_p (x / 4 % 4) + bc_p (x % 4))) := by
  rw [show 2 * (j + 1) = 2 * j + 1 + 1 by omega]
  simp only [bc_2]
  rw [show x / 16 / 16 = x / 256 by omega, show x / 16 / 4 = x / 64 by omega]
  omega
theorem bc_2_low (j x : Nat) : bc_2 j x % 16 ≤ 4 := by
  cases j with
  | zero => simp [bc_2]
  | succ j =>
    simp only [bc_2]
    have pa := bc_p_le (d := x / 4 % 4) (by omega)
    have pb := bc_p_le (d := x % 4) (by omega)
    omega
theorem bc_s3 : ∀ j x, (bc_2 (2 * j) x + bc_2 (2 * j) x / 16) &&& bc_O j = bc_3 j x := by
  intro j
  induction j with
  | zero => intro x; simp [bc_2, bc_O, bc_3]
  | succ j ih =>
    intro x
    have h1 := ih (x / 256)
    have hl := bc_2_low (2 * j) (x / 256)
    have pa := bc_p_le (d := x / 4 % 4) (by omega)
    have pb := bc_p_le (d := x % 4) (by omega)
    have pc := bc_p_le (d := x / 64 % 4) (by omega)
    have pd := bc_p_le (d := x / 16 % 4) (by omega)
    simp only [bc_O, bc_3]
    rw [bc_2_two]
    generalize bc_2 (2 * j) (x / 256) = v at h1 hl ⊢
    generalize bc_p (x / 4 % 4) = pa' at pa ⊢
    generalize bc_p (x % 4) = pb' at pb ⊢
    generalize bc_p (x / 64 % 4) = pc' at pc ⊢
    generalize bc_p (x / 16 % 4) = pd' at pd ⊢
    have m15 : ∀ z : Nat, z &&& 15 = z % 16 := fun z => Nat.and_two_pow_sub_one_eq_mod z 4
    have e1 := bc_split 8 ((256 * v + (16 * (pc' + pd') + (pa' + pb'))) + (256 * v + (16 * (pc' + pd') + (pa' + pb'))) / 16) (bc_O j) 15 (by decide)
    rw [show (2 : Nat) ^ 8 = 256 from rfl, m15] at e1
    rw [e1, show ((256 * v + (16 * (pc' + pd') + (pa' + pb'))) + (256 * v + (16 * (pc' + pd') + (pa' + pb'))) / 16) / 256 = v + v / 16 by omega, h1]
    omega
/-- a count from below -/
theorem cf_card_half (n x : Nat) : cf_card (n + 1) x = x % 2 + cf_card n (x / 2) := by
  induction n with
  | zero =>
    simp only [cf_card, Nat.testBit_zero]
    by_cases c : x % 2 = 1
    · simp [c]
    · have : x % 2 = 0 := by omega
      simp [this]
  | succ n ih =>
    rw [show cf_card (n + 1 + 1) x = cf_card (n + 1) x + (if x.testBit (n + 1) = true then 1 else 0) from rfl, ih, Nat.testBit_add_one]
    simp only [cf_card]
    omega
theorem cf_card_four (n x : Nat) : cf_card (n + 2) x = bc_p (x % 4) + cf_card n (x / 4) := by
  rw [cf_card_half, cf_card_half, show x / 2 / 2 = x / 4 by omega]
  unfold bc_p
  omega
def bc_g : Nat → Nat → Nat
  | 0, _ => 0
  | j + 1, x => bc_p (x % 4) + bc_g j (x / 4)
theorem bc_g_card : ∀ j x, cf_card (2 * j) x = bc_g j x := by
  intro j
  induction j with
  | zero => intro x; rfl
  | succ j ih =>
    intro x
    rw [show 2 * (j + 1) = 2 * j + 2 by omega, cf_card_four, ih]
    rfl
theorem bc_all (x : Nat) : ∃ p0 p1 p2 p3, p0 ≤ 8 ∧ p1 ≤ 8 ∧ p2 ≤ 8 ∧ p3 ≤ 8 ∧ bc_3 4 x = p0 + 256 * p1 + 65536 * p2 + 16777216 * p3 ∧ cf_card 32 x = p0 + p1 + p2 + p3 := by
  have q : ∀ d, bc_p (d % 4) ≤ 2 := fun d => bc_p_le (by omega)
  refine ⟨(bc_p (x / 64 % 4) + bc_p (x / 16 % 4)) + (bc_p (x / 4 % 4) + bc_p (x % 4)), (bc_p (x / 16384 % 4) + bc_p (x / 4096 % 4)) + (bc_p (x / 1024 % 4) + bc_p (x / 256 % 4)),
    (bc_p (x / 4194304 % 4) + bc_p (x / 1048576 % 4)) + (bc_p (x / 262144 % 4) + bc_p (x / 65536 % 4)),
    (bc_p (x / 1073741824 % 4) + bc_p (x / 268435456 % 4)) + (bc_p (x / 67108864 % 4) + bc_p (x / 16777216 % 4)), ?_, ?_, ?_, ?_, ?_, ?_⟩
  · have := q (x / 64); have := q (x / 16); have := q (x / 4); have := q x; omega
  · have := q (x / 16384); have := q (x / 4096); have := q (x / 1024); have := q (x / 256); omega
  · have := q (x / 4194304); have := q (x / 1048576); have := q (x / 262144); have := q (x / 65536); omega
  · have := q (x / 1073741824); have := q (x / 268435456); have := q (x / 67108864); have := q (x / 16777216); omega
  · simp only [bc_3, Nat.div_div_eq_div_mul, Nat.reduceMul]; omega
  · rw [show (32 : Nat) = 2 * 16 from rfl, bc_g_card]
    simp only [bc_g, Nat.div_div_eq_div_mul, Nat.reduceMul]; omega
/-- the whole of it, as the JDK counts -/
theorem bc_count {x : Nat} (hx : x < 2 ^ 30) :
    (let a := x - ((x / 2) &&& 1431655765)
     let b := (a &&& 858993459) + ((a / 4) &&& 858993459)
     let d := (b + b / 16) &&& 252645135
     let f := d + d / 256
     (f + f / 65536) &&& 63) = cf_card 32 x := by
  have s1 := bc_s1 16 x (by rw [show (4 : Nat) ^ 16 = 2 ^ 32 from rfl]; omega)
  have s2 := bc_s2 8 x
  have s3 := bc_s3 4 x
  rw [show bc_M 16 = 1431655765 from rfl] at s1
  rw [show bc_N 8 = 858993459 from rfl, show 2 * 8 = 16 from rfl] at s2
  rw [show bc_O 4 = 252645135 from rfl, show 2 * 4 = 8 from rfl] at s3
  have ea : x - ((x / 2) &&& 1431655765) = bc_1 16 x := by omega
  obtain ⟨p0, p1, p2, p3, h0, h1, h2, h3, e1, e2⟩ := bc_all x
  dsimp only
  rw [ea, s2, s3, e1, e2]
  have m63 : ∀ z : Nat, z &&& 63 = z % 64 := fun z => Nat.and_two_pow_sub_one_eq_mod z 6
  rw [m63]
  have e3 : (p0 + 256 * p1 + 65536 * p2 + 16777216 * p3) / 256 = p1 + 256 * p2 + 65536 * p3 := by omega
  rw [e3]
  have e4 : (p0 + 256 * p1 + 65536 * p2 + 16777216 * p3 + (p1 + 256 * p2 + 65536 * p3)) / 65536 = p2 + p3 + 256 * p3 := by omega
  rw [e4]
  omega
end
