/-! A FOREST'S ROWS: one pass over them takes the lines of its edges out of a line -/
theorem cf_lt_bit {a b t : Nat} (ha : a.testBit t = false) (hb : b.testBit t = true) (h : ∀ j, t < j → a.testBit j = b.testBit j) : a < b := by
  have hq : a / 2 ^ (t + 1) = b / 2 ^ (t + 1) := Nat.eq_of_testBit_eq fun i => by
    rw [Nat.testBit_div_two_pow, Nat.testBit_div_two_pow]; exact h _ (by omega)
  have h1 : a % 2 ^ (t + 1) < 2 ^ t := Nat.lt_pow_two_of_testBit _ fun i hi => by
    rw [Nat.testBit_mod_two_pow]
    by_cases c : i = t
    · subst c; rw [ha]; simp
    · have : ¬ i < t + 1 := by omega
      simp [this]
  have h2 : 2 ^ t ≤ b % 2 ^ (t + 1) := Nat.ge_two_pow_of_testBit (by rw [Nat.testBit_mod_two_pow, hb]; simp)
  have e1 := Nat.div_add_mod a (2 ^ (t + 1))
  have e2 := Nat.div_add_mod b (2 ^ (t + 1))
  rw [hq] at e1
  omega
def fo_step (r row : Nat) : Nat := if r ^^^ row < r then r ^^^ row else r
theorem fo_top {r row : Nat} (h : row ≠ 0) : r ^^^ row < r ↔ r.testBit row.log2 = true := by
  have hb : ∀ j, row.log2 < j → row.testBit j = false := fun j hj => Nat.testBit_lt_two_pow ((Nat.log2_lt h).mp hj)
  have ht := Nat.testBit_log2 h
  cases c : r.testBit row.log2 with
  | true =>
    refine ⟨fun _ => rfl, fun _ => cf_lt_bit (t := row.log2) (by rw [Nat.testBit_xor, c, ht]; rfl) c fun j hj => ?_⟩
    rw [Nat.testBit_xor, hb j hj]; simp
  | false =>
    refine ⟨fun q => ?_, fun q => by cases q⟩
    have := cf_lt_bit (a := r) (b := r ^^^ row) (t := row.log2) c (by rw [Nat.testBit_xor, c, ht]; rfl) fun j hj => by
      rw [Nat.testBit_xor, hb j hj]; simp
    omega
theorem fo_step_bit {r row : Nat} (h : row ≠ 0) : fo_step r row = if r.testBit row.log2 = true then r ^^^ row else r := by
  unfold fo_step
  by_cases c : r ^^^ row < r
  · rw [if_pos c, if_pos ((fo_top h).mp c)]
  · rw [if_neg c, if_neg fun q => c ((fo_top h).mpr q)]
theorem fo_step_lin {a b row : Nat} (h : row ≠ 0) : fo_step (a ^^^ b) row = fo_step a row ^^^ fo_step b row := by
  rw [fo_step_bit h, fo_step_bit h, fo_step_bit h, Nat.testBit_xor]
  cases a.testBit row.log2 <;> cases b.testBit row.log2
  · simp
  · simp [Nat.xor_assoc]
  · simp [Nat.xor_assoc, Nat.xor_comm row]
  · simp only [Bool.xor_self, if_true, Bool.false_eq_true, if_false]
    rw [cf_x4, Nat.xor_self, Nat.xor_zero]
theorem fo_step_0 (row : Nat) : fo_step 0 row = 0 := by simp [fo_step]
theorem fo_step_self (row : Nat) : fo_step row row = 0 := by
  unfold fo_step
  rw [Nat.xor_self]
  by_cases c : 0 < row
  · rw [if_pos c]
  · rw [if_neg c]; omega
def fo_rest (rows : Nat → Nat) (v : Nat) : Nat → Nat
  | 0 => v
  | i + 1 => fo_step (fo_rest rows v i) (rows i)
def fo_way (rows parts : Nat → Nat) (v : Nat) : Nat → Nat
  | 0 => 0
  | i + 1 => if fo_rest rows v i ^^^ rows i < fo_rest rows v i then fo_way rows parts v i ^^^ parts i else fo_way rows parts v i
theorem fo_rest_congr {rows rows' : Nat → Nat} {v k : Nat} (h : ∀ i, i < k → rows i = rows' i) : fo_rest rows v k = fo_rest rows' v k := by
  induction k with
  | zero => rfl
  | succ k ih => simp only [fo_rest]; rw [ih fun i hi => h i (by omega), h k (by omega)]
theorem fo_way_congr {rows rows' parts parts' : Nat → Nat} {v k : Nat} (h : ∀ i, i < k → rows i = rows' i) (h2 : ∀ i, i < k → parts i = parts' i) : fo_way rows parts v k = fo_way rows' parts' v k := by
  induction k with
  | zero => rfl
  | succ k ih =>
    simp only [fo_way]
    rw [ih (fun i hi => h i (by omega)) (fun i hi => h2 i (by omega)), fo_rest_congr (k := k) fun i hi => h i (by omega), h k (by omega), h2 k (by omega)]
theorem fo_rest_0 (rows : Nat → Nat) (k : Nat) : fo_rest rows 0 k = 0 := by
  induction k with
  | zero => rfl
  | succ k ih => simp only [fo_rest]; rw [ih, fo_step_0]
theorem fo_rest_lin {rows : Nat → Nat} {a b k : Nat} (h : ∀ i, i < k → rows i ≠ 0) : fo_rest rows (a ^^^ b) k = fo_rest rows a k ^^^ fo_rest rows b k := by
  induction k with
  | zero => rfl
  | succ k ih => simp only [fo_rest]; rw [ih fun i hi => h i (by omega), fo_step_lin (h k (by omega))]
/-- what a forest B of the edges' lines L holds -/
def fo_ok (L : Nat → Nat) (n B : Nat) (rows parts : Nat → Nat) (k : Nat) : Prop :=
  cf_sub B (cf_full n) ∧ cf_ind L n B ∧ cf_card n B = k ∧ (∀ i, i < k → rows i ≠ 0 ∧ cf_xs L n (parts i) = rows i ∧ cf_sub (parts i) B) ∧ ∀ b, b < n → B.testBit b = true → fo_rest rows (L b) k = 0
theorem fo_ok_congr {L : Nat → Nat} {n B : Nat} {rows parts rows' parts' : Nat → Nat} {k : Nat} (h : fo_ok L n B rows parts k) (h1 : ∀ i, i < k → rows i = rows' i) (h2 : ∀ i, i < k → parts i = parts' i) : fo_ok L n B rows' parts' k := by
  obtain ⟨a, b, c, d, e⟩ := h
  refine ⟨a, b, c, fun i hi => ?_, fun b hb hB => ?_⟩
  · rw [← h1 i hi, ← h2 i hi]; exact d i hi
  · rw [← fo_rest_congr h1]; exact e b hb hB
theorem fo_ok_0 (L : Nat → Nat) (n : Nat) (rows parts : Nat → Nat) : fo_ok L n 0 rows parts 0 :=
  ⟨cf_sub_0 _, cf_ind_0 L n, cf_card_0 n, fun i hi => absurd hi (Nat.not_lt_zero i), fun b _ h => by rw [Nat.zero_testBit] at h; cases h⟩
theorem fo_way_sub {L : Nat → Nat} {n B : Nat} {rows parts : Nat → Nat} {k : Nat} (h : fo_ok L n B rows parts k) (v : Nat) : ∀ i, i ≤ k → cf_sub (fo_way rows parts v i) B := by
  intro i
  induction i with
  | zero => intro _; exact cf_sub_0 B
  | succ i ih =>
    intro hi
    simp only [fo_way]
    have h1 := ih (by omega)
    have h2 := (h.2.2.2.1 i (by omega)).2.2
    split
    · intro j hj
      rw [Nat.testBit_xor] at hj
      cases c : (fo_way rows parts v i).testBit j with
      | true => exact h1 j c
      | false => rw [c] at hj; exact h2 j (by simpa using hj)
    · exact h1
theorem fo_way_eq {L : Nat → Nat} {n B : Nat} {rows parts : Nat → Nat} {k : Nat} (h : fo_ok L n B rows parts k) (v : Nat) : ∀ i, i ≤ k → fo_rest rows v i = v ^^^ cf_xs L n (fo_way rows parts v i) := by
  intro i
  induction i with
  | zero => intro _; simp [fo_rest, fo_way, cf_xs_0]
  | succ i ih =>
    intro hi
    simp only [fo_way, fo_rest, fo_step]
    have h1 := ih (by omega)
    have h2 := (h.2.2.2.1 i (by omega)).2.1
    split
    · rw [cf_xs_xor, h2, h1, Nat.xor_assoc]
    · exact h1
theorem fo_rest_iff {L : Nat → Nat} {n B : Nat} {rows parts : Nat → Nat} {k : Nat} (h : fo_ok L n B rows parts k) (v : Nat) : fo_rest rows v k = 0 ↔ cf_sp L n B v := by
  refine ⟨fun q => ⟨fo_way rows parts v k, fo_way_sub h v k (Nat.le_refl k), ?_⟩, fun q => ?_⟩
  · have e := fo_way_eq h v k (Nat.le_refl k)
    rw [q] at e
    have : v ^^^ (v ^^^ cf_xs L n (fo_way rows parts v k)) = v := by rw [← e, Nat.xor_zero]
    rw [← Nat.xor_assoc, Nat.xor_self, Nat.zero_xor] at this
    exact this
  · obtain ⟨T, hT, rfl⟩ := q
    have key : ∀ m, m ≤ n → fo_rest rows (cf_xs L m T) k = 0 := by
      intro m
      induction m with
      | zero => intro _; exact fo_rest_0 rows k
      | succ m ih =>
        intro hm
        simp only [cf_xs]
        split
        · rw [fo_rest_lin fun i hi => (h.2.2.2.1 i hi).1, ih (by omega), h.2.2.2.2 m (by omega) (hT m (by assumption)), Nat.xor_zero]
        · exact ih (by omega)
    exact key n (Nat.le_refl n)
theorem fo_way_sp {L : Nat → Nat} {n B : Nat} {rows parts : Nat → Nat} {k : Nat} (h : fo_ok L n B rows parts k) {v : Nat} (q : cf_sp L n B v) : cf_xs L n (fo_way rows parts v k) = v := by
  have e := fo_way_eq h v k (Nat.le_refl k)
  rw [(fo_rest_iff h v).mpr q] at e
  have : v ^^^ (v ^^^ cf_xs L n (fo_way rows parts v k)) = v := by rw [← e, Nat.xor_zero]
  rw [← Nat.xor_assoc, Nat.xor_self, Nat.zero_xor] at this
  exact this
/-- the way is the only one -/
theorem fo_way_only {L : Nat → Nat} {n B : Nat} {rows parts : Nat → Nat} {k : Nat} (h : fo_ok L n B rows parts k) {v T : Nat} (hT : cf_sub T B) (e : cf_xs L n T = v) : ∀ i, i < n → (fo_way rows parts v k).testBit i = T.testBit i := by
  have w := fo_way_sp h ⟨T, hT, e⟩
  have s := fo_way_sub h v k (Nat.le_refl k)
  intro i hi
  have := h.2.1 (fo_way rows parts v k ^^^ T) (fun j hj => by
    rw [Nat.testBit_xor] at hj
    cases c : (fo_way rows parts v k).testBit j with
    | true => exact s j c
    | false => rw [c] at hj; exact hT j (by simpa using hj)) (by rw [cf_xs_xor, w, e, Nat.xor_self]) i hi
  rw [Nat.testBit_xor] at this
  cases c : (fo_way rows parts v k).testBit i <;> cases d : T.testBit i <;> simp [c, d] at this ⊢
def fo_up (f : Nat → Nat) (k v : Nat) : Nat → Nat := fun j => if j = k then v else f j
theorem fo_up_self (f : Nat → Nat) (k v : Nat) : fo_up f k v k = v := by simp [fo_up]
theorem fo_up_lt (f : Nat → Nat) {k j : Nat} (v : Nat) (h : j < k) : fo_up f k v j = f j := by simp [fo_up]; omega
theorem fo_take {L : Nat → Nat} {n B : Nat} {rows parts : Nat → Nat} {k e : Nat} (h : fo_ok L n B rows parts k) (he : e < n) (hr : fo_rest rows (L e) k ≠ 0) :
    fo_ok L n (B ||| 2 ^ e) (fo_up rows k (fo_rest rows (L e) k)) (fo_up parts k (fo_way rows parts (L e) k ^^^ 2 ^ e)) (k + 1) := by
  have hns : ¬ cf_sp L n B (L e) := fun q => hr ((fo_rest_iff h _).mpr q)
  have hBe : B.testBit e = false := by
    cases c : B.testBit e with
    | false => rfl
    | true => exact absurd (cf_sp_mem he c) hns
  have hB : cf_sub B (B ||| 2 ^ e) := fun i hi => by rw [cf_add_bit, hi]; rfl
  refine ⟨fun i hi => ?_, cf_ind_add he h.2.1 hns, by rw [cf_card_add he hBe, h.2.2.1], fun i hi => ?_, fun b hb hBb => ?_⟩
  · rw [cf_add_bit] at hi
    by_cases c : e = i
    · subst c; rw [cf_full_bit]; exact decide_eq_true he
    · exact h.1 i (by simpa [c] using hi)
  · rcases Nat.lt_or_ge i k with q | q
    · rw [fo_up_lt _ _ q, fo_up_lt _ _ q]
      have := h.2.2.2.1 i q
      exact ⟨this.1, this.2.1, cf_sub_tr this.2.2 hB⟩
    · have : i = k := by omega
      subst this
      rw [fo_up_self, fo_up_self]
      refine ⟨hr, ?_, fun j hj => ?_⟩
      · rw [cf_xs_xor, cf_xs_one he, fo_way_eq h (L e) i (Nat.le_refl i), Nat.xor_comm]
      · rw [Nat.testBit_xor, cf_one_bit] at hj
        rw [cf_add_bit]
        by_cases c : e = j
        · simp [c]
        · simp [c] at hj
          rw [fo_way_sub h (L e) i (Nat.le_refl i) j hj]; rfl
  · simp only [fo_rest]
    rw [fo_up_self, fo_rest_congr (rows' := rows) fun i hi => fo_up_lt _ _ hi]
    rw [cf_add_bit] at hBb
    by_cases c : e = b
    · subst c; exact fo_step_self _
    · rw [h.2.2.2.2 b hb (by simpa [c] using hBb), fo_step_0]
/-- how many edges it has is less than how many there are, where one can still be taken -/
theorem fo_room {L : Nat → Nat} {n B : Nat} {rows parts : Nat → Nat} {k e : Nat} (h : fo_ok L n B rows parts k) (he : e < n) (hr : fo_rest rows (L e) k ≠ 0) : k < n := by
  have := fo_take h he hr
  have h2 := cf_card_le n (B ||| 2 ^ e)
  rw [this.2.2.1] at h2
  omega
/-- a row of edges put to it, those that close a ring left out -/
abbrev fo_St : Type := (Nat → Nat) × (Nat → Nat) × Nat
def fo_takes (L : Nat → Nat) (e : Nat) (q : fo_St) : fo_St :=
  if fo_rest q.1 (L e) q.2.2 = 0 then q else (fo_up q.1 q.2.2 (fo_rest q.1 (L e) q.2.2), fo_up q.2.1 q.2.2 (fo_way q.1 q.2.1 (L e) q.2.2 ^^^ 2 ^ e), q.2.2 + 1)
def fo_fill (L : Nat → Nat) (S : Nat) (rows parts : Nat → Nat) : Nat → fo_St
  | 0 => (rows, parts, 0)
  | m + 1 => if S.testBit m = true then fo_takes L m (fo_fill L S rows parts m) else fo_fill L S rows parts m
theorem fo_fill_ok {L : Nat → Nat} {n S : Nat} {rows parts : Nat → Nat} : ∀ m, m ≤ n → ∃ B, fo_ok L n B (fo_fill L S rows parts m).1 (fo_fill L S rows parts m).2.1 (fo_fill L S rows parts m).2.2 ∧ cf_sub B S ∧ (∀ i, i < m → S.testBit i = true → cf_sp L n B (L i)) ∧ ∀ i, m ≤ i → B.testBit i = false := by
  intro m
  induction m with
  | zero => intro _; exact ⟨0, fo_ok_0 L n rows parts, cf_sub_0 S, fun i hi => absurd hi (Nat.not_lt_zero i), fun i _ => Nat.zero_testBit i⟩
  | succ m ih =>
    intro hm
    obtain ⟨B, h1, h2, h3, h4⟩ := ih (by omega)
    simp only [fo_fill]
    by_cases c : S.testBit m = true
    · rw [if_pos c]
      unfold fo_takes
      by_cases d : fo_rest (fo_fill L S rows parts m).1 (L m) (fo_fill L S rows parts m).2.2 = 0
      · rw [if_pos d]
        refine ⟨B, h1, h2, fun i hi hS => ?_, fun i hi => h4 i (by omega)⟩
        rcases Nat.lt_or_ge i m with r | r
        · exact h3 i r hS
        · have : i = m := by omega
          rw [this]; exact (fo_rest_iff h1 _).mp d
      · rw [if_neg d]
        have hB : cf_sub B (B ||| 2 ^ m) := fun i hi => by rw [cf_add_bit, hi]; rfl
        refine ⟨B ||| 2 ^ m, fo_take h1 (by omega) d, fun i hi => ?_, fun i hi hS => ?_, fun i hi => ?_⟩
        · rw [cf_add_bit] at hi
          by_cases r : m = i
          · subst r; exact c
          · exact h2 i (by simpa [r] using hi)
        · rcases Nat.lt_or_ge i m with r | r
          · exact cf_sp_mono hB (h3 i r hS)
          · have : i = m := by omega
            rw [this]; exact cf_sp_mem (by omega) (by rw [cf_add_bit]; simp)
        · rw [cf_add_bit, h4 i (by omega)]; simp; omega
    · rw [if_neg c]
      refine ⟨B, h1, h2, fun i hi hS => ?_, fun i hi => h4 i (by omega)⟩
      rcases Nat.lt_or_ge i m with r | r
      · exact h3 i r hS
      · have : i = m := by omega
        rw [this] at hS; exact absurd hS c
theorem fo_fill_rk (L : Nat → Nat) (n S : Nat) (rows parts : Nat → Nat) : (fo_fill L S rows parts n).2.2 = cf_rk L n S := by
  obtain ⟨B, h1, h2, h3, _⟩ := fo_fill_ok (L := L) (n := n) (S := S) (rows := rows) (parts := parts) n (Nat.le_refl n)
  rw [cf_rk_bas ⟨h2, h1.2.1, h3⟩, h1.2.2.1]
