/-! THE MODEL'S JOIN: names, and how many were given up -/
def jn (A B : Nat → Nat) (S : Nat) : Nat → (Nat → Nat) × Nat
  | 0 => (fun v => v, 0)
  | e + 1 => if S.testBit e = true ∧ (jn A B S e).1 (A e) ≠ (jn A B S e).1 (B e) then (fun v => if (jn A B S e).1 v = (jn A B S e).1 (B e) then (jn A B S e).1 (A e) else (jn A B S e).1 v, (jn A B S e).2 + 1) else jn A B S e
def jl (A B : Nat → Nat) : Nat → Nat := fun e => 2 ^ A e ^^^ 2 ^ B e
theorem jn_lt {A B : Nat → Nat} {S n k : Nat} (hA : ∀ e, e < n → A e < k) : ∀ m, m ≤ n → ∀ v, v < k → (jn A B S m).1 v < k := by
  intro m
  induction m with
  | zero => intro _ v hv; exact hv
  | succ m ih =>
    intro hm v hv
    simp only [jn]
    split
    · dsimp only
      split
      · exact ih (by omega) _ (hA m (by omega))
      · exact ih (by omega) v hv
    · exact ih (by omega) v hv
theorem jn_le (A B : Nat → Nat) (S m : Nat) : (jn A B S m).2 ≤ m := by
  induction m with
  | zero => exact Nat.le_refl _
  | succ m ih =>
    simp only [jn]
    split
    · dsimp only; omega
    · omega
/-- what the names make of a sum of vertices -/
def jf (N : Nat → Nat) (v : Nat) : Nat := cf_xs (fun i => 2 ^ N i) 32 v
theorem jf_xor (N : Nat → Nat) (a b : Nat) : jf N (a ^^^ b) = jf N a ^^^ jf N b := cf_xs_xor _ 32 a b
theorem jf_0 (N : Nat → Nat) : jf N 0 = 0 := cf_xs_0 _ 32
theorem jf_two (N : Nat → Nat) {a b : Nat} (ha : a < 32) (hb : b < 32) : jf N (2 ^ a ^^^ 2 ^ b) = 2 ^ N a ^^^ 2 ^ N b := by
  rw [jf_xor]
  unfold jf
  rw [cf_xs_one ha, cf_xs_one hb]
theorem cf_two_ne {a b : Nat} (h : a ≠ b) : 2 ^ a ^^^ 2 ^ b ≠ 0 := fun q => by
  have : (2 ^ a ^^^ 2 ^ b).testBit a = true := by
    have d : ¬ b = a := fun e => h e.symm
    rw [Nat.testBit_xor, cf_one_bit, cf_one_bit]; simp [d]
  rw [q, Nat.zero_testBit] at this; cases this
/-- a sum of lines whose ends have one name each is named away -/
theorem jf_sp {A B N : Nat → Nat} {n T v : Nat} (hA : ∀ e, e < n → A e < 32) (hB : ∀ e, e < n → B e < 32) (h : ∀ e, e < n → T.testBit e = true → N (A e) = N (B e)) (hv : cf_sp (jl A B) n T v) : jf N v = 0 := by
  obtain ⟨U, hU, rfl⟩ := hv
  have key : ∀ m, m ≤ n → jf N (cf_xs (jl A B) m U) = 0 := by
    intro m
    induction m with
    | zero => intro _; exact jf_0 N
    | succ m ih =>
      intro hm
      simp only [cf_xs]
      split
      · rw [jf_xor, ih (by omega), show jl A B m = 2 ^ A m ^^^ 2 ^ B m from rfl, jf_two N (hA m (by omega)) (hB m (by omega)), h m (by omega) (hU m (by assumption)), Nat.xor_self, Nat.xor_self]
      · exact ih (by omega)
  exact key n (Nat.le_refl n)
/-- and what is named away is such a sum -/
theorem jf_ker {L : Nat → Nat} {n T v : Nat} {N : Nat → Nat} (h : ∀ i, i < 32 → cf_sp L n T (2 ^ i ^^^ 2 ^ N i)) (hv : v < 2 ^ 32) (h0 : jf N v = 0) : cf_sp L n T v := by
  have key : ∀ m, m ≤ 32 → cf_sp L n T (cf_xs (fun i => 2 ^ i) m v ^^^ cf_xs (fun i => 2 ^ N i) m v) := by
    intro m
    induction m with
    | zero => intro _; simp only [cf_xs, Nat.xor_self]; exact cf_sp_0 L n T
    | succ m ih =>
      intro hm
      simp only [cf_xs]
      split
      · rw [cf_x4]; exact cf_sp_xor (ih (by omega)) (h m (by omega))
      · exact ih (by omega)
  have k := key 32 (Nat.le_refl 32)
  have e1 : cf_xs (fun i => 2 ^ N i) 32 v = 0 := h0
  have e2 : ∀ m, cf_xs (fun i => 2 ^ i) m v = v % 2 ^ m := by
    intro m
    induction m with
    | zero => simp [cf_xs, Nat.mod_one]
    | succ m ih =>
      refine Nat.eq_of_testBit_eq fun j => ?_
      simp only [cf_xs]
      rw [Nat.testBit_mod_two_pow]
      split
      · rename_i c
        rw [ih, Nat.testBit_xor, Nat.testBit_mod_two_pow, cf_one_bit]
        by_cases d : m = j
        · subst d; simp [c]
        · have e3 : decide (j < m + 1) = decide (j < m) := by
            by_cases d2 : j < m
            · rw [decide_eq_true d2, decide_eq_true (by omega)]
            · rw [decide_eq_false d2, decide_eq_false (by omega)]
          simp [d, e3]
      · rename_i c
        rw [ih, Nat.testBit_mod_two_pow]
        by_cases d : m = j
        · subst d
          have : v.testBit m = false := by cases q : v.testBit m with
            | false => rfl
            | true => exact absurd q c
          simp [this]
        · have e3 : decide (j < m + 1) = decide (j < m) := by
            by_cases d2 : j < m
            · rw [decide_eq_true d2, decide_eq_true (by omega)]
            · rw [decide_eq_false d2, decide_eq_false (by omega)]
          rw [e3]
  rw [e1, Nat.xor_zero, e2, Nat.mod_eq_of_lt hv] at k
  exact k
theorem jn_ok {A B : Nat → Nat} {n S : Nat} (hA : ∀ e, e < n → A e < 32) (hB : ∀ e, e < n → B e < 32) : ∀ m, m ≤ n → ∃ T, cf_sub T S ∧ cf_ind (jl A B) n T ∧ cf_card n T = (jn A B S m).2 ∧ (∀ i, m ≤ i → T.testBit i = false) ∧ (∀ e, e < m → S.testBit e = true → (jn A B S m).1 (A e) = (jn A B S m).1 (B e) ∧ cf_sp (jl A B) n T (jl A B e)) ∧ ∀ v, v < 32 → cf_sp (jl A B) n T (2 ^ v ^^^ 2 ^ (jn A B S m).1 v) := by
  intro m
  induction m with
  | zero => intro _; exact ⟨0, cf_sub_0 S, cf_ind_0 _ n, cf_card_0 n, fun i _ => Nat.zero_testBit i, fun e he => absurd he (Nat.not_lt_zero e), fun v _ => by rw [show (jn A B S 0).1 v = v from rfl, Nat.xor_self]; exact cf_sp_0 _ _ _⟩
  | succ m ih =>
    intro hm
    obtain ⟨T, t1, t2, t3, t4, t5, t6⟩ := ih (by omega)
    by_cases c : S.testBit m = true ∧ (jn A B S m).1 (A m) ≠ (jn A B S m).1 (B m)
    · have e1 : jn A B S (m + 1) = (fun v => if (jn A B S m).1 v = (jn A B S m).1 (B m) then (jn A B S m).1 (A m) else (jn A B S m).1 v, (jn A B S m).2 + 1) := by simp only [jn]; rw [if_pos c]
      rw [e1]
      have hns : ¬ cf_sp (jl A B) n T (jl A B m) := fun q => by
        have := jf_sp (N := (jn A B S m).1) hA hB (fun e he hT => (t5 e (by
          rcases Nat.lt_or_ge e m with z | z
          · exact z
          · rw [t4 e z] at hT; cases hT) (t1 e hT)).1) q
        rw [show jl A B m = 2 ^ A m ^^^ 2 ^ B m from rfl, jf_two _ (hA m (by omega)) (hB m (by omega))] at this
        exact cf_two_ne c.2 this
      have hT : cf_sub T (T ||| 2 ^ m) := cf_sub_or _ _
      have hsm : cf_sp (jl A B) n (T ||| 2 ^ m) (jl A B m) := cf_sp_mem (by omega) (by rw [cf_add_bit]; simp)
      refine ⟨T ||| 2 ^ m, cf_or_sub t1 (cf_one_sub c.1), cf_ind_add (by omega) t2 hns, by rw [cf_card_add (by omega) (t4 m (Nat.le_refl m)), t3], fun i hi => ?_, fun e he hS => ?_, fun v hv => ?_⟩
      · rw [cf_add_bit, t4 i (by omega)]
        have : ¬ m = i := by omega
        simp [this]
      · rcases Nat.lt_or_ge e m with z | z
        · obtain ⟨h1, h2⟩ := t5 e z hS
          exact ⟨by dsimp only; rw [h1], cf_sp_mono hT h2⟩
        · have : e = m := by omega
          subst this
          refine ⟨?_, hsm⟩
          dsimp only
          rw [if_neg c.2, if_pos rfl]
      · dsimp only
        by_cases z : (jn A B S m).1 v = (jn A B S m).1 (B m)
        · rw [if_pos z]
          have k1 := t6 v hv
          have k2 := t6 (B m) (hB m (by omega))
          have k3 := t6 (A m) (hA m (by omega))
          rw [z] at k1
          have k4 := cf_sp_xor (cf_sp_xor (cf_sp_mono hT k1) (cf_sp_mono hT k2)) (cf_sp_xor hsm (cf_sp_mono hT k3))
          have e2 : (2 ^ v ^^^ 2 ^ (jn A B S m).1 (B m) ^^^ (2 ^ B m ^^^ 2 ^ (jn A B S m).1 (B m))) ^^^ (jl A B m ^^^ (2 ^ A m ^^^ 2 ^ (jn A B S m).1 (A m))) = 2 ^ v ^^^ 2 ^ (jn A B S m).1 (A m) := by
            unfold jl
            refine Nat.eq_of_testBit_eq fun i => ?_
            simp only [Nat.testBit_xor]
            cases (2 ^ v).testBit i <;> cases (2 ^ (jn A B S m).1 (B m)).testBit i <;> cases (2 ^ B m).testBit i <;> cases (2 ^ A m).testBit i <;> cases (2 ^ (jn A B S m).1 (A m)).testBit i <;> rfl
          rw [e2] at k4
          exact k4
        · rw [if_neg z]; exact cf_sp_mono hT (t6 v hv)
    · have e1 : jn A B S (m + 1) = jn A B S m := by simp only [jn]; rw [if_neg c]
      rw [e1]
      refine ⟨T, t1, t2, t3, fun i hi => t4 i (by omega), fun e he hS => ?_, t6⟩
      rcases Nat.lt_or_ge e m with z | z
      · exact t5 e z hS
      · have : e = m := by omega
        subst this
        have hab : (jn A B S e).1 (A e) = (jn A B S e).1 (B e) := by
          rcases Classical.em ((jn A B S e).1 (A e) = (jn A B S e).1 (B e)) with q | q
          · exact q
          · exact absurd ⟨hS, q⟩ c
        refine ⟨hab, ?_⟩
        have k1 := t6 (A e) (hA e (by omega))
        have k2 := t6 (B e) (hB e (by omega))
        rw [hab] at k1
        have k3 := cf_sp_xor k1 k2
        rw [cf_x4, Nat.xor_self, Nat.xor_zero] at k3
        exact k3
/-- the model's join counts the rank -/
theorem jn_rk {A B : Nat → Nat} {n : Nat} (S : Nat) (hA : ∀ e, e < n → A e < 32) (hB : ∀ e, e < n → B e < 32) : (jn A B S n).2 = cf_rk (jl A B) n S := by
  obtain ⟨T, t1, t2, t3, _, t5, _⟩ := jn_ok (S := S) hA hB n (Nat.le_refl n)
  rw [cf_rk_bas ⟨t1, t2, fun i hi hS => (t5 i hi hS).2⟩, t3]
/-- what the model's names do to sums -/
theorem jn_ker {A B : Nat → Nat} {n : Nat} (S : Nat) (hA : ∀ e, e < n → A e < 32) (hB : ∀ e, e < n → B e < 32) {v : Nat} (hv : v < 2 ^ 32) : jf (jn A B S n).1 v = 0 ↔ cf_sp (jl A B) n S v := by
  obtain ⟨T, t1, t2, t3, _, t5, t6⟩ := jn_ok (S := S) hA hB n (Nat.le_refl n)
  exact ⟨fun h => cf_sp_mono t1 (jf_ker t6 hv h), fun h => jf_sp hA hB (fun e he hS => (t5 e he hS).1) h⟩
