/-! HOW MANY BITS: the sums of pairs, of fours, of eights -/
theorem bc_split (k a M c : Nat) (hc : c < 2 ^ k) : a &&& (2 ^ k * M + c) = 2 ^ k * ((a / 2 ^ k) &&& M) + ((a % 2 ^ k) &&& c) := by
  have h2 : (a % 2 ^ k) &&& c < 2 ^ k := Nat.and_lt_two_pow _ hc
  refine Nat.eq_of_testBit_eq fun j => ?_
  rw [Nat.testBit_and, Nat.testBit_two_pow_mul_add _ hc, Nat.testBit_two_pow_mul_add _ h2]
  by_cases q : j < k
  · rw [if_pos q, if_pos q, Nat.testBit_and, Nat.testBit_mod_two_pow]
    simp [q]
  · rw [if_neg q, if_neg q, Nat.testBit_and, Nat.testBit_div_two_pow]
    rw [show j - k + k = j by omega]
def bc_p (d : Nat) : Nat := d - d / 2
def bc_M : Nat → Nat
  | 0 => 0
  | j + 1 => 4 * bc_M j + 1
def bc_N : Nat → Nat
  | 0 => 0
  | j + 1 => 16 * bc_N j + 3
def bc_O : Nat → Nat
  | 0 => 0
  | j + 1 => 256 * bc_O j + 15
def bc_1 : Nat → Nat → Nat
  | 0, _ => 0
  | j + 1, x => 4 * bc_1 j (x / 4) + bc_p (x % 4)
def bc_2 : Nat → Nat → Nat
  | 0, _ => 0
  | j + 1, x => 16 * bc_2 j (x / 16) + (bc_p (x / 4 % 4) + bc_p (x % 4))
def bc_3 : Nat → Nat → Nat
  | 0, _ => 0
  | j + 1, x => 256 * bc_3 j (x / 256) + ((bc_p (x / 64 % 4) + bc_p (x / 16 % 4)) + (bc_p (x / 4 % 4) + bc_p (x % 4)))
theorem bc_p_le {d : Nat} (h : d < 4) : bc_p d ≤ 2 := by unfold bc_p; omega
theorem bc_s1 : ∀ j x, x < 4 ^ j → ((x / 2) &&& bc_M j) + bc_1 j x = x := by
  intro j
  induction j with
  | zero => intro x hx; simp [bc_M, bc_1] at hx ⊢; omega
  | succ j ih =>
    intro x hx
    have h1 := ih (x / 4) (by rw [Nat.pow_succ] at hx; omega)
    simp only [bc_M, bc_1]
    have e := bc_split 2 (x / 2) (bc_M j) 1 (by decide)
    rw [show (2 : Nat) ^ 2 = 4 from rfl] at e
    rw [e, Nat.and_one_is_mod, show x / 2 / 4 = x / 4 / 2 by omega]
    unfold bc_p
    omega
theorem bc_1_two (j x : Nat) : bc_1 (2 * (j + 1)) x = 16 * bc_1 (2 * j) (x / 16) + (4 * bc_p (x / 4 % 4) + bc_p (x % 4)) := by
  rw [show 2 * (j + 1) = 2 * j + 1 + 1 by omega]
  simp only [bc_1]
  rw [show x / 4 / 4 = x / 16 by omega]
  omega
theorem bc_s2 : ∀ j x, ((bc_1 (2 * j) x) &&& bc_N j) + ((bc_1 (2 * j) x / 4) &&& bc_N j) = bc_2 j x := by
  intro j
  induction j with
  | zero => intro x; simp [bc_1, bc_2, bc_N]
  | succ j ih =>
    intro x
    have h1 := ih (x / 16)
    have pa := bc_p_le (d := x / 4 % 4) (by omega)
    have pb := bc_p_le (d := x % 4) (by omega)
    simp only [bc_N, bc_2]
    rw [bc_1_two]
    generalize bc_1 (2 * j) (x / 16) = v at h1 ⊢
    generalize bc_p (x / 4 % 4) = pa' at pa ⊢
    generalize bc_p (x % 4) = pb' at pb ⊢
    have e1 := bc_split 4 (16 * v + (4 * pa' + pb')) (bc_N j) 3 (by decide)
    have e2 := bc_split 4 ((16 * v + (4 * pa' + pb')) / 4) (bc_N j) 3 (by decide)
    rw [show (2 : Nat) ^ 4 = 16 from rfl] at e1 e2
    have m3 : ∀ z : Nat, z &&& 3 = z % 4 := fun z => by
      have := Nat.and_two_pow_sub_one_eq_mod z 2
      exact this
    rw [m3] at e1 e2
    rw [e1, e2, show (16 * v + (4 * pa' + pb')) / 16 = v by omega, show (16 * v + (4 * pa' + pb')) / 4 / 16 = v / 4 by omega]
    omega
theorem bc_2_two (j x : Nat) : bc_2 (2 * (j + 1)) x = 256 * bc_2 (2 * j) (x / 256) + (16 * (bc_p (x / 64 % 4) + bc_p (x / 16 % 4)) + (bc_p (x / 4 % 4) + bc_p (x % 4))) := by
  rw [show 2 * (j + 1) = 2 * j + 1 + 1 by omega]
  simp only [bc_2]
  rw [show x / 16 / 16 = x / 256 by omega, show x / 16 / 4 = x / 64 by omega]
  omega
theorem bc_2_low (j x : Nat) : bc_2 j x % 16 ≤ 4 := by
  cases j with
  | zero => simp [bc_2]
  | succ j =>
    simp only [bc_2]
    have pa := bc_p_le (d := x / 4 % 4) (by omega)
    have pb := bc_p_le (d := x % 4) (by omega)
    omega
theorem bc_s3 : ∀ j x, (bc_2 (2 * j) x + bc_2 (2 * j) x / 16) &&& bc_O j = bc_3 j x := by
  intro j
  induction j with
  | zero => intro x; simp [bc_2, bc_O, bc_3]
  | succ j ih =>
    intro x
    have h1 := ih (x / 256)
    have hl := bc_2_low (2 * j) (x / 256)
    have pa := bc_p_le (d := x / 4 % 4) (by omega)
    have pb := bc_p_le (d := x % 4) (by omega)
    have pc := bc_p_le (d := x / 64 % 4) (by omega)
    have pd := bc_p_le (d := x / 16 % 4) (by omega)
    simp only [bc_O, bc_3]
    rw [bc_2_two]
    generalize bc_2 (2 * j) (x / 256) = v at h1 hl ⊢
    generalize bc_p (x / 4 % 4) = pa' at pa ⊢
    generalize bc_p (x % 4) = pb' at pb ⊢
    generalize bc_p (x / 64 % 4) = pc' at pc ⊢
    generalize bc_p (x / 16 % 4) = pd' at pd ⊢
    have m15 : ∀ z : Nat, z &&& 15 = z % 16 := fun z => Nat.and_two_pow_sub_one_eq_mod z 4
    have e1 := bc_split 8 ((256 * v + (16 * (pc' + pd') + (pa' + pb'))) + (256 * v + (16 * (pc' + pd') + (pa' + pb'))) / 16) (bc_O j) 15 (by decide)
    rw [show (2 : Nat) ^ 8 = 256 from rfl, m15] at e1
    rw [e1, show ((256 * v + (16 * (pc' + pd') + (pa' + pb'))) + (256 * v + (16 * (pc' + pd') + (pa' + pb'))) / 16) / 256 = v + v / 16 by omega, h1]
    omega
/-- a count from below -/
theorem cf_card_half (n x : Nat) : cf_card (n + 1) x = x % 2 + cf_card n (x / 2) := by
  induction n with
  | zero =>
    simp only [cf_card, Nat.testBit_zero]
    by_cases c : x % 2 = 1
    · simp [c]
    · have : x % 2 = 0 := by omega
      simp [this]
  | succ n ih =>
    rw [show cf_card (n + 1 + 1) x = cf_card (n + 1) x + (if x.testBit (n + 1) = true then 1 else 0) from rfl, ih, Nat.testBit_add_one]
    simp only [cf_card]
    omega
theorem cf_card_four (n x : Nat) : cf_card (n + 2) x = bc_p (x % 4) + cf_card n (x / 4) := by
  rw [cf_card_half, cf_card_half, show x / 2 / 2 = x / 4 by omega]
  unfold bc_p
  omega
def bc_g : Nat → Nat → Nat
  | 0, _ => 0
  | j + 1, x => bc_p (x % 4) + bc_g j (x / 4)
theorem bc_g_card : ∀ j x, cf_card (2 * j) x = bc_g j x := by
  intro j
  induction j with
  | zero => intro x; rfl
  | succ j ih =>
    intro x
    rw [show 2 * (j + 1) = 2 * j + 2 by omega, cf_card_four, ih]
    rfl
theorem bc_all (x : Nat) : ∃ p0 p1 p2 p3, p0 ≤ 8 ∧ p1 ≤ 8 ∧ p2 ≤ 8 ∧ p3 ≤ 8 ∧ bc_3 4 x = p0 + 256 * p1 + 65536 * p2 + 16777216 * p3 ∧ cf_card 32 x = p0 + p1 + p2 + p3 := by
  have q : ∀ d, bc_p (d % 4) ≤ 2 := fun d => bc_p_le (by omega)
  refine ⟨(bc_p (x / 64 % 4) + bc_p (x / 16 % 4)) + (bc_p (x / 4 % 4) + bc_p (x % 4)), (bc_p (x / 16384 % 4) + bc_p (x / 4096 % 4)) + (bc_p (x / 1024 % 4) + bc_p (x / 256 % 4)),
    (bc_p (x / 4194304 % 4) + bc_p (x / 1048576 % 4)) + (bc_p (x / 262144 % 4) + bc_p (x / 65536 % 4)),
    (bc_p (x / 1073741824 % 4) + bc_p (x / 268435456 % 4)) + (bc_p (x / 67108864 % 4) + bc_p (x / 16777216 % 4)), ?_, ?_, ?_, ?_, ?_, ?_⟩
  · have := q (x / 64); have := q (x / 16); have := q (x / 4); have := q x; omega
  · have := q (x / 16384); have := q (x / 4096); have := q (x / 1024); have := q (x / 256); omega
  · have := q (x / 4194304); have := q (x / 1048576); have := q (x / 262144); have := q (x / 65536); omega
  · have := q (x / 1073741824); have := q (x / 268435456); have := q (x / 67108864); have := q (x / 16777216); omega
  · simp only [bc_3, Nat.div_div_eq_div_mul, Nat.reduceMul]; omega
  · rw [show (32 : Nat) = 2 * 16 from rfl, bc_g_card]
    simp only [bc_g, Nat.div_div_eq_div_mul, Nat.reduceMul]; omega
/-- the whole of it, as the JDK counts -/
theorem bc_count {x : Nat} (hx : x < 2 ^ 30) :
    (let a := x - ((x / 2) &&& 1431655765)
     let b := (a &&& 858993459) + ((a / 4) &&& 858993459)
     let d := (b + b / 16) &&& 252645135
     let f := d + d / 256
     (f + f / 65536) &&& 63) = cf_card 32 x := by
  have s1 := bc_s1 16 x (by rw [show (4 : Nat) ^ 16 = 2 ^ 32 from rfl]; omega)
  have s2 := bc_s2 8 x
  have s3 := bc_s3 4 x
  rw [show bc_M 16 = 1431655765 from rfl] at s1
  rw [show bc_N 8 = 858993459 from rfl, show 2 * 8 = 16 from rfl] at s2
  rw [show bc_O 4 = 252645135 from rfl, show 2 * 4 = 8 from rfl] at s3
  have ea : x - ((x / 2) &&& 1431655765) = bc_1 16 x := by omega
  obtain ⟨p0, p1, p2, p3, h0, h1, h2, h3, e1, e2⟩ := bc_all x
  dsimp only
  rw [ea, s2, s3, e1, e2]
  have m63 : ∀ z : Nat, z &&& 63 = z % 64 := fun z => Nat.and_two_pow_sub_one_eq_mod z 6
  rw [m63]
  have e3 : (p0 + 256 * p1 + 65536 * p2 + 16777216 * p3) / 256 = p1 + 256 * p2 + 65536 * p3 := by omega
  rw [e3]
  have e4 : (p0 + 256 * p1 + 65536 * p2 + 16777216 * p3 + (p1 + 256 * p2 + 65536 * p3)) / 65536 = p2 + p3 + 256 * p3 := by omega
  rw [e4]
  omega
