/-! THE SAME CIRCLES: what two rows of lines have in common; packing, shifting, putting side by side, tying together -/
def cy_eq (L M : Nat → Nat) (n : Nat) : Prop := ∀ T, cf_sub T (cf_full n) → (cf_xs L n T = 0 ↔ cf_xs M n T = 0)
theorem cy_rf (L : Nat → Nat) (n : Nat) : cy_eq L L n := fun _ _ => Iff.rfl
theorem cy_sym {L M : Nat → Nat} {n : Nat} (h : cy_eq L M n) : cy_eq M L n := fun T hT => (h T hT).symm
theorem cy_tr {L M N : Nat → Nat} {n : Nat} (h : cy_eq L M n) (k : cy_eq M N n) : cy_eq L N n := fun T hT => (h T hT).trans (k T hT)
theorem cf_cut (n T : Nat) : cf_sub (T &&& cf_full n) (cf_full n) := fun i hi => by rw [Nat.testBit_and] at hi; cases c : (cf_full n).testBit i <;> simp [c] at hi ⊢
theorem cf_cut_bit {n T i : Nat} (hi : i < n) : (T &&& cf_full n).testBit i = T.testBit i := by rw [Nat.testBit_and, cf_full_bit]; simp [hi]
theorem cf_cut_xs (L : Nat → Nat) (n T : Nat) : cf_xs L n (T &&& cf_full n) = cf_xs L n T := cf_xs_congr fun _ hi => cf_cut_bit hi
theorem cy_ind {L M : Nat → Nat} {n S : Nat} (h : cy_eq L M n) (hi : cf_ind L n S) : cf_ind M n S := by
  intro T hT h0 i hin
  have h1 := (h (T &&& cf_full n) (cf_cut n T)).mpr (by rw [cf_cut_xs]; exact h0)
  have := hi (T &&& cf_full n) (fun j hj => by rw [Nat.testBit_and] at hj; exact hT j (by cases c : T.testBit j <;> simp [c] at hj ⊢)) h1 i hin
  rw [cf_cut_bit hin] at this; exact this
theorem cy_rk {L M : Nat → Nat} {n : Nat} (h : cy_eq L M n) (S : Nat) : cf_rk L n S = cf_rk M n S := by
  have key : ∀ {L M : Nat → Nat}, cy_eq L M n → cf_rk L n S ≤ cf_rk M n S := by
    intro L M h
    obtain ⟨B, hb⟩ := cf_bas_ex L n S
    rw [cf_rk_bas hb]
    exact cf_rk_ind (cy_ind h hb.2.1) fun j _ hj => hb.1 j hj
  exact Nat.le_antisymm (key h) (key (cy_sym h))
theorem cy_com {L L' M M' : Nat → Nat} {n I : Nat} (h : cy_eq L L' n) (k : cy_eq M M' n) (c : cf_com L M n I) : cf_com L' M' n I :=
  ⟨c.1, cy_ind h c.2.1, cy_ind k c.2.2.1, fun J a b d => c.2.2.2 J a (cy_ind (cy_sym h) b) (cy_ind (cy_sym k) d)⟩
theorem cy_cm {L L' M M' : Nat → Nat} {n I : Nat} (h : cy_eq L L' n) (k : cy_eq M M' n) (c : cm_spec L M n I) : cm_spec L' M' n I :=
  ⟨cy_com h k c.1, fun J a b d => c.2 J a (cy_ind (cy_sym h) b) (cy_ind (cy_sym k) d)⟩
theorem cy_be {L L' : Nat → Nat} {f : Nat → Int32} {n F : Nat} (h : cy_eq L L' n) (c : be_spec L f n F) : be_spec L' f n F :=
  ⟨c.1, cy_ind h c.2.1, by rw [← cy_rk h]; exact c.2.2.1, fun J a b d => c.2.2.2 J a (cy_ind (cy_sym h) b) (by rw [cy_rk h]; exact d)⟩
theorem cy_cov {L L' M M' : Nat → Nat} {n I A : Nat} (h : cy_eq L L' n) (k : cy_eq M M' n) (c : cf_cov L M n I A) : cf_cov L' M' n I A := by
  unfold cf_cov at c ⊢
  rw [← cy_rk h, ← cy_rk k]; exact c
/-- sums stay below a power of two -/
theorem cf_xs_lt {L : Nat → Nat} {n T k : Nat} (h : ∀ i, i < n → T.testBit i = true → L i < 2 ^ k) : cf_xs L n T < 2 ^ k := by
  induction n with
  | zero => exact Nat.two_pow_pos k
  | succ n ih =>
    simp only [cf_xs]
    have h1 := ih fun i hi => h i (by omega)
    split
    · exact Nat.xor_lt_two_pow h1 (h n (by omega) (by assumption))
    · exact h1
theorem cf_xs_sub {L : Nat → Nat} {n T m : Nat} (h : ∀ i, i < n → T.testBit i = true → cf_sub (L i) m) : cf_sub (cf_xs L n T) m := by
  induction n with
  | zero => exact cf_sub_0 m
  | succ n ih =>
    simp only [cf_xs]
    have h1 := ih fun i hi => h i (by omega)
    split
    · intro j hj
      rw [Nat.testBit_xor] at hj
      cases c : (cf_xs L n T).testBit j with
      | true => exact h1 j c
      | false => rw [c] at hj; exact h n (by omega) (by assumption) j (by simpa using hj)
    · exact h1
/-- a map that keeps sums, over a sum -/
theorem cf_xs_map {L : Nat → Nat} {φ : Nat → Nat} (h0 : φ 0 = 0) (hx : ∀ a b, φ (a ^^^ b) = φ a ^^^ φ b) (n T : Nat) : cf_xs (fun e => φ (L e)) n T = φ (cf_xs L n T) := by
  induction n with
  | zero => exact h0.symm
  | succ n ih =>
    simp only [cf_xs]
    split
    · rw [ih, hx]
    · exact ih
/-- the place of a vertex among those that are met -/
def pq_ix (met i : Nat) : Nat := cf_card i met
def pq_of (met v : Nat) : Nat := cf_xs (fun i => 2 ^ pq_ix met i) 32 v
theorem pq_ix_lt {met i j : Nat} (h : i < j) (hi : met.testBit i = true) : pq_ix met i < pq_ix met j := by
  unfold pq_ix
  have key : ∀ d, cf_card (i + d) met ≤ cf_card (i + d + 1) met := fun d => by
    show _ ≤ cf_card (i + d) met + _
    omega
  have k2 : ∀ d, cf_card (i + 1) met ≤ cf_card (i + 1 + d) met := by
    intro d
    induction d with
    | zero => exact Nat.le_refl _
    | succ d ih => exact Nat.le_trans ih (by have := key (1 + d); rw [show i + (1 + d) = i + 1 + d by omega] at this; exact this)
  have k3 := k2 (j - (i + 1))
  rw [show i + 1 + (j - (i + 1)) = j by omega] at k3
  have : cf_card (i + 1) met = cf_card i met + 1 := by simp only [cf_card]; rw [if_pos hi]
  omega
theorem pq_inj {met v : Nat} (hv : cf_sub v met) (hn : v < 2 ^ 32) (h : pq_of met v = 0) : v = 0 := by
  have key : ∀ m, cf_xs (fun i => 2 ^ pq_ix met i) m v = 0 → ∀ i, i < m → v.testBit i = false := by
    intro m
    induction m with
    | zero => intro _ i hi; exact absurd hi (Nat.not_lt_zero i)
    | succ m ih =>
      intro h0 i hi
      simp only [cf_xs] at h0
      by_cases c : v.testBit m = true
      · exfalso
        rw [if_pos c] at h0
        have hl : cf_xs (fun i => 2 ^ pq_ix met i) m v < 2 ^ pq_ix met m := cf_xs_lt fun j hj hb => Nat.pow_lt_pow_right (by omega) (pq_ix_lt hj (hv j hb))
        have : (cf_xs (fun i => 2 ^ pq_ix met i) m v ^^^ 2 ^ pq_ix met m).testBit (pq_ix met m) = true := by
          rw [Nat.testBit_xor, Nat.testBit_lt_two_pow hl, cf_one_bit]; simp
        rw [h0, Nat.zero_testBit] at this; cases this
      · rw [if_neg c] at h0
        rcases Nat.lt_or_ge i m with q | q
        · exact ih h0 i q
        · have : i = m := by omega
          rw [this]
          cases d : v.testBit m with
          | false => rfl
          | true => exact absurd d c
  refine Nat.eq_of_testBit_eq fun i => ?_
  rw [Nat.zero_testBit]
  rcases Nat.lt_or_ge i 32 with q | q
  · exact key 32 h i q
  · exact Nat.testBit_lt_two_pow (Nat.lt_of_lt_of_le hn (Nat.pow_le_pow_right (by omega) q))
theorem pq_xor (met a b : Nat) : pq_of met (a ^^^ b) = pq_of met a ^^^ pq_of met b := cf_xs_xor _ 32 a b
theorem pq_0 (met : Nat) : pq_of met 0 = 0 := cf_xs_0 _ 32
theorem pq_one (met : Nat) {i : Nat} (hi : i < 32) : pq_of met (2 ^ i) = 2 ^ pq_ix met i := cf_xs_one hi
/-- packed lines make the same circles -/
theorem pq_cy {L : Nat → Nat} {n met : Nat} (hm : ∀ e, e < n → cf_sub (L e) met) (hl : ∀ e, e < n → L e < 2 ^ 32) : cy_eq L (fun e => pq_of met (L e)) n := by
  intro T _
  rw [cf_xs_map (pq_0 met) (pq_xor met)]
  refine ⟨fun h => by rw [h, pq_0], fun h => pq_inj (cf_xs_sub fun i hi _ => hm i hi) (cf_xs_lt fun i hi _ => hl i hi) h⟩
/-- below the count of what is met -/
theorem pq_lt {met v : Nat} (hv : cf_sub v met) (hm : met < 2 ^ 32) : pq_of met v < 2 ^ cf_card 32 met := by
  refine cf_xs_lt fun i hi hb => Nat.pow_lt_pow_right (by omega) ?_
  exact pq_ix_lt hi (hv i hb)
/-- two rows of lines, one behind the other, the second's lines above a power of two -/
def bs_L (L M : Nat → Nat) (n sh : Nat) : Nat → Nat := fun e => if e < n then L e else M (e - n) * 2 ^ sh
theorem bs_xs {L M : Nat → Nat} {n sh : Nat} : ∀ k T, cf_xs (bs_L L M n sh) (n + k) T = cf_xs L n T ^^^ (cf_xs M k (T / 2 ^ n) * 2 ^ sh) := by
  intro k
  induction k with
  | zero =>
    intro T
    rw [show cf_xs M 0 (T / 2 ^ n) = 0 from rfl, Nat.zero_mul, Nat.xor_zero, Nat.add_zero]
    exact cf_xs_congrL fun i hi _ => by simp [bs_L, hi]
  | succ k ih =>
    intro T
    rw [← Nat.add_assoc]
    simp only [cf_xs]
    rw [ih, Nat.testBit_div_two_pow, Nat.add_comm k n]
    by_cases c : T.testBit (n + k) = true
    · rw [if_pos c, if_pos c]
      have e : bs_L L M n sh (n + k) = M k * 2 ^ sh := by
        unfold bs_L
        rw [if_neg (by omega), Nat.add_sub_cancel_left]
      rw [e, Nat.xor_assoc, ← Nat.shiftLeft_eq, ← Nat.shiftLeft_eq, ← Nat.shiftLeft_eq, Nat.shiftLeft_xor_distrib]
    · rw [if_neg c, if_neg c]
theorem bs_zero {a b sh : Nat} (ha : a < 2 ^ sh) : a ^^^ (b * 2 ^ sh) = 0 ↔ a = 0 ∧ b = 0 := by
  refine ⟨fun h => ?_, fun ⟨h, k⟩ => by rw [h, k, Nat.zero_mul, Nat.xor_zero]⟩
  have e : a = b * 2 ^ sh := by
    have : (a ^^^ (b * 2 ^ sh)) ^^^ (b * 2 ^ sh) = b * 2 ^ sh := by rw [h, Nat.zero_xor]
    rw [cf_xc] at this; exact this
  have hb : b = 0 := by
    rcases Nat.eq_zero_or_pos b with q | q
    · exact q
    · exfalso
      have : 1 * 2 ^ sh ≤ b * 2 ^ sh := Nat.mul_le_mul_right _ q
      omega
  subst hb
  rw [Nat.zero_mul] at e
  exact ⟨e, rfl⟩
/-- graphs side by side: circles are those of the one and those of the other -/
theorem bs_cy {L M : Nat → Nat} {n k sh : Nat} (hL : ∀ e, e < n → L e < 2 ^ sh) (T : Nat) : cf_xs (bs_L L M n sh) (n + k) T = 0 ↔ cf_xs L n T = 0 ∧ cf_xs M k (T / 2 ^ n) = 0 := by
  rw [bs_xs]
  exact bs_zero (cf_xs_lt fun i hi _ => hL i hi)
theorem bs_eq {L M L' M' : Nat → Nat} {n k sh sh' : Nat} (hL : ∀ e, e < n → L e < 2 ^ sh) (hL' : ∀ e, e < n → L' e < 2 ^ sh') (h : cy_eq L L' n) (q : cy_eq M M' k) : cy_eq (bs_L L M n sh) (bs_L L' M' n sh') (n + k) := by
  intro T hT
  rw [bs_cy hL, bs_cy hL']
  have e1 : cf_xs L n T = 0 ↔ cf_xs L' n T = 0 := by
    rw [← cf_cut_xs L, ← cf_cut_xs L']; exact h _ (cf_cut n T)
  have e2 : cf_xs M k (T / 2 ^ n) = 0 ↔ cf_xs M' k (T / 2 ^ n) = 0 := by
    rw [← cf_cut_xs M, ← cf_cut_xs M']; exact q _ (cf_cut k _)
  rw [e1, e2]
/-- lines of two ends -/
def gl_two (v : Nat) : Prop := ∃ a b, a < 24 ∧ b < 24 ∧ v = 2 ^ a ^^^ 2 ^ b
theorem gl_lt {v : Nat} (h : gl_two v) : v < 2 ^ 24 := by
  obtain ⟨a, b, ha, hb, rfl⟩ := h
  exact Nat.xor_lt_two_pow (Nat.pow_lt_pow_right (by omega) ha) (Nat.pow_lt_pow_right (by omega) hb)
theorem gl_step {r row : Nat} (hr : gl_two r) (hw : gl_two row) : gl_two (fo_step r row) := by
  unfold fo_step
  by_cases c : r ^^^ row < r
  · rw [if_pos c]
    have hne : row ≠ 0 := fun q => by rw [q, Nat.xor_zero] at c; omega
    have ht := (fo_top hne).mp c
    have h2 := Nat.testBit_log2 hne
    obtain ⟨a, b, ha, hb, rfl⟩ := hr
    obtain ⟨x, y, hx, hy, rfl⟩ := hw
    generalize (2 ^ x ^^^ 2 ^ y).log2 = t at ht h2
    rw [Nat.testBit_xor, cf_one_bit, cf_one_bit] at ht h2
    have k1 : a = t ∨ b = t := by
      by_cases q : a = t
      · exact Or.inl q
      · by_cases q2 : b = t
        · exact Or.inr q2
        · simp [q, q2] at ht
    have k2 : x = t ∨ y = t := by
      by_cases q : x = t
      · exact Or.inl q
      · by_cases q2 : y = t
        · exact Or.inr q2
        · simp [q, q2] at h2
    rcases k1 with rfl | rfl <;> rcases k2 with rfl | rfl
    · exact ⟨b, y, hb, hy, by rw [cf_x4, Nat.xor_self, Nat.zero_xor]⟩
    · exact ⟨b, x, hb, hx, by rw [Nat.xor_comm (2 ^ x), cf_x4, Nat.xor_self, Nat.zero_xor]⟩
    · exact ⟨a, y, ha, hy, by rw [Nat.xor_comm (2 ^ a), cf_x4, Nat.xor_self, Nat.zero_xor]⟩
    · exact ⟨a, x, ha, hx, by rw [cf_x4, Nat.xor_self, Nat.xor_zero]⟩
  · rw [if_neg c]; exact hr
theorem gl_rest {rows : Nat → Nat} {v k : Nat} (hv : gl_two v) (h : ∀ i, i < k → gl_two (rows i)) : gl_two (fo_rest rows v k) := by
  induction k with
  | zero => exact hv
  | succ k ih => exact gl_step (ih fun i hi => h i (by omega)) (h k (by omega))
theorem gl_fill {L : Nat → Nat} {n S : Nat} {rows parts : Nat → Nat} (hL : ∀ e, e < n → gl_two (L e)) : ∀ m, m ≤ n → ∀ i, i < (fo_fill L S rows parts m).2.2 → gl_two ((fo_fill L S rows parts m).1 i) := by
  intro m
  induction m with
  | zero => intro _ i hi; exact absurd hi (Nat.not_lt_zero i)
  | succ m ih =>
    intro hm
    have h1 := ih (by omega)
    simp only [fo_fill]
    split
    · unfold fo_takes
      split
      · exact h1
      · intro i hi
        dsimp only at hi ⊢
        rcases Nat.lt_or_ge i (fo_fill L S rows parts m).2.2 with q | q
        · rw [fo_up_lt _ _ q]; exact h1 i q
        · have : i = (fo_fill L S rows parts m).2.2 := by omega
          rw [this, fo_up_self]
          exact gl_rest (hL m (by omega)) h1
    · exact h1
/-- tied together: a sum of rests is nothing just when the sum of the lines is spanned -/
theorem gl_tied {L : Nat → Nat} {n B : Nat} {rows parts : Nat → Nat} {k : Nat} (h : fo_ok L n B rows parts k) (T : Nat) : cf_xs (fun e => fo_rest rows (L e) k) n T = 0 ↔ cf_sp L n B (cf_xs L n T) := by
  rw [cf_xs_map (φ := fun v => fo_rest rows v k) (fo_rest_0 rows k) (fun a b => fo_rest_lin fun i hi => (h.2.2.2.1 i hi).1)]
  exact fo_rest_iff h _
