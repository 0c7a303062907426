/-! THE BEST FOREST: heaviest edges first -/
def gy_hv (f : Nat → Int32) (S : Nat) : Nat → Int32 × Nat
  | 0 => (-1000, 0)
  | e + 1 => if S.testBit e = true ∧ (gy_hv f S e).1 < f e then (f e, e) else gy_hv f S e
def gw_in (f : Nat → Int32) (n : Nat) : Prop := ∀ e, e < n → -999 ≤ (f e).toInt ∧ (f e).toInt ≤ 999
theorem gy_hvor {f : Nat → Int32} {S n : Nat} (hf : gw_in f n) : ∀ m, m ≤ n → ((∀ e, e < m → S.testBit e = false) ∧ gy_hv f S m = (-1000, 0)) ∨ ((gy_hv f S m).2 < m ∧ S.testBit (gy_hv f S m).2 = true ∧ (gy_hv f S m).1 = f (gy_hv f S m).2 ∧ ∀ e, e < m → S.testBit e = true → (f e).toInt < (f (gy_hv f S m).2).toInt ∨ ((f e).toInt = (f (gy_hv f S m).2).toInt ∧ (gy_hv f S m).2 ≤ e)) := by
  intro m
  induction m with
  | zero => intro _; left; exact ⟨fun e he => absurd he (Nat.not_lt_zero e), rfl⟩
  | succ m ih =>
    intro hm
    simp only [gy_hv]
    rcases ih (by omega) with ⟨h1, h2⟩ | ⟨h1, h2, h3, h4⟩
    · by_cases c : S.testBit m = true
      · right
        have q : (gy_hv f S m).1 < f m := by
          rw [h2, Int32.lt_iff_toInt_lt]
          have := hf m (by omega)
          have e1 : ((-1000 : Int32)).toInt = -1000 := by decide
          rw [e1]; omega
        rw [if_pos ⟨c, q⟩]
        refine ⟨by omega, c, rfl, fun e he hS => ?_⟩
        rcases Nat.lt_or_ge e m with r | r
        · rw [h1 e r] at hS; cases hS
        · have : e = m := by omega
          subst this; right; exact ⟨rfl, Nat.le_refl _⟩
      · left
        rw [if_neg fun q => c q.1]
        refine ⟨fun e he => ?_, h2⟩
        rcases Nat.lt_or_ge e m with r | r
        · exact h1 e r
        · have : e = m := by omega
          subst this
          cases d : S.testBit e with
          | false => rfl
          | true => exact absurd d c
    · right
      by_cases c : S.testBit m = true ∧ (gy_hv f S m).1 < f m
      · rw [if_pos c]
        have q := c.2
        rw [h3, Int32.lt_iff_toInt_lt] at q
        refine ⟨by omega, c.1, rfl, fun e he hS => ?_⟩
        rcases Nat.lt_or_ge e m with r | r
        · rcases h4 e r hS with s | s
          · left; show (f e).toInt < (f m).toInt; omega
          · left; show (f e).toInt < (f m).toInt; omega
        · have : e = m := by omega
          subst this; right; exact ⟨rfl, Nat.le_refl _⟩
      · rw [if_neg c]
        refine ⟨by omega, h2, h3, fun e he hS => ?_⟩
        rcases Nat.lt_or_ge e m with r | r
        · exact h4 e r hS
        · have : e = m := by omega
          subst this
          have q : ¬ (f (gy_hv f S e).2).toInt < (f e).toInt := fun q => c ⟨hS, by rw [h3, Int32.lt_iff_toInt_lt]; exact q⟩
          rcases Int.lt_or_eq_of_le (Int.not_lt.mp q) with s | s
          · left; exact s
          · right; exact ⟨s, by omega⟩
/-- the turns: what is untried, and the forest so far -/
def gy_U (f : Nat → Int32) (n : Nat) : Nat → Nat
  | 0 => cf_full n
  | t + 1 => cf_diff (gy_U f n t) (2 ^ (gy_hv f (gy_U f n t) n).2)
def gy_s (f : Nat → Int32) (n t : Nat) : Nat := (gy_hv f (gy_U f n t) n).2
theorem gy_U_card {f : Nat → Int32} {n : Nat} (hf : gw_in f n) : ∀ t, t ≤ n → cf_card n (gy_U f n t) = n - t ∧ (t < n → gy_s f n t < n ∧ (gy_U f n t).testBit (gy_s f n t) = true) := by
  have has : ∀ t, t < n → cf_card n (gy_U f n t) = n - t → gy_s f n t < n ∧ (gy_U f n t).testBit (gy_s f n t) = true := by
    intro t ht hc
    rcases gy_hvor (S := gy_U f n t) hf n (Nat.le_refl n) with ⟨h1, _⟩ | ⟨h1, h2, _, _⟩
    · rw [cf_card_none h1] at hc; omega
    · exact ⟨h1, h2⟩
  intro t
  induction t with
  | zero =>
    intro _
    have e : cf_card n (gy_U f n 0) = n - 0 := by
      show cf_card n (cf_full n) = n
      have key : ∀ m, m ≤ n → cf_card m (cf_full n) = m := by
        intro m
        induction m with
        | zero => intro _; rfl
        | succ m ih =>
          intro hm
          simp only [cf_card]
          rw [ih (by omega), cf_full_bit]
          have : m < n := by omega
          simp [this]
      exact key n (Nat.le_refl n)
    exact ⟨e, fun h => has 0 h e⟩
  | succ t ih =>
    intro ht
    obtain ⟨a, b⟩ := ih (by omega)
    obtain ⟨b1, b2⟩ := b (by omega)
    have e : cf_card n (gy_U f n (t + 1)) = n - (t + 1) := by
      have := cf_card_del b1 b2
      show cf_card n (cf_diff (gy_U f n t) (2 ^ gy_s f n t)) = _
      omega
    exact ⟨e, fun h => has (t + 1) h e⟩
theorem gy_U_le {f : Nat → Int32} {n a : Nat} : ∀ d, cf_sub (gy_U f n (a + d)) (gy_U f n a) := by
  intro d
  induction d with
  | zero => exact cf_sub_rf _
  | succ d ih =>
    refine cf_sub_tr (fun i hi => ?_) ih
    have hi : (cf_diff (gy_U f n (a + d)) (2 ^ gy_s f n (a + d))).testBit i = true := hi
    rw [cf_diff_bit] at hi
    cases c : (gy_U f n (a + d)).testBit i <;> simp [c] at hi ⊢
/-- an edge comes before another: it is heavier, or as heavy and less -/
def gy_lt (f : Nat → Int32) (a b : Nat) : Prop := (f b).toInt < (f a).toInt ∨ ((f b).toInt = (f a).toInt ∧ a < b)
theorem gy_sorted {f : Nat → Int32} {n i j : Nat} (hf : gw_in f n) (hij : i < j) (hj : j < n) : gy_lt f (gy_s f n i) (gy_s f n j) := by
  obtain ⟨_, hJ⟩ := gy_U_card hf j (by omega)
  obtain ⟨j1, j2⟩ := hJ hj
  have hsub := gy_U_le (f := f) (n := n) (a := i + 1) (j - (i + 1)) (gy_s f n j)
  rw [show i + 1 + (j - (i + 1)) = j by omega] at hsub
  have h1 := hsub j2
  have h1 : (cf_diff (gy_U f n i) (2 ^ gy_s f n i)).testBit (gy_s f n j) = true := h1
  rw [cf_diff_bit, cf_one_bit] at h1
  have hU : (gy_U f n i).testBit (gy_s f n j) = true := by cases c : (gy_U f n i).testBit (gy_s f n j) <;> simp [c] at h1 ⊢
  have hne : gy_s f n i ≠ gy_s f n j := fun q => by simp [q] at h1
  rcases gy_hvor (S := gy_U f n i) hf n (Nat.le_refl n) with ⟨k1, _⟩ | ⟨k1, k2, _, k4⟩
  · rw [k1 _ j1] at hU; cases hU
  · rcases k4 _ j1 hU with s | ⟨s, s2⟩
    · left; exact s
    · right; refine ⟨s, ?_⟩
      have : gy_s f n i ≤ gy_s f n j := s2
      omega
theorem gy_onto {f : Nat → Int32} {n x : Nat} (hf : gw_in f n) (hx : x < n) : ∃ t, t < n ∧ gy_s f n t = x := by
  have key : ∀ t, t ≤ n → (∃ u, u < t ∧ gy_s f n u = x) ∨ (gy_U f n t).testBit x = true := by
    intro t
    induction t with
    | zero => intro _; right; show (cf_full n).testBit x = true; rw [cf_full_bit]; exact decide_eq_true hx
    | succ t ih =>
      intro ht
      rcases ih (by omega) with ⟨u, h1, h2⟩ | h
      · left; exact ⟨u, by omega, h2⟩
      · by_cases c : gy_s f n t = x
        · left; exact ⟨t, by omega, c⟩
        · right
          show (cf_diff (gy_U f n t) (2 ^ gy_s f n t)).testBit x = true
          rw [cf_diff_bit, cf_one_bit, h]; simp [c]
  rcases key n (Nat.le_refl n) with ⟨u, h1, h2⟩ | h
  · exact ⟨u, h1, h2⟩
  · have := (gy_U_card hf n (Nat.le_refl n)).1
    have := cf_card_del hx h
    omega
/-- sums of weights -/
def gw_sum (f : Nat → Int32) : Nat → Nat → Int
  | 0, _ => 0
  | n + 1, S => gw_sum f n S + (if S.testBit n = true then (f n).toInt else 0)
theorem gw_congr {f : Nat → Int32} {n S T : Nat} (h : ∀ i, i < n → S.testBit i = T.testBit i) : gw_sum f n S = gw_sum f n T := by
  induction n with
  | zero => rfl
  | succ n ih => simp only [gw_sum]; rw [ih fun i hi => h i (by omega), h n (by omega)]
theorem gw_add {f : Nat → Int32} {n S e : Nat} (he : e < n) (hs : S.testBit e = false) : gw_sum f n (S ||| 2 ^ e) = gw_sum f n S + (f e).toInt := by
  induction n with
  | zero => omega
  | succ n ih =>
    simp only [gw_sum, cf_add_bit]
    by_cases c : e = n
    · subst c
      rw [gw_congr (T := S) (fun i hi => by rw [cf_add_bit]; simp; omega), hs]; simp
    · rw [ih (by omega)]; simp [c]; omega
/-- better: a greater sum, or the same and first in ORDER -/
def gw_bet (f : Nat → Int32) (n A B : Nat) : Prop := gw_sum f n B < gw_sum f n A ∨ (gw_sum f n B = gw_sum f n A ∧ cf_lex A B)
theorem gw_bet_tr {f : Nat → Int32} {n A B C : Nat} (h : gw_bet f n A B) (k : gw_bet f n B C) : gw_bet f n A C := by
  rcases h with h | ⟨h, h2⟩ <;> rcases k with k | ⟨k, k2⟩
  · left; omega
  · left; omega
  · left; omega
  · right; exact ⟨by omega, cf_lex_tr h2 k2⟩
theorem gw_bet_ir {f : Nat → Int32} {n A : Nat} (h : gw_bet f n A A) : False := by
  rcases h with h | ⟨_, h⟩
  · omega
  · exact cf_lex_ir h
theorem gw_swap {f : Nat → Int32} {n J x y : Nat} (hx : x < n) (hy : y < n) (hJx : J.testBit x = false) (hJy : J.testBit y = true) (hl : gy_lt f x y) : gw_bet f n (cf_diff J (2 ^ y) ||| 2 ^ x) J := by
  have hxy : y ≠ x := fun q => by rw [q, hJx] at hJy; cases hJy
  have b1 : (cf_diff J (2 ^ y)).testBit x = false := by rw [cf_diff_bit, hJx]; rfl
  have s1 := gw_add (f := f) hx b1
  have s2 := gw_add (f := f) (n := n) (S := cf_diff J (2 ^ y)) hy (by rw [cf_diff_bit, cf_one_bit]; simp)
  have e1 : cf_diff J (2 ^ y) ||| 2 ^ y = J := Nat.eq_of_testBit_eq fun i => by
    rw [cf_add_bit, cf_diff_bit, cf_one_bit]
    by_cases c : y = i
    · subst c; rw [hJy]; simp
    · simp [c]
  rw [e1] at s2
  rcases hl with h | ⟨h, h2⟩
  · left; omega
  · right
    refine ⟨by omega, x, by rw [cf_add_bit]; simp, hJx, fun j hj => ?_⟩
    rw [cf_add_bit, cf_diff_bit, cf_one_bit]
    have q1 : ¬ x = j := by omega
    have q2 : ¬ y = j := by omega
    simp [q1, q2]
/-- THE BEST FOREST -/
def be_spec (L : Nat → Nat) (f : Nat → Int32) (n F : Nat) : Prop := cf_sub F (cf_full n) ∧ cf_ind L n F ∧ cf_card n F = cf_rk L n (cf_full n) ∧ ∀ J, cf_sub J (cf_full n) → cf_ind L n J → cf_card n J = cf_rk L n (cf_full n) → F = J ∨ gw_bet f n F J
theorem be_only {L : Nat → Nat} {f : Nat → Int32} {n F G : Nat} (h : be_spec L f n F) (k : be_spec L f n G) : F = G := by
  rcases h.2.2.2 G k.1 k.2.1 k.2.2.1 with q | q
  · exact q
  · rcases k.2.2.2 F h.1 h.2.1 h.2.2.1 with r | r
    · exact r.symm
    · exact absurd (gw_bet_tr q r) gw_bet_ir
/-- F is what the turns make: an edge is in F just when what of F came before does not span it -/
def gy_ok (L : Nat → Nat) (f : Nat → Int32) (n t F : Nat) : Prop := cf_sub F (cf_full n) ∧ cf_ind L n F ∧ (∀ x, F.testBit x = true → ∃ u, u < t ∧ gy_s f n u = x) ∧ ∀ u, u < t → F.testBit (gy_s f n u) = false → ∃ T, cf_sub T F ∧ cf_sp L n T (L (gy_s f n u)) ∧ ∀ x, T.testBit x = true → ∃ v, v < u ∧ gy_s f n v = x
theorem gy_ok_0 (L : Nat → Nat) (f : Nat → Int32) (n : Nat) : gy_ok L f n 0 0 := ⟨cf_sub_0 _, cf_ind_0 L n, (fun x h => absurd h (by rw [Nat.zero_testBit]; exact Bool.false_ne_true)), fun u hu => absurd hu (Nat.not_lt_zero u)⟩
theorem gy_ok_in {L : Nat → Nat} {f : Nat → Int32} {n t F : Nat} (hf : gw_in f n) (ht : t < n) (h : gy_ok L f n t F) (hn : ¬ cf_sp L n F (L (gy_s f n t))) : gy_ok L f n (t + 1) (F ||| 2 ^ gy_s f n t) := by
  obtain ⟨a, b, c, d⟩ := h
  obtain ⟨s1, _⟩ := (gy_U_card hf t (by omega)).2 ht
  refine ⟨cf_or_sub a (cf_one_sub (by rw [cf_full_bit]; exact decide_eq_true s1)), cf_ind_add s1 b hn, fun x hx => ?_, fun u hu hF => ?_⟩
  · rw [cf_add_bit] at hx
    by_cases q : gy_s f n t = x
    · exact ⟨t, by omega, q⟩
    · obtain ⟨u, u1, u2⟩ := c x (by simpa [q] using hx)
      exact ⟨u, by omega, u2⟩
  · rw [cf_add_bit] at hF
    have hF1 : F.testBit (gy_s f n u) = false := by cases q : F.testBit (gy_s f n u) <;> simp [q] at hF ⊢
    have hut : u ≠ t := fun q => by simp [q] at hF
    obtain ⟨T, t1, t2, t3⟩ := d u (by omega) hF1
    exact ⟨T, cf_sub_tr t1 (cf_sub_or _ _), t2, t3⟩
theorem gy_ok_out {L : Nat → Nat} {f : Nat → Int32} {n t F : Nat} (h : gy_ok L f n t F) (hs : cf_sp L n F (L (gy_s f n t))) : gy_ok L f n (t + 1) F := by
  obtain ⟨a, b, c, d⟩ := h
  refine ⟨a, b, fun x hx => ?_, fun u hu hF => ?_⟩
  · obtain ⟨u, u1, u2⟩ := c x hx
    exact ⟨u, by omega, u2⟩
  · rcases Nat.lt_or_ge u t with q | q
    · exact d u q hF
    · have : u = t := by omega
      subst this
      exact ⟨F, cf_sub_rf F, hs, c⟩
/-- an independent set with as many elements as the rank spans all -/
theorem cf_sp_full {L : Nat → Nat} {n J : Nat} (hJ : cf_sub J (cf_full n)) (hi : cf_ind L n J) (hc : cf_card n J = cf_rk L n (cf_full n)) {x : Nat} (hx : x < n) : cf_sp L n J (L x) := by
  rcases Classical.em (cf_sp L n J (L x)) with q | q
  · exact q
  · exfalso
    have hJx : J.testBit x = false := by
      cases c : J.testBit x with
      | false => rfl
      | true => exact absurd (cf_sp_mem hx c) q
    have := cf_rk_ind (S := cf_full n) (cf_ind_add hx hi q) (fun j hj _ => by rw [cf_full_bit]; exact decide_eq_true hj)
    rw [cf_card_add hx hJx] at this
    omega
theorem gy_best {L : Nat → Nat} {f : Nat → Int32} {n F : Nat} (hf : gw_in f n) (h : gy_ok L f n n F) : be_spec L f n F := by
  obtain ⟨a, b, c, d⟩ := h
  have hcard : cf_card n F = cf_rk L n (cf_full n) := by
    refine (cf_rk_bas ⟨a, b, fun i hi _ => ?_⟩).symm
    cases q : F.testBit i with
    | true => exact cf_sp_mem hi q
    | false =>
      obtain ⟨t, t1, t2⟩ := gy_onto hf hi
      obtain ⟨T, s1, s2, _⟩ := d t t1 (by rw [t2]; exact q)
      rw [t2] at s2
      exact cf_sp_mono s1 s2
  refine ⟨a, b, hcard, ?_⟩
  have key : ∀ k J, cf_card n (cf_diff J F) = k → cf_sub J (cf_full n) → cf_ind L n J → cf_card n J = cf_rk L n (cf_full n) → F = J ∨ gw_bet f n F J := by
    intro k
    induction k with
    | zero =>
      intro J hk hJ hi hc
      left
      have hsub : cf_sub J F := fun i hi => by
        have hin : i < n := by have := hJ i hi; rw [cf_full_bit] at this; exact of_decide_eq_true this
        cases q : F.testBit i with
        | true => rfl
        | false =>
          have := cf_card_del (n := n) (S := cf_diff J F) hin (by rw [cf_diff_bit, hi, q]; rfl)
          omega
      refine Nat.eq_of_testBit_eq fun i => ?_
      rcases Nat.lt_or_ge i n with q | q
      · exact (cf_card_eq hsub (by omega) i q).symm
      · rw [cf_sub_full a q, cf_sub_full hJ q]
    | succ k ih =>
      intro J hk hJ hi hc
      right
      -- the first turn at which they differ
      have first : ∀ m, m ≤ n → (∀ t, t < m → F.testBit (gy_s f n t) = J.testBit (gy_s f n t)) ∨ ∃ t, t < n ∧ F.testBit (gy_s f n t) ≠ J.testBit (gy_s f n t) ∧ ∀ u, u < t → F.testBit (gy_s f n u) = J.testBit (gy_s f n u) := by
        intro m
        induction m with
        | zero => intro _; left; intro t ht; exact absurd ht (Nat.not_lt_zero t)
        | succ m ihm =>
          intro hm
          rcases ihm (by omega) with q | q
          · by_cases r : F.testBit (gy_s f n m) = J.testBit (gy_s f n m)
            · left
              intro t ht
              rcases Nat.lt_or_ge t m with w | w
              · exact q t w
              · have : t = m := by omega
                rw [this]; exact r
            · right; exact ⟨m, by omega, r, q⟩
          · right; exact q
      rcases first n (Nat.le_refl n) with q | ⟨t, t1, t2, t3⟩
      · exfalso
        obtain ⟨x, x1, x2⟩ := cf_card_some (n := n) (S := cf_diff J F) (by omega)
        obtain ⟨t, t1, t2⟩ := gy_onto hf x1
        have := q t t1
        rw [t2] at this
        rw [cf_diff_bit, this] at x2
        cases r : J.testBit x <;> simp [r] at x2
      · obtain ⟨s1, _⟩ := (gy_U_card hf t (by omega)).2 t1
        have hFt : F.testBit (gy_s f n t) = true := by
          cases r : F.testBit (gy_s f n t) with
          | true => rfl
          | false =>
            exfalso
            have hJt : J.testBit (gy_s f n t) = true := by
              cases w : J.testBit (gy_s f n t) with
              | true => rfl
              | false => rw [r, w] at t2; exact absurd rfl t2
            obtain ⟨T, p1, p2, p3⟩ := d t t1 r
            refine cf_ind_nsp s1 hi hJt (cf_sp_mono (fun x hx => ?_) p2)
            obtain ⟨v, v1, v2⟩ := p3 x hx
            have hFx := p1 x hx
            have := t3 v v1
            rw [v2, hFx] at this
            rw [cf_diff_bit, ← this, cf_one_bit]
            have hne : ¬ gy_s f n t = x := fun w => by rw [w, hFx] at r; cases r
            simp [hne]
        have hJt : J.testBit (gy_s f n t) = false := by
          cases w : J.testBit (gy_s f n t) with
          | false => rfl
          | true => rw [hFt, w] at t2; exact absurd rfl t2
        obtain ⟨T, p1, p2⟩ := cf_sp_full hJ hi hc s1
        -- one of the circle that F has not
        have hex : ∃ y, y < n ∧ T.testBit y = true ∧ F.testBit y = false := by
          rcases Classical.em (∃ y, y < n ∧ T.testBit y = true ∧ F.testBit y = false) with q | q
          · exact q
          · exfalso
            have hT : (T &&& cf_full n).testBit (gy_s f n t) = false := by
              rw [Nat.testBit_and]
              cases w : T.testBit (gy_s f n t) with
              | false => rfl
              | true => rw [p1 _ w] at hJt; cases hJt
            refine cf_ind_nsp s1 b hFt ⟨T &&& cf_full n, fun x hx => ?_, ?_⟩
            · have hx0 := hx
              rw [Nat.testBit_and, cf_full_bit] at hx
              have hxn : x < n := by
                by_cases w : x < n
                · exact w
                · simp [w] at hx
              have hTx : T.testBit x = true := by simpa [hxn] using hx
              have hFx : F.testBit x = true := by
                cases w : F.testBit x with
                | true => rfl
                | false => exact absurd ⟨x, hxn, hTx, w⟩ q
              have hne : ¬ gy_s f n t = x := fun w => by rw [← w, hT] at hx0; cases hx0
              rw [cf_diff_bit, cf_one_bit, hFx]; simp [hne]
            · rw [← p2]
              exact cf_xs_congr fun i hi => by rw [Nat.testBit_and, cf_full_bit]; simp [hi]
        obtain ⟨y, y1, y2, y3⟩ := hex
        have hJy := p1 y y2
        obtain ⟨v, v1, v2⟩ := gy_onto hf y1
        have hvt : t < v := by
          rcases Nat.lt_trichotomy t v with w | w | w
          · exact w
          · rw [← w] at v2; rw [v2, y3] at hFt; cases hFt
          · have := t3 v w
            rw [v2, y3, hJy] at this; cases this
        have hlt := gy_sorted hf hvt v1
        rw [v2] at hlt
        have hne : y ≠ gy_s f n t := fun w => by rw [w, hFt] at y3; cases y3
        have hns : ¬ cf_sp L n (cf_diff J (2 ^ y)) (L (gy_s f n t)) := by
          rintro ⟨V, w1, w2⟩
          have hJs : cf_sub (cf_diff J (2 ^ y)) J := fun i hi => by rw [cf_diff_bit] at hi; cases r : J.testBit i <;> simp [r] at hi ⊢
          have := hi (T ^^^ V) (fun i hi => by
            rw [Nat.testBit_xor] at hi
            cases r : T.testBit i with
            | true => exact p1 i r
            | false => rw [r] at hi; exact hJs i (w1 i (by simpa using hi))) (by rw [cf_xs_xor, p2, w2, Nat.xor_self]) y y1
          rw [Nat.testBit_xor, y2] at this
          have hV : V.testBit y = true := by cases r : V.testBit y <;> simp [r] at this ⊢
          have := w1 y hV
          rw [cf_diff_bit, cf_one_bit] at this
          simp at this
        have hJ0 : cf_ind L n (cf_diff J (2 ^ y)) := cf_ind_sub (fun i hi => by rw [cf_diff_bit] at hi; cases r : J.testBit i <;> simp [r] at hi ⊢) hi
        have hb0 : (cf_diff J (2 ^ y)).testBit (gy_s f n t) = false := by rw [cf_diff_bit, hJt]; rfl
        have hbet := gw_swap (f := f) s1 y1 hJt hJy hlt
        have hc1 := cf_card_add (n := n) s1 hb0
        have hc2 := cf_card_del y1 hJy
        have hk2 : cf_card n (cf_diff (cf_diff J (2 ^ y) ||| 2 ^ gy_s f n t) F) = k := by
          have := cf_card_del (n := n) (S := cf_diff J F) y1 (by rw [cf_diff_bit, hJy, y3]; rfl)
          rw [hk] at this
          rw [← Nat.add_right_cancel this]
          refine cf_card_congr fun i _ => ?_
          rw [cf_diff_bit, cf_add_bit, cf_diff_bit, cf_one_bit, cf_diff_bit, cf_diff_bit, cf_one_bit]
          by_cases r : gy_s f n t = i
          · rw [← r, hFt]; simp
          · simp [r]; cases J.testBit i <;> cases F.testBit i <;> simp
        have hJ' : cf_sub (cf_diff J (2 ^ y) ||| 2 ^ gy_s f n t) (cf_full n) := cf_or_sub (fun i hi => by rw [cf_diff_bit] at hi; exact hJ i (by cases r : J.testBit i <;> simp [r] at hi ⊢)) (cf_one_sub (by rw [cf_full_bit]; exact decide_eq_true s1))
        rcases ih _ hk2 hJ' (cf_ind_add s1 hJ0 hns) (by omega) with w | w
        · rw [← w] at hbet; exact hbet
        · exact gw_bet_tr w hbet
  exact fun J => key _ J rfl
