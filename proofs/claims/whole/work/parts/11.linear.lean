/-! SUMS WITHOUT CARRY, SPANS, INDEPENDENT SETS, RANKS -/
def cf_xs (L : Nat → Nat) : Nat → Nat → Nat
  | 0, _ => 0
  | n + 1, T => if T.testBit n = true then cf_xs L n T ^^^ L n else cf_xs L n T
theorem cf_xs_congr {L : Nat → Nat} {n T U : Nat} (h : ∀ i, i < n → T.testBit i = U.testBit i) : cf_xs L n T = cf_xs L n U := by
  induction n with
  | zero => rfl
  | succ n ih => simp only [cf_xs]; rw [ih (fun i hi => h i (by omega)), h n (by omega)]
theorem cf_xs_congrL {L M : Nat → Nat} {n T : Nat} (h : ∀ i, i < n → T.testBit i = true → L i = M i) : cf_xs L n T = cf_xs M n T := by
  induction n with
  | zero => rfl
  | succ n ih =>
    simp only [cf_xs]; rw [ih (fun i hi => h i (by omega))]
    by_cases c : T.testBit n = true
    · rw [if_pos c, if_pos c, h n (by omega) c]
    · rw [if_neg c, if_neg c]
theorem cf_xs_0 (L : Nat → Nat) (n : Nat) : cf_xs L n 0 = 0 := by
  induction n with
  | zero => rfl
  | succ n ih => simp [cf_xs, ih]
theorem cf_x4 (a b c d : Nat) : (a ^^^ b) ^^^ (c ^^^ d) = (a ^^^ c) ^^^ (b ^^^ d) := by
  refine Nat.eq_of_testBit_eq fun i => ?_
  simp only [Nat.testBit_xor]
  cases a.testBit i <;> cases b.testBit i <;> cases c.testBit i <;> cases d.testBit i <;> rfl
theorem cf_xc (a b : Nat) : (a ^^^ b) ^^^ b = a := by rw [Nat.xor_assoc, Nat.xor_self, Nat.xor_zero]
theorem cf_xs_xor (L : Nat → Nat) (n T U : Nat) : cf_xs L n (T ^^^ U) = cf_xs L n T ^^^ cf_xs L n U := by
  induction n with
  | zero => simp [cf_xs]
  | succ n ih =>
    simp only [cf_xs, Nat.testBit_xor, ih]
    cases T.testBit n <;> cases U.testBit n
    · rfl
    · simp [Nat.xor_assoc]
    · simp [Nat.xor_assoc, Nat.xor_comm (L n)]
    · simp only [Bool.xor_self, if_true, Bool.false_eq_true, if_false]
      rw [cf_x4, Nat.xor_self, Nat.xor_zero]
theorem cf_xs_none {L : Nat → Nat} {n T : Nat} (h : ∀ i, i < n → T.testBit i = false) : cf_xs L n T = 0 := by
  rw [cf_xs_congr (U := 0) (fun i hi => by rw [h i hi, Nat.zero_testBit]), cf_xs_0]
theorem cf_xs_one {L : Nat → Nat} {n e : Nat} (he : e < n) : cf_xs L n (2 ^ e) = L e := by
  induction n with
  | zero => omega
  | succ n ih =>
    simp only [cf_xs, cf_one_bit]
    by_cases c : e = n
    · subst c
      rw [cf_xs_none (fun i hi => by rw [cf_one_bit]; exact decide_eq_false (by omega))]; simp
    · rw [ih (by omega)]; simp [c]
def cf_sp (L : Nat → Nat) (n S v : Nat) : Prop := ∃ T, cf_sub T S ∧ cf_xs L n T = v
theorem cf_sp_0 (L : Nat → Nat) (n S : Nat) : cf_sp L n S 0 := ⟨0, cf_sub_0 S, cf_xs_0 L n⟩
theorem cf_sp_xor {L : Nat → Nat} {n S v w : Nat} (h : cf_sp L n S v) (k : cf_sp L n S w) : cf_sp L n S (v ^^^ w) := by
  obtain ⟨T, h1, h2⟩ := h
  obtain ⟨U, k1, k2⟩ := k
  refine ⟨T ^^^ U, fun i hi => ?_, by rw [cf_xs_xor, h2, k2]⟩
  rw [Nat.testBit_xor] at hi
  cases c : T.testBit i with
  | true => exact h1 i c
  | false => rw [c] at hi; exact k1 i (by simpa using hi)
theorem cf_sp_mono {L : Nat → Nat} {n S S' v : Nat} (hs : cf_sub S S') (h : cf_sp L n S v) : cf_sp L n S' v := by
  obtain ⟨T, h1, h2⟩ := h
  exact ⟨T, cf_sub_tr h1 hs, h2⟩
theorem cf_one_sub {S e : Nat} (h : S.testBit e = true) : cf_sub (2 ^ e) S := fun i hi => by
  rw [cf_one_bit] at hi
  have : e = i := of_decide_eq_true hi
  rw [← this]; exact h
theorem cf_sp_mem {L : Nat → Nat} {n S e : Nat} (he : e < n) (h : S.testBit e = true) : cf_sp L n S (L e) := ⟨2 ^ e, cf_one_sub h, cf_xs_one he⟩
theorem cf_sp_sum {L : Nat → Nat} {n B T : Nat} (m : Nat) (hm : m ≤ n) (h : ∀ i, i < m → T.testBit i = true → cf_sp L n B (L i)) : cf_sp L n B (cf_xs L m T) := by
  induction m with
  | zero => exact cf_sp_0 L n B
  | succ m ih =>
    simp only [cf_xs]
    have h1 := ih (by omega) (fun i hi => h i (by omega))
    by_cases c : T.testBit m = true
    · rw [if_pos c]; exact cf_sp_xor h1 (h m (by omega) c)
    · rw [if_neg c]; exact h1
theorem cf_sp_trans {L : Nat → Nat} {n S B v : Nat} (h : ∀ i, i < n → S.testBit i = true → cf_sp L n B (L i)) (hv : cf_sp L n S v) : cf_sp L n B v := by
  obtain ⟨T, h1, rfl⟩ := hv
  exact cf_sp_sum n (Nat.le_refl n) fun i hi hT => h i hi (h1 i hT)
def cf_ind (L : Nat → Nat) (n S : Nat) : Prop := ∀ T, cf_sub T S → cf_xs L n T = 0 → ∀ i, i < n → T.testBit i = false
theorem cf_ind_0 (L : Nat → Nat) (n : Nat) : cf_ind L n 0 := fun T hT _ i _ => by
  cases c : T.testBit i with
  | false => rfl
  | true => have := hT i c; rw [Nat.zero_testBit] at this; cases this
theorem cf_ind_sub {L : Nat → Nat} {n S S' : Nat} (hs : cf_sub S S') (h : cf_ind L n S') : cf_ind L n S := fun T hT => h T (cf_sub_tr hT hs)
theorem cf_ind_add {L : Nat → Nat} {n S e : Nat} (he : e < n) (h : cf_ind L n S) (hn : ¬ cf_sp L n S (L e)) : cf_ind L n (S ||| 2 ^ e) := by
  intro T hT h0
  by_cases c : T.testBit e = true
  · refine absurd ⟨T ^^^ 2 ^ e, fun i hi => ?_, ?_⟩ hn
    · rw [Nat.testBit_xor, cf_one_bit] at hi
      by_cases q : e = i
      · subst q; rw [c] at hi; simp at hi
      · simp [q] at hi
        have := hT i hi
        rw [cf_add_bit] at this
        simpa [q] using this
    · rw [cf_xs_xor, h0, cf_xs_one he, Nat.zero_xor]
  · refine h T (fun i hi => ?_) h0
    have := hT i hi
    rw [cf_add_bit] at this
    by_cases q : e = i
    · subst q; exact absurd hi c
    · simpa [q] using this
theorem cf_ind_nsp {L : Nat → Nat} {n S e : Nat} (he : e < n) (h : cf_ind L n S) (hs : S.testBit e = true) : ¬ cf_sp L n (cf_diff S (2 ^ e)) (L e) := by
  rintro ⟨T, h1, h2⟩
  have hT : T.testBit e = false := by
    cases c : T.testBit e with
    | false => rfl
    | true => have := h1 e c; rw [cf_diff_bit, cf_one_bit] at this; simp at this
  have h3 := h (T ^^^ 2 ^ e) (fun i hi => by
    rw [Nat.testBit_xor, cf_one_bit] at hi
    by_cases q : e = i
    · subst q; exact hs
    · simp [q] at hi
      have := h1 i hi
      rw [cf_diff_bit] at this
      cases c : S.testBit i with
      | true => rfl
      | false => rw [c] at this; simp at this) (by rw [cf_xs_xor, h2, cf_xs_one he, Nat.xor_self]) e he
  rw [Nat.testBit_xor, cf_one_bit, hT] at h3
  simp at h3
/-- Steinitz: an independent set that another spans has no more elements -/
theorem cf_stz {L : Nat → Nat} {n : Nat} : ∀ (k J I : Nat), cf_card n (cf_diff J I) = k → cf_ind L n J → (∀ j, j < n → J.testBit j = true → cf_sp L n I (L j)) → cf_card n J ≤ cf_card n I := by
  intro k
  induction k with
  | zero =>
    intro J I hk _ _
    refine cf_card_mono fun i hi hJ => ?_
    cases c : I.testBit i with
    | true => rfl
    | false =>
      have : cf_card n (cf_diff J I) ≠ 0 := by
        have := cf_card_del (n := n) (S := cf_diff J I) hi (by rw [cf_diff_bit, hJ, c]; rfl)
        omega
      exact absurd hk this
  | succ k ih =>
    intro J I hk hJ hsp
    obtain ⟨j, hj, hd⟩ := cf_card_some (n := n) (S := cf_diff J I) (by omega)
    have hd0 := hd
    rw [cf_diff_bit] at hd
    have hJj : J.testBit j = true := by cases c : J.testBit j <;> simp [c] at hd ⊢
    have hIj : I.testBit j = false := by cases c : I.testBit j <;> simp [c] at hd ⊢
    have hn := cf_ind_nsp hj hJ hJj
    have hex : ∃ i, i < n ∧ I.testBit i = true ∧ ¬ cf_sp L n (cf_diff J (2 ^ j)) (L i) := by
      rcases Classical.em (∃ i, i < n ∧ I.testBit i = true ∧ ¬ cf_sp L n (cf_diff J (2 ^ j)) (L i)) with q | q
      · exact q
      · refine absurd (cf_sp_trans (fun i hi hI => ?_) (hsp j hj hJj)) hn
        rcases Classical.em (cf_sp L n (cf_diff J (2 ^ j)) (L i)) with r | r
        · exact r
        · exact absurd ⟨i, hi, hI, r⟩ q
    obtain ⟨i, hi, hIi, hni⟩ := hex
    have hij : j ≠ i := fun q => by rw [q, hIi] at hIj; cases hIj
    have hJ0i : (cf_diff J (2 ^ j)).testBit i = false := by
      cases c : (cf_diff J (2 ^ j)).testBit i with
      | false => rfl
      | true => exact absurd (cf_sp_mem hi c) hni
    have hind := cf_ind_add hi (cf_ind_sub (S' := J) (fun q hq => by
      rw [cf_diff_bit] at hq
      cases c : J.testBit q with
      | true => rfl
      | false => rw [c] at hq; simp at hq) hJ) hni
    have hc := cf_card_add (n := n) hi hJ0i
    have hc2 := cf_card_del hj hJj
    have hk2 : cf_card n (cf_diff (cf_diff J (2 ^ j) ||| 2 ^ i) I) = k := by
      have := cf_card_del hj hd0
      rw [hk] at this
      rw [← Nat.add_right_cancel this]
      refine cf_card_congr fun q _ => ?_
      rw [cf_diff_bit, cf_add_bit, cf_diff_bit, cf_one_bit, cf_diff_bit, cf_diff_bit, cf_one_bit]
      by_cases r : i = q
      · subst r; simp [hIi]
      · simp [r]; cases J.testBit q <;> cases I.testBit q <;> simp
    have hfin := ih _ I hk2 hind (fun q hq hb => by
      rw [cf_add_bit, cf_diff_bit] at hb
      by_cases r : i = q
      · subst r; exact cf_sp_mem hi hIi
      · refine hsp q hq ?_
        cases c : J.testBit q with
        | true => rfl
        | false => simp [r, c] at hb)
    omega
def cf_bas (L : Nat → Nat) (n S B : Nat) : Prop := cf_sub B S ∧ cf_ind L n B ∧ ∀ i, i < n → S.testBit i = true → cf_sp L n B (L i)
theorem cf_bas_ext {L : Nat → Nat} {n S B0 : Nat} (h0 : cf_ind L n B0) (hs : cf_sub B0 S) : ∃ B, cf_bas L n S B ∧ cf_sub B0 B := by
  have key : ∀ m, m ≤ n → ∃ B, cf_sub B0 B ∧ cf_sub B S ∧ cf_ind L n B ∧ ∀ i, i < m → S.testBit i = true → cf_sp L n B (L i) := by
    intro m
    induction m with
    | zero => intro _; exact ⟨B0, cf_sub_rf _, hs, h0, fun i hi => absurd hi (Nat.not_lt_zero i)⟩
    | succ m ih =>
      intro hm
      obtain ⟨B, h1, h2, h3, h4⟩ := ih (by omega)
      by_cases c : S.testBit m = true
      · rcases Classical.em (cf_sp L n B (L m)) with q | q
        · refine ⟨B, h1, h2, h3, fun i hi hS => ?_⟩
          rcases Nat.lt_or_ge i m with r | r
          · exact h4 i r hS
          · have : i = m := by omega
            rw [this]; exact q
        · have hB : cf_sub B (B ||| 2 ^ m) := fun i hi => by rw [cf_add_bit, hi]; rfl
          refine ⟨B ||| 2 ^ m, cf_sub_tr h1 hB, fun i hi => ?_, cf_ind_add (by omega) h3 q, fun i hi hS => ?_⟩
          · rw [cf_add_bit] at hi
            by_cases r : m = i
            · subst r; exact c
            · exact h2 i (by simpa [r] using hi)
          · rcases Nat.lt_or_ge i m with r | r
            · exact cf_sp_mono hB (h4 i r hS)
            · have : i = m := by omega
              rw [this]; exact cf_sp_mem (by omega) (by rw [cf_add_bit]; simp)
      · refine ⟨B, h1, h2, h3, fun i hi hS => ?_⟩
        rcases Nat.lt_or_ge i m with r | r
        · exact h4 i r hS
        · have : i = m := by omega
          rw [this] at hS; exact absurd hS c
  obtain ⟨B, h1, h2, h3, h4⟩ := key n (Nat.le_refl n)
  exact ⟨B, ⟨h2, h3, h4⟩, h1⟩
theorem cf_bas_ex (L : Nat → Nat) (n S : Nat) : ∃ B, cf_bas L n S B := by
  obtain ⟨B, h, _⟩ := cf_bas_ext (cf_ind_0 L n) (cf_sub_0 S)
  exact ⟨B, h⟩
noncomputable def cf_rk (L : Nat → Nat) (n S : Nat) : Nat := cf_card n (Classical.choose (cf_bas_ex L n S))
theorem cf_rk_ind {L : Nat → Nat} {n S J : Nat} (h : cf_ind L n J) (hs : ∀ j, j < n → J.testBit j = true → S.testBit j = true) : cf_card n J ≤ cf_rk L n S := by
  have hb := Classical.choose_spec (cf_bas_ex L n S)
  exact cf_stz _ J _ rfl h fun j hj hJ => hb.2.2 j hj (hs j hj hJ)
theorem cf_rk_bas {L : Nat → Nat} {n S B : Nat} (h : cf_bas L n S B) : cf_rk L n S = cf_card n B := by
  refine Nat.le_antisymm ?_ (cf_rk_ind h.2.1 fun j _ hj => h.1 j hj)
  have hb := Classical.choose_spec (cf_bas_ex L n S)
  exact cf_stz _ _ B rfl hb.2.1 fun j hj hJ => h.2.2 j hj (hb.1 j hJ)
theorem cf_rk_of_ind {L : Nat → Nat} {n S : Nat} (h : cf_ind L n S) : cf_rk L n S = cf_card n S := cf_rk_bas ⟨cf_sub_rf S, h, fun _ hi hS => cf_sp_mem hi hS⟩
theorem cf_ind_of_rk {L : Nat → Nat} {n S : Nat} (h : cf_card n S ≤ cf_rk L n S) : cf_ind L n S := by
  obtain ⟨B, hb⟩ := cf_bas_ex L n S
  rw [cf_rk_bas hb] at h
  have := cf_card_eq hb.1 h
  intro T hT h0
  have q := hb.2.1 (T &&& cf_full n) (fun i hi => by
    rw [Nat.testBit_and, cf_full_bit] at hi
    have h2 : i < n := by
      by_cases c : i < n
      · exact c
      · simp [c] at hi
    rw [this i h2]
    exact hT i (by simpa [h2] using hi)) (by rw [cf_xs_congr (U := T) (fun i hi => by rw [Nat.testBit_and, cf_full_bit]; simp [hi])]; exact h0)
  intro i hi
  have := q i hi
  rw [Nat.testBit_and, cf_full_bit] at this
  simpa [hi] using this
def cf_mat (r : Nat → Nat) : Prop := r 0 = 0 ∧ (∀ S T, cf_sub S T → r S ≤ r T) ∧ (∀ S e, r (S ||| 2 ^ e) ≤ r S + 1) ∧ ∀ S T, r (S ||| T) + r (S &&& T) ≤ r S + r T
theorem cf_rk_mono {L : Nat → Nat} {n S T : Nat} (h : ∀ j, j < n → S.testBit j = true → T.testBit j = true) : cf_rk L n S ≤ cf_rk L n T := by
  obtain ⟨B, hb⟩ := cf_bas_ex L n S
  rw [cf_rk_bas hb]
  exact cf_rk_ind hb.2.1 fun j hj hB => h j hj (hb.1 j hB)
theorem cf_rk_congr {L : Nat → Nat} {n S T : Nat} (h : ∀ j, j < n → S.testBit j = T.testBit j) : cf_rk L n S = cf_rk L n T :=
  Nat.le_antisymm (cf_rk_mono fun j hj q => by rw [← h j hj]; exact q) (cf_rk_mono fun j hj q => by rw [h j hj]; exact q)
theorem cf_rk_le {L : Nat → Nat} {n S : Nat} : cf_rk L n S ≤ cf_card n S := by
  obtain ⟨B, hb⟩ := cf_bas_ex L n S
  rw [cf_rk_bas hb]
  exact cf_card_sub hb.1
theorem cf_rk_mat (L : Nat → Nat) (n : Nat) : cf_mat (cf_rk L n) := by
  refine ⟨?_, fun S T h => cf_rk_mono fun j _ q => h j q, fun S e => ?_, fun S T => ?_⟩
  · rw [cf_rk_of_ind (cf_ind_0 L n), cf_card_0]
  · obtain ⟨B, hb⟩ := cf_bas_ex L n S
    obtain ⟨C, hc⟩ := cf_bas_ex L n (S ||| 2 ^ e)
    rw [cf_rk_bas hb, cf_rk_bas hc]
    refine Nat.le_trans (cf_stz _ C (B ||| 2 ^ e) rfl hc.2.1 fun j hj hC => ?_) (cf_card_addle n B e)
    have := hc.1 j hC
    rw [cf_add_bit] at this
    by_cases q : e = j
    · subst q; exact cf_sp_mem hj (by rw [cf_add_bit]; simp)
    · exact cf_sp_mono (fun i hi => by rw [cf_add_bit, hi]; rfl) (hb.2.2 j hj (by simpa [q] using this))
  · obtain ⟨B, hb⟩ := cf_bas_ex L n (S &&& T)
    obtain ⟨C, hc, hBC⟩ := cf_bas_ext (S := S ||| T) hb.2.1 (fun i hi => by
      have := hb.1 i hi
      rw [Nat.testBit_and] at this
      rw [Nat.testBit_or]
      cases h : S.testBit i <;> simp [h] at this ⊢)
    rw [cf_rk_bas hb, cf_rk_bas hc]
    have h1 : cf_card n (C &&& S) ≤ cf_rk L n S := cf_rk_ind (cf_ind_sub (fun i hi => by
      rw [Nat.testBit_and] at hi; cases h : C.testBit i <;> simp [h] at hi ⊢) hc.2.1) (fun j _ hj => by
      rw [Nat.testBit_and] at hj; cases h : S.testBit j <;> simp [h] at hj ⊢)
    have h2 : cf_card n (C &&& T) ≤ cf_rk L n T := cf_rk_ind (cf_ind_sub (fun i hi => by
      rw [Nat.testBit_and] at hi; cases h : C.testBit i <;> simp [h] at hi ⊢) hc.2.1) (fun j _ hj => by
      rw [Nat.testBit_and] at hj; cases h : T.testBit j <;> simp [h] at hj ⊢)
    have h3 := cf_card_ui n (C &&& S) (C &&& T)
    have h4 : cf_card n ((C &&& S) ||| (C &&& T)) = cf_card n C := cf_card_congr fun i _ => by
      rw [Nat.testBit_or, Nat.testBit_and, Nat.testBit_and]
      cases h : C.testBit i with
      | false => rfl
      | true => have := hc.1 i h; rw [Nat.testBit_or] at this; simpa using this
    have h5 : cf_card n B ≤ cf_card n ((C &&& S) &&& (C &&& T)) := cf_card_mono fun i _ hi => by
      have q := hb.1 i hi
      have r := hBC i hi
      rw [Nat.testBit_and] at q
      rw [Nat.testBit_and, Nat.testBit_and, Nat.testBit_and, r]
      simpa using q
    omega
