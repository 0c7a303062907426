/-! THE TWO STATES: a graph of the class and one of the model -/
def rl1 (n V : Nat) (o : Int32) (L : Nat → Nat) (f : Nat → Int32) (v9 c9 o9 : Nat) (A B : Nat → Nat) (g : Nat → Int32) : Prop :=
  n = c9 ∧ n ≤ 12 ∧ V ≤ 13 ∧ v9 ≤ 24 ∧ o9 ≤ 1 ∧ (o ≠ 0 ↔ o9 ≠ 0) ∧ (o9 ≠ 0 → V = v9 ∧ ∀ e, e < n → L e = jl A B e) ∧ cy_eq L (jl A B) n ∧ (∀ e, e < n → gl_two (L e)) ∧ (∀ e, e < n → A e < 24 ∧ B e < 24) ∧ (∀ e, e < n → f e = g e) ∧ gw_in f n
def inv (nE nV : Nat → Nat) (op : Nat → Int32) (LL : Nat → Nat → Nat) (ww : Nat → Nat → Int32) (mv mc mo me : Nat → Nat) (mw : Nat → Int32) : Prop := ∀ i, i < 8 → rl1 (nE i) (nV i) (op i) (LL i) (ww i) (mv i) (mc i) (mo i) (mA me i) (mB me i) (fun e => mw (12 * i + e))
theorem cy_congr {L M L' M' : Nat → Nat} {n : Nat} (h : cy_eq L M n) (h1 : ∀ e, e < n → L' e = L e) (h2 : ∀ e, e < n → M' e = M e) : cy_eq L' M' n := fun T hT => by
  rw [cf_xs_congrL (M := L) fun i hi _ => h1 i hi, cf_xs_congrL (L := M') (M := M) fun i hi _ => h2 i hi]; exact h T hT
theorem gw_congrF {f g : Nat → Int32} {n : Nat} (h : gw_in f n) (h2 : ∀ e, e < n → f e = g e) : gw_in g n := fun e he => by rw [← h2 e he]; exact h e he
theorem inv_c {nE nV : Nat → Nat} {op : Nat → Int32} {LL : Nat → Nat → Nat} {ww : Nat → Nat → Int32} {mv mc mo me : Nat → Nat} {mw : Nat → Int32} (h : inv nE nV op LL ww mv mc mo me mw) : cinv nE nV LL ww := fun i hi => by
  obtain ⟨_, h2, h3, _, _, _, _, _, h9, _, _, h12⟩ := h i hi
  exact ⟨h2, h3, h9, h12⟩
theorem inv_m {nE nV : Nat → Nat} {op : Nat → Int32} {LL : Nat → Nat → Nat} {ww : Nat → Nat → Int32} {mv mc mo me : Nat → Nat} {mw : Nat → Int32} (h : inv nE nV op LL ww mv mc mo me mw) : minv mv mc mo me mw := fun i hi => by
  obtain ⟨h1, h2, _, h4, h5, _, _, _, _, h10, h11, h12⟩ := h i hi
  rw [h1] at h2 h10 h11 h12
  exact ⟨h2, h4, h5, h10, gw_congrF h12 h11⟩
theorem rl1_congr {n V : Nat} {o : Int32} {L : Nat → Nat} {f : Nat → Int32} {v9 c9 o9 : Nat} {A B A' B' : Nat → Nat} {g g' : Nat → Int32} (h : rl1 n V o L f v9 c9 o9 A B g) (h1 : ∀ e, e < n → A' e = A e) (h2 : ∀ e, e < n → B' e = B e) (h3 : ∀ e, e < n → g' e = g e) : rl1 n V o L f v9 c9 o9 A' B' g' := by
  obtain ⟨a1, a2, a3, a4, a5, a6, a7, a8, a9, a10, a11, a12⟩ := h
  have hj : ∀ e, e < n → jl A' B' e = jl A B e := fun e he => by unfold jl; rw [h1 e he, h2 e he]
  exact ⟨a1, a2, a3, a4, a5, a6, fun q => ⟨(a7 q).1, fun e he => by rw [hj e he]; exact (a7 q).2 e he⟩, cy_congr a8 (fun _ _ => rfl) hj, a9, fun e he => by rw [h1 e he, h2 e he]; exact a10 e he, fun e he => by rw [h3 e he]; exact a11 e he, a12⟩
/-- one graph changed on both sides -/
theorem inv_put {nE nV : Nat → Nat} {op : Nat → Int32} {LL : Nat → Nat → Nat} {ww : Nat → Nat → Int32} {mv mc mo me mv' mc' mo' me' : Nat → Nat} {mw mw' : Nat → Int32} (h : inv nE nV op LL ww mv mc mo me mw) {t n V : Nat} {o : Int32} {L : Nat → Nat} {f : Nat → Int32}
    (hm : ∀ j, j ≠ t → mv' j = mv j ∧ mc' j = mc j ∧ mo' j = mo j) (he : ∀ k, k < 24 * t ∨ 24 * t + 24 ≤ k → me' k = me k) (hw : ∀ k, k < 12 * t ∨ 12 * t + 12 ≤ k → mw' k = mw k)
    (hr : rl1 n V o L f (mv' t) (mc' t) (mo' t) (mA me' t) (mB me' t) (fun e => mw' (12 * t + e))) : inv (va_up nE t n) (va_up nV t V) (va_up op t o) (va_up LL t L) (va_up ww t f) mv' mc' mo' me' mw' := fun i hi => by
  by_cases c : i = t
  · subst c
    rw [va_up_self, va_up_self, va_up_self, va_up_self, va_up_self]; exact hr
  · rw [va_up_ne _ _ c, va_up_ne _ _ c, va_up_ne _ _ c, va_up_ne _ _ c, va_up_ne _ _ c]
    obtain ⟨z1, z2, z3⟩ := hm i c
    rw [z1, z2, z3]
    have hn := (h i hi).2.1
    exact rl1_congr (h i hi) (fun e h9 => by unfold mA; exact he _ (by omega)) (fun e h9 => by unfold mB; exact he _ (by omega)) (fun e h9 => hw _ (by omega))
theorem fo_up_ne (f : Nat → Nat) {k j : Nat} (v : Nat) (h : j ≠ k) : fo_up f k v j = f j := by simp [fo_up, h]
theorem va_up_id {α : Type} (f : Nat → α) (k : Nat) : va_up f k (f k) = f := by
  funext j
  by_cases c : j = k
  · subst c; exact va_up_self _ _ _
  · exact va_up_ne _ _ c
/-! what is spanned, on both sides -/
theorem cy_sp {L M : Nat → Nat} {n S T : Nat} (h : cy_eq L M n) (hs : cf_sp L n S (cf_xs L n T)) : cf_sp M n S (cf_xs M n T) := by
  obtain ⟨U, hU, e⟩ := hs
  refine ⟨U, hU, ?_⟩
  have h1 : cf_xs L n ((U ^^^ T) &&& cf_full n) = 0 := by rw [cf_cut_xs, cf_xs_xor, e, Nat.xor_self]
  have h2 := (h _ (cf_cut n _)).mp h1
  rw [cf_cut_xs, cf_xs_xor] at h2
  have : (cf_xs M n U ^^^ cf_xs M n T) ^^^ cf_xs M n T = cf_xs M n T := by rw [h2, Nat.zero_xor]
  rw [cf_xc] at this; exact this
/-! the edges that are left: a set of them, in the numbers that they had -/
def lv_t (S T : Nat) : Nat → Nat
  | 0 => 0
  | e + 1 => if S.testBit e = true then lv_t S T e else if T.testBit (lv_c S e) = true then lv_t S T e ||| 2 ^ e else lv_t S T e
theorem lv_t_hi (S T : Nat) : ∀ n i, n ≤ i → (lv_t S T n).testBit i = false := by
  intro n
  induction n with
  | zero => intro i _; exact Nat.zero_testBit i
  | succ n ih =>
    intro i hi
    simp only [lv_t]
    split
    · exact ih i (by omega)
    · split
      · rw [cf_add_bit, ih i (by omega)]
        have : ¬ n = i := by omega
        simp [this]
      · exact ih i (by omega)
theorem lv_xs {S T : Nat} {X R : Nat → Nat} : ∀ n, (∀ e, e < n → S.testBit e = false → X (lv_c S e) = R e) → cf_xs X (lv_c S n) T = cf_xs R n (lv_t S T n) := by
  intro n
  induction n with
  | zero => intro _; rfl
  | succ n ih =>
    intro h
    have h1 := ih fun e he => h e (by omega)
    cases c : S.testBit n with
    | true =>
      have e1 : lv_t S T (n + 1) = lv_t S T n := by simp only [lv_t]; rw [if_pos c]
      rw [lv_c_in c, e1, h1]
      simp only [cf_xs]
      rw [lv_t_hi S T n n (Nat.le_refl n)]; simp
    | false =>
      rw [lv_c_out c]
      simp only [cf_xs]
      cases d : T.testBit (lv_c S n) with
      | true =>
        have e1 : lv_t S T (n + 1) = lv_t S T n ||| 2 ^ n := by simp only [lv_t]; rw [if_neg (by rw [c]; simp), if_pos d]
        have e2 : cf_xs R n (lv_t S T n ||| 2 ^ n) = cf_xs R n (lv_t S T n) := cf_xs_congr fun i hi => by
          rw [cf_add_bit]
          have : ¬ n = i := by omega
          simp [this]
        rw [e1, e2, h1, cf_add_bit, h n (by omega) c]; simp
      | false =>
        have e1 : lv_t S T (n + 1) = lv_t S T n := by simp only [lv_t]; rw [if_neg (by rw [c]; simp), if_neg (by rw [d]; simp)]
        rw [e1, lv_t_hi S T n n (Nat.le_refl n), h1]; simp
/-- tying together, on both sides -/
theorem lv_cy {L A B : Nat → Nat} {n SJ : Nat} {r1 p1 : Nat → Nat} (hc : cy_eq L (jl A B) n) (hA : ∀ e, e < n → A e < 32) (hB : ∀ e, e < n → B e < 32) {N : Nat → Nat} (hN : ∀ v, v < 32 → N v = (jn A B SJ n).1 v) :
    cy_eq (fun e => fo_rest (fo_fill L SJ r1 p1 n).1 (L e) (fo_fill L SJ r1 p1 n).2.2) (fun e => 2 ^ N (A e) ^^^ 2 ^ N (B e)) n := by
  intro T _
  obtain ⟨B0, h1, h2, h3, _⟩ := fo_fill_ok (L := L) (n := n) (S := SJ) (rows := r1) (parts := p1) n (Nat.le_refl n)
  rw [gl_tied h1]
  have e1 : cf_xs (fun e => 2 ^ N (A e) ^^^ 2 ^ N (B e)) n T = jf (jn A B SJ n).1 (cf_xs (jl A B) n T) := by
    rw [← cf_xs_map (L := jl A B) (jf_0 _) (jf_xor _)]
    refine cf_xs_congrL fun i hi _ => ?_
    show _ = jf _ (2 ^ A i ^^^ 2 ^ B i)
    rw [jf_two _ (hA i hi) (hB i hi), hN _ (hA i hi), hN _ (hB i hi)]
  have hb : cf_xs (jl A B) n T < 2 ^ 32 := cf_xs_lt fun i hi _ => Nat.xor_lt_two_pow (Nat.pow_lt_pow_right (by omega) (hA i hi)) (Nat.pow_lt_pow_right (by omega) (hB i hi))
  rw [e1, jn_ker SJ hA hB hb]
  refine ⟨fun h => cy_sp hc (cf_sp_mono h2 h), fun h => ?_⟩
  exact cf_sp_trans (fun i hi hS => h3 i hi hS) (cy_sp (cy_sym hc) h)
/-! new numbers for vertices, on the model's side -/
theorem xs_bit_none {N : Nat → Nat} {v k : Nat} : ∀ m, (∀ i, i < m → v.testBit i = true → N i ≠ k) → (cf_xs (fun i => 2 ^ N i) m v).testBit k = false := by
  intro m
  induction m with
  | zero => intro _; exact Nat.zero_testBit k
  | succ m ih =>
    intro h
    have h1 := ih fun i hi => h i (by omega)
    simp only [cf_xs]
    split
    · rw [Nat.testBit_xor, h1, cf_one_bit]
      have := h m (by omega) (by assumption)
      simp [this]
    · exact h1
theorem xs_inj {N : Nat → Nat} {v : Nat} : ∀ m, (∀ i j, i < m → j < m → v.testBit i = true → v.testBit j = true → N i = N j → i = j) → cf_xs (fun i => 2 ^ N i) m v = 0 → ∀ i, i < m → v.testBit i = false := by
  intro m
  induction m with
  | zero => intro _ _ i hi; exact absurd hi (Nat.not_lt_zero i)
  | succ m ih =>
    intro h h0 i hi
    simp only [cf_xs] at h0
    by_cases c : v.testBit m = true
    · exfalso
      rw [if_pos c] at h0
      have h1 := xs_bit_none (N := N) (v := v) (k := N m) m fun j hj hv e => by
        have := h j m (by omega) (by omega) hv c e
        omega
      have h2 : (cf_xs (fun i => 2 ^ N i) m v ^^^ 2 ^ N m).testBit (N m) = true := by rw [Nat.testBit_xor, h1, cf_one_bit]; simp
      rw [h0, Nat.zero_testBit] at h2; cases h2
    · rw [if_neg c] at h0
      rcases Nat.lt_or_ge i m with q | q
      · exact ih (fun a b ha hb => h a b (by omega) (by omega)) h0 i q
      · rw [show i = m by omega]
        cases d : v.testBit m with
        | false => rfl
        | true => exact absurd d c
noncomputable def nu_f (E N : Nat → Nat) (k fr : Nat) : Nat → Nat := fun v => @dite _ (∃ j, j < k ∧ E j = v) (Classical.propDecidable _) (fun h => N (Classical.choose h) - fr) (fun _ => 0)
theorem nu_f_eq {E N : Nat → Nat} {k fr c : Nat} (h : nu_ok E N k fr c) {j : Nat} (hj : j < k) : nu_f E N k fr (E j) = N j - fr := by
  unfold nu_f
  have hex : ∃ i, i < k ∧ E i = E j := ⟨j, hj, rfl⟩
  rw [dif_pos hex]
  obtain ⟨h1, h2⟩ := Classical.choose_spec hex
  rw [(h.1 _ j h1 hj).mpr h2]
theorem nu_cy {me : Nat → Nat} {i n fr c : Nat} {N : Nat → Nat} (hE : ∀ e, e < n → mA me i e < 24 ∧ mB me i e < 24) (h : nu_ok (mE me i) N (2 * n) fr c) : cy_eq (jl (mA me i) (mB me i)) (fun e => 2 ^ (N (2 * e) - fr) ^^^ 2 ^ (N (2 * e + 1) - fr)) n := by
  have hA : ∀ e, e < n → nu_f (mE me i) N (2 * n) fr (mA me i e) = N (2 * e) - fr := fun e he => nu_f_eq h (j := 2 * e) (by omega)
  have hB : ∀ e, e < n → nu_f (mE me i) N (2 * n) fr (mB me i e) = N (2 * e + 1) - fr := fun e he => nu_f_eq h (j := 2 * e + 1) (by omega)
  intro T _
  have e1 : cf_xs (fun e => 2 ^ (N (2 * e) - fr) ^^^ 2 ^ (N (2 * e + 1) - fr)) n T = jf (nu_f (mE me i) N (2 * n) fr) (cf_xs (jl (mA me i) (mB me i)) n T) := by
    rw [← cf_xs_map (L := jl (mA me i) (mB me i)) (jf_0 _) (jf_xor _)]
    refine cf_xs_congrL fun e he _ => ?_
    have h1 := hE e he
    show _ = jf _ (2 ^ mA me i e ^^^ 2 ^ mB me i e)
    rw [jf_two _ (by omega) (by omega), hA e he, hB e he]
  rw [e1]
  refine ⟨fun q => by rw [q, jf_0], fun q => ?_⟩
  have hval : ∀ v, (cf_xs (jl (mA me i) (mB me i)) n T).testBit v = true → ∃ j, j < 2 * n ∧ mE me i j = v := by
    have key : ∀ m, m ≤ n → ∀ v, (cf_xs (jl (mA me i) (mB me i)) m T).testBit v = true → ∃ j, j < 2 * n ∧ mE me i j = v := by
      intro m
      induction m with
      | zero => intro _ v hv; rw [show cf_xs (jl (mA me i) (mB me i)) 0 T = 0 from rfl, Nat.zero_testBit] at hv; cases hv
      | succ m ih =>
        intro hm v hv
        simp only [cf_xs] at hv
        split at hv
        · rw [Nat.testBit_xor] at hv
          cases c : (cf_xs (jl (mA me i) (mB me i)) m T).testBit v with
          | true => exact ih (by omega) v c
          | false =>
            rw [c] at hv
            unfold jl at hv
            rw [Nat.testBit_xor, cf_one_bit, cf_one_bit] at hv
            by_cases d : mA me i m = v
            · exact ⟨2 * m, by omega, d⟩
            · by_cases d2 : mB me i m = v
              · exact ⟨2 * m + 1, by omega, d2⟩
              · simp [d, d2] at hv
        · exact ih (by omega) v hv
    exact key n (Nat.le_refl n)
  have hb : cf_xs (jl (mA me i) (mB me i)) n T < 2 ^ 32 := cf_xs_lt fun e he _ => by
    have h1 := hE e he
    exact Nat.xor_lt_two_pow (Nat.pow_lt_pow_right (by omega) (by omega)) (Nat.pow_lt_pow_right (by omega) (by omega))
  refine Nat.eq_of_testBit_eq fun v => ?_
  rw [Nat.zero_testBit]
  rcases Nat.lt_or_ge v 32 with z | z
  · refine xs_inj 32 (fun a b ha hb ta tb e => ?_) q v z
    obtain ⟨ja, ja1, ja2⟩ := hval a ta
    obtain ⟨jb, jb1, jb2⟩ := hval b tb
    rw [← ja2, ← jb2, nu_f_eq h ja1, nu_f_eq h jb1] at e
    have k1 := (h.2.1 ja ja1).1
    have k2 := (h.2.1 jb jb1).1
    rw [← ja2, ← jb2]
    exact (h.1 ja jb ja1 jb1).mp (by omega)
  · exact Nat.testBit_lt_two_pow (Nat.lt_of_lt_of_le hb (Nat.pow_le_pow_right (by omega) z))
