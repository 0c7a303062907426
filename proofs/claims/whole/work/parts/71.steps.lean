/-! A CALL ON BOTH SIDES keeps them alike -/
theorem rl_begin {L : Nat → Nat} {f : Nat → Int32} {A B : Nat → Nat} {g : Nat → Int32} {v : Nat} (hv : v ≤ 13) : rl1 0 v 1 L f v 0 1 A B g :=
  ⟨rfl, by omega, hv, by omega, by omega, ⟨fun _ => by omega, fun _ => by decide⟩, fun _ => ⟨rfl, fun e he => absurd he (Nat.not_lt_zero e)⟩, fun T _ => Iff.rfl, fun e he => absurd he (Nat.not_lt_zero e), fun e he => absurd he (Nat.not_lt_zero e), fun e he => absurd he (Nat.not_lt_zero e), fun e he => absurd he (Nat.not_lt_zero e)⟩
theorem rl_add {n V : Nat} {o : Int32} {L : Nat → Nat} {f : Nat → Int32} {v9 c9 o9 : Nat} {A B A' B' : Nat → Nat} {g g' : Nat → Int32} {a b : Nat} (h : rl1 n V o L f v9 c9 o9 A B g) (ho : o9 ≠ 0) (hn : n < 12) (ha : a < V) (hb : b < V)
    (hA : ∀ e, e < n → A' e = A e) (hB : ∀ e, e < n → B' e = B e) (hAn : A' n = a) (hBn : B' n = b) (hg : ∀ e, e < n → g' e = g e) (hgn : g' n = 0) : rl1 (n + 1) V o (fo_up L n (2 ^ a ^^^ 2 ^ b)) (upd f n 0) v9 (c9 + 1) o9 A' B' g' := by
  obtain ⟨a1, a2, a3, a4, a5, a6, a7, a8, a9, a10, a11, a12⟩ := h
  have hl : ∀ e, e < n + 1 → fo_up L n (2 ^ a ^^^ 2 ^ b) e = jl A' B' e := fun e he => by
    rcases Nat.lt_or_ge e n with q | q
    · rw [fo_up_lt _ _ q, (a7 ho).2 e q]; unfold jl; rw [hA e q, hB e q]
    · rw [show e = n by omega, fo_up_self]; unfold jl; rw [hAn, hBn]
  refine ⟨by omega, by omega, a3, a4, a5, a6, fun q => ⟨(a7 q).1, hl⟩, fun T _ => by rw [cf_xs_congrL (L := fo_up L n (2 ^ a ^^^ 2 ^ b)) (M := jl A' B') fun i hi _ => hl i hi], fun e he => ?_, fun e he => ?_, fun e he => ?_, fun e he => ?_⟩
  · rcases Nat.lt_or_ge e n with q | q
    · rw [fo_up_lt _ _ q]; exact a9 e q
    · rw [show e = n by omega, fo_up_self]; exact ⟨a, b, by omega, by omega, rfl⟩
  · rcases Nat.lt_or_ge e n with q | q
    · rw [hA e q, hB e q]; exact a10 e q
    · rw [show e = n by omega, hAn, hBn]; omega
  · rcases Nat.lt_or_ge e n with q | q
    · rw [hg e q, ← a11 e q]; simp only [upd]; rw [if_neg (by omega)]
    · rw [show e = n by omega, hgn]; simp [upd]
  · rcases Nat.lt_or_ge e n with q | q
    · have := a12 e q
      simp only [upd]; rw [if_neg (by omega)]; exact this
    · rw [show e = n by omega]; simp [upd]
theorem rl_weigh {n V : Nat} {o : Int32} {L : Nat → Nat} {f : Nat → Int32} {v9 c9 o9 : Nat} {A B : Nat → Nat} {g g' : Nat → Int32} {e9 : Nat} {z : Int32} (h : rl1 n V o L f v9 c9 o9 A B g) (h1 : -999 ≤ z.toInt) (h2 : z.toInt ≤ 999) (hg : ∀ e, e < n → g' e = if e = e9 then z else g e) : rl1 n V o L (upd f e9 z) v9 c9 o9 A B g' := by
  obtain ⟨a1, a2, a3, a4, a5, a6, a7, a8, a9, a10, a11, a12⟩ := h
  refine ⟨a1, a2, a3, a4, a5, a6, a7, a8, a9, a10, fun e he => ?_, fun e he => ?_⟩
  · rw [hg e he]
    simp only [upd]
    split
    · rfl
    · exact a11 e he
  · simp only [upd]
    split
    · exact ⟨h1, h2⟩
    · exact a12 e he
theorem rl_leave {n V V' : Nat} {o : Int32} {L L9 : Nat → Nat} {f f9 : Nat → Int32} {v9 c9 o9 : Nat} {A B A9 B9 : Nat → Nat} {g g9 : Nat → Int32} {S SJ : Nat} {r1 p1 dr N : Nat → Nat} (h : rl1 n V o L f v9 c9 o9 A B g) (hV : V' ≤ 13)
    (hL : ∀ j, j < lv_c S n → L9 j = lv_d S (fun e => fo_rest (fo_fill L SJ r1 p1 n).1 (L e) (fo_fill L SJ r1 p1 n).2.2) dr n j) (hf : ∀ j, j < lv_c S n → f9 j = 0)
    (hN : ∀ v, v < 32 → N v = (jn A B SJ n).1 v) (hAB : ∀ e, e < n → S.testBit e = false → A9 (lv_c S e) = N (A e) ∧ B9 (lv_c S e) = N (B e)) (hg : ∀ j, j < lv_c S n → g9 j = 0) : rl1 (lv_c S n) V' 0 L9 f9 v9 (lv_c S n) 0 A9 B9 g9 := by
  obtain ⟨a1, a2, a3, a4, a5, a6, a7, a8, a9, a10, a11, a12⟩ := h
  have hc := lv_c_le S n
  have hA : ∀ e, e < n → A e < 32 := fun e he => by have := a10 e he; omega
  have hB : ∀ e, e < n → B e < 32 := fun e he => by have := a10 e he; omega
  have hR : ∀ e, e < n → S.testBit e = false → L9 (lv_c S e) = fo_rest (fo_fill L SJ r1 p1 n).1 (L e) (fo_fill L SJ r1 p1 n).2.2 := fun e he hS => by
    rw [hL _ (lv_c_lt he hS), ld_at he hS]
  have hM : ∀ e, e < n → S.testBit e = false → jl A9 B9 (lv_c S e) = 2 ^ N (A e) ^^^ 2 ^ N (B e) := fun e he hS => by
    unfold jl; rw [(hAB e he hS).1, (hAB e he hS).2]
  refine ⟨rfl, by omega, hV, a4, by omega, ⟨fun q => absurd rfl q, fun q => absurd rfl q⟩, fun q => absurd rfl q, fun T _ => ?_, fun j hj => ?_, fun j hj => ?_, fun j hj => by rw [hf j hj, hg j hj], fun j hj => ?_⟩
  · rw [lv_xs n hR, lv_xs n hM, ← cf_cut_xs _ n (lv_t S T n), ← cf_cut_xs (fun e => 2 ^ N (A e) ^^^ 2 ^ N (B e)) n (lv_t S T n)]
    exact lv_cy a8 hA hB hN _ (cf_cut n _)
  · obtain ⟨e, he, hS, rfl⟩ := lv_onto hj
    rw [hR e he hS]
    exact gl_rest (a9 e he) (gl_fill a9 n (Nat.le_refl n))
  · obtain ⟨e, he, hS, rfl⟩ := lv_onto hj
    rw [(hAB e he hS).1, (hAB e he hS).2]
    have k1 := jn_lt (A := A) (B := B) (S := SJ) (n := n) (k := 24) (fun e he => (a10 e he).1) n (Nat.le_refl n)
    have k2 := a10 e he
    rw [hN _ (hA e he), hN _ (hB e he)]
    exact ⟨k1 _ k2.1, k1 _ k2.2⟩
  · rw [hf j hj]; decide
theorem rl_beside {me : Nat → Nat} {i j : Nat} {n V n2 V2 V' : Nat} {o o2 : Int32} {L L2 L9 : Nat → Nat} {f f2 f9 : Nat → Int32} {v9 c9 o9 v8 c8 o8 : Nat} {A9 B9 : Nat → Nat} {g g2 g9 : Nat → Int32} {na nb : Nat → Nat} {ca cb : Nat}
    (h : rl1 n V o L f v9 c9 o9 (mA me i) (mB me i) g) (h2 : rl1 n2 V2 o2 L2 f2 v8 c8 o8 (mA me j) (mB me j) g2) (hn : n + n2 ≤ 12) (hV : V' ≤ 13) (h3 : nu_ok (mE me i) na (2 * n) 0 ca) (h4 : nu_ok (mE me j) nb (2 * n2) ca cb)
    (hL : ∀ k, k < n + n2 → L9 k = bs_L (fun e => pq_of (me_of L n) (L e)) (fun e => pq_of (me_of L2 n2) (L2 e)) n (cf_card 32 (me_of L n)) k) (hf : ∀ k, k < n + n2 → f9 k = 0)
    (hA : ∀ e, e < n → A9 e = na (2 * e) ∧ B9 e = na (2 * e + 1)) (hB : ∀ e, e < n2 → A9 (n + e) = nb (2 * e) ∧ B9 (n + e) = nb (2 * e + 1)) (hg : ∀ k, k < n + n2 → g9 k = 0) : rl1 (n + n2) V' 0 L9 f9 cb (n + n2) 0 A9 B9 g9 := by
  obtain ⟨a1, a2, a3, a4, a5, a6, a7, a8, a9, a10, a11, a12⟩ := h
  obtain ⟨b1, b2, b3, b4, b5, b6, b7, b8, b9, b10, b11, b12⟩ := h2
  have hm1 : me_of L n < 2 ^ 24 := me_lt fun e he => gl_lt (a9 e he)
  have hm2 : me_of L2 n2 < 2 ^ 24 := me_lt fun e he => gl_lt (b9 e he)
  have hc1 := me_card a9
  have hc2 := me_card b9
  have p1 : ∀ e, e < n → pq_of (me_of L n) (L e) < 2 ^ cf_card 32 (me_of L n) := fun e he => pq_lt (me_sub he) (Nat.lt_trans hm1 (by decide))
  have q1 := h3.2.1
  have q2 := h4.2.1
  have hca := h3.2.2
  have hcb := h4.2.2
  have m1 : ∀ e, e < n → 2 ^ (na (2 * e) - 0) ^^^ 2 ^ (na (2 * e + 1) - 0) < 2 ^ ca := fun e he => by
    have k1 := q1 (2 * e) (by omega)
    have k2 := q1 (2 * e + 1) (by omega)
    exact Nat.xor_lt_two_pow (Nat.pow_lt_pow_right (by omega) (by omega)) (Nat.pow_lt_pow_right (by omega) (by omega))
  have hj : ∀ k, k < n + n2 → jl A9 B9 k = bs_L (fun e => 2 ^ (na (2 * e) - 0) ^^^ 2 ^ (na (2 * e + 1) - 0)) (fun e => 2 ^ (nb (2 * e) - ca) ^^^ 2 ^ (nb (2 * e + 1) - ca)) n ca k := fun k hk => by
    unfold jl bs_L
    by_cases c : k < n
    · rw [if_pos c, (hA k c).1, (hA k c).2]; rfl
    · rw [if_neg c]
      obtain ⟨e, rfl⟩ : ∃ e, k = n + e := ⟨k - n, by omega⟩
      rw [(hB e (by omega)).1, (hB e (by omega)).2, Nat.add_sub_cancel_left]
      have k1 := q2 (2 * e) (by omega)
      have k2 := q2 (2 * e + 1) (by omega)
      show _ = (2 ^ (nb (2 * e) - ca) ^^^ 2 ^ (nb (2 * e + 1) - ca)) * 2 ^ ca
      rw [← Nat.shiftLeft_eq, Nat.shiftLeft_xor_distrib, Nat.shiftLeft_eq, Nat.shiftLeft_eq, ← Nat.pow_add, ← Nat.pow_add, Nat.sub_add_cancel k1.1, Nat.sub_add_cancel k2.1]
  have y1 : cy_eq (fun e => pq_of (me_of L n) (L e)) (fun e => 2 ^ (na (2 * e) - 0) ^^^ 2 ^ (na (2 * e + 1) - 0)) n :=
    cy_tr (cy_sym (pq_cy (fun e he => me_sub he) (fun e he => Nat.lt_trans (gl_lt (a9 e he)) (by decide)))) (cy_tr a8 (nu_cy a10 h3))
  have y2 : cy_eq (fun e => pq_of (me_of L2 n2) (L2 e)) (fun e => 2 ^ (nb (2 * e) - ca) ^^^ 2 ^ (nb (2 * e + 1) - ca)) n2 :=
    cy_tr (cy_sym (pq_cy (fun e he => me_sub he) (fun e he => Nat.lt_trans (gl_lt (b9 e he)) (by decide)))) (cy_tr b8 (nu_cy b10 h4))
  have two : ∀ (v met s : Nat), gl_two v → cf_sub v met → cf_card 32 met + s ≤ 24 → gl_two (pq_of met v * 2 ^ s) := fun v met s hv hvm hs => by
    obtain ⟨a, b, ha, hb, rfl⟩ := hv
    by_cases c : a = b
    · subst c
      rw [Nat.xor_self, pq_0, Nat.zero_mul]
      exact ⟨0, 0, by omega, by omega, by rw [Nat.xor_self]⟩
    · have ta : met.testBit a = true := hvm a (by
        have d : ¬ b = a := fun q => c q.symm
        rw [Nat.testBit_xor, cf_one_bit, cf_one_bit]; simp [d])
      have tb : met.testBit b = true := hvm b (by rw [Nat.testBit_xor, cf_one_bit, cf_one_bit]; simp [c])
      have k1 := pq_ix_lt (j := 32) (show a < 32 by omega) ta
      have k2 := pq_ix_lt (j := 32) (show b < 32 by omega) tb
      have k3 : pq_ix met 32 = cf_card 32 met := rfl
      refine ⟨pq_ix met a + s, pq_ix met b + s, by omega, by omega, ?_⟩
      rw [pq_xor, pq_one met (by omega), pq_one met (by omega), ← Nat.shiftLeft_eq, Nat.shiftLeft_xor_distrib, Nat.shiftLeft_eq, Nat.shiftLeft_eq, ← Nat.pow_add, ← Nat.pow_add]
  refine ⟨rfl, hn, hV, by omega, by omega, ⟨fun q => absurd rfl q, fun q => absurd rfl q⟩, fun q => absurd rfl q, cy_congr (bs_eq p1 m1 y1 y2) hL hj, fun k hk => ?_, fun k hk => ?_, fun k hk => by rw [hf k hk, hg k hk], fun k hk => by rw [hf k hk]; decide⟩
  · rw [hL k hk]
    unfold bs_L
    by_cases c : k < n
    · rw [if_pos c]
      have := two (L k) (me_of L n) 0 (a9 k c) (me_sub c) (by omega)
      rw [Nat.pow_zero, Nat.mul_one] at this; exact this
    · rw [if_neg c]
      exact two (L2 (k - n)) (me_of L2 n2) _ (b9 _ (by omega)) (me_sub (by omega)) (by omega)
  · by_cases c : k < n
    · rw [(hA k c).1, (hA k c).2]
      have k1 := q1 (2 * k) (by omega)
      have k2 := q1 (2 * k + 1) (by omega)
      omega
    · obtain ⟨e, rfl⟩ : ∃ e, k = n + e := ⟨k - n, by omega⟩
      rw [(hB e (by omega)).1, (hB e (by omega)).2]
      have k1 := q2 (2 * e) (by omega)
      have k2 := q2 (2 * e + 1) (by omega)
      omega
