/-! BOTH SIDES TOGETHER -/
def St (k0 : Nat → ClassId) (o o2 : Nat) (w : va_W) : Prop := ∃ (ad nE nV : Nat → Nat) (op : Nat → Int32) (LL : Nat → Nat → Nat) (ww : Nat → Nat → Int32) (am mv mc mo me : Nat → Nat) (mw : Nat → Int32) (mm : Nat → Nat) (mk : Nat) (mn fb sb : Nat → Nat), ad 0 = o ∧ am 0 = o2 ∧ atC w 0 k0 ad nE nV op LL ww ∧ atM w 33 k0 am mv mc mo me mw mm mk mn fb sb ∧ inv nE nV op LL ww mv mc mo me mw
theorem nI_same {x : Int32} {a b : Nat} (h : x = nI a) (k : x = nI b) (ha : a < 2 ^ 31) (hb : b < 2 ^ 31) : a = b := (nI_eq ha hb).mp (h.symm.trans k)

theorem gw_sumF {f g : Nat → Int32} {n S : Nat} (h : ∀ e, e < n → f e = g e) : gw_sum f n S = gw_sum g n S := by
  induction n with
  | zero => rfl
  | succ n ih => simp only [gw_sum]; rw [ih fun e he => h e (by omega), h n (by omega)]

theorem sp_begin {k0 : Nat → ClassId} {w u1 u2 : va_W} {ad nE nV : Nat → Nat} {op : Nat → Int32} {LL : Nat → Nat → Nat} {ww : Nat → Nat → Int32} {am mv mc mo me : Nat → Nat} {mw : Nat → Int32} {mm : Nat → Nat} {mk : Nat} {mn fb sb : Nat → Nat} (hC : atC w 0 k0 ad nE nV op LL ww) (hM : atM u1 33 k0 am mv mc mo me mw mm mk mn fb sb) (hI : inv nE nV op LL ww mv mc mo me mw) {x y r r2 : Int32} (hc : ((∃ i v, i < 8 ∧ 1 ≤ v ∧ v ≤ 13 ∧ x = nI i ∧ y = nI v ∧ r = 1 ∧ atC u1 0 k0 ad (va_up nE i 0) (va_up nV i v) (va_up op i 1) (va_up LL i (LL i)) (va_up ww i (ww i))) ∨ (¬ (∃ i v, i < 8 ∧ 1 ≤ v ∧ v ≤ 13 ∧ x = nI i ∧ y = nI v) ∧ r = 0 ∧ u1 = w)) ∧ kx_fr w u1 (fun j => 0 ≤ j ∧ j < 0 + 33)) (hm : ((∃ i v, i < 8 ∧ 1 ≤ v ∧ v ≤ 13 ∧ x = nI i ∧ y = nI v ∧ r2 = 1 ∧ atM u2 33 k0 am (fo_up mv i v) (fo_up mc i 0) (fo_up mo i 1) me mw mm mk mn fb sb) ∨ (¬ (∃ i v, i < 8 ∧ 1 ≤ v ∧ v ≤ 13 ∧ x = nI i ∧ y = nI v) ∧ r2 = 0 ∧ u2 = u1)) ∧ kx_fr u1 u2 (fun j => 33 ≤ j ∧ j < 33 + 10)) : r = r2 ∧ St k0 (ad 0) (am 0) u2 := by
  obtain ⟨hc, hp⟩ := hc
  obtain ⟨hm, hq⟩ := hm
  rcases hc with ⟨i, v, c1, c2, c3, c4, c5, c6, c7⟩ | ⟨cn, c6, c7⟩ <;> rcases hm with ⟨i2, v2, m1, m2, m3, m4, m5, m6, m7⟩ | ⟨mn9, m6, m7⟩
  · have ei := nI_same c4 m4 (by omega) (by omega)
    have ev := nI_same c5 m5 (by omega) (by omega)
    subst ei; subst ev
    refine ⟨by rw [c6, m6], _, _, _, _, _, _, _, _, _, _, _, _, _, _, _, _, _, rfl, rfl, atC_fr c7 hq (fun j h1 h2 h3 => by omega), m7, ?_⟩
    exact inv_put hI (fun j hj => ⟨fo_up_ne _ _ hj, fo_up_ne _ _ hj, fo_up_ne _ _ hj⟩) (fun _ _ => rfl) (fun _ _ => rfl) (by rw [fo_up_self, fo_up_self, fo_up_self]; exact rl_begin c3)
  · exact absurd ⟨i, v, c1, c2, c3, c4, c5⟩ mn9
  · exact absurd ⟨i2, v2, m1, m2, m3, m4, m5⟩ cn
  · subst m7; subst c7
    exact ⟨by rw [c6, m6], _, _, _, _, _, _, _, _, _, _, _, _, _, _, _, _, _, rfl, rfl, hC, hM, hI⟩

theorem sp_add {k0 : Nat → ClassId} {w u1 u2 : va_W} {ad nE nV : Nat → Nat} {op : Nat → Int32} {LL : Nat → Nat → Nat} {ww : Nat → Nat → Int32} {am mv mc mo me : Nat → Nat} {mw : Nat → Int32} {mm : Nat → Nat} {mk : Nat} {mn fb sb : Nat → Nat} (hC : atC w 0 k0 ad nE nV op LL ww) (hM : atM u1 33 k0 am mv mc mo me mw mm mk mn fb sb) (hI : inv nE nV op LL ww mv mc mo me mw) {x y z r r2 : Int32} (hc : ((∃ i a c9, i < 8 ∧ op i ≠ 0 ∧ a < nV i ∧ c9 < nV i ∧ nE i < 12 ∧ x = nI i ∧ y = nI a ∧ z = nI c9 ∧ r = nI (nE i) ∧ atC u1 0 k0 ad (va_up nE i (nE i + 1)) (va_up nV i (nV i)) (va_up op i (op i)) (va_up LL i (fo_up (LL i) (nE i) (2 ^ a ^^^ 2 ^ c9))) (va_up ww i (upd (ww i) (nE i) 0))) ∨ (¬ (∃ i a c9, i < 8 ∧ op i ≠ 0 ∧ a < nV i ∧ c9 < nV i ∧ nE i < 12 ∧ x = nI i ∧ y = nI a ∧ z = nI c9) ∧ r = -1 ∧ u1 = w)) ∧ kx_fr w u1 (fun j => 0 ≤ j ∧ j < 0 + 33)) (hm : ((∃ i a c9, i < 8 ∧ mo i ≠ 0 ∧ a < mv i ∧ c9 < mv i ∧ mc i < 12 ∧ x = nI i ∧ y = nI a ∧ z = nI c9 ∧ r2 = nI (mc i) ∧ atM u2 33 k0 am mv (fo_up mc i (mc i + 1)) mo (fo_up (fo_up me (24 * i + 2 * mc i) a) (24 * i + 2 * mc i + 1) c9) (upd mw (12 * i + mc i) 0) mm mk mn fb sb) ∨ (¬ (∃ i a c9, i < 8 ∧ mo i ≠ 0 ∧ a < mv i ∧ c9 < mv i ∧ mc i < 12 ∧ x = nI i ∧ y = nI a ∧ z = nI c9) ∧ r2 = -1 ∧ u2 = u1)) ∧ kx_fr u1 u2 (fun j => 33 ≤ j ∧ j < 33 + 10)) : r = r2 ∧ St k0 (ad 0) (am 0) u2 := by
  obtain ⟨hc, hp⟩ := hc
  obtain ⟨hm, hq⟩ := hm
  rcases hc with ⟨i, a, b9, c1, c2, c3, c4, c5, c6, c7, c8, c9, c10⟩ | ⟨cn, c9, c10⟩ <;> rcases hm with ⟨i2, a2, b2, m1, m2, m3, m4, m5, m6, m7, m8, m9, m10⟩ | ⟨mn9, m9, m10⟩
  · obtain ⟨z1, z2, z3, z4, z5, z6, z7, z8, z9⟩ := id (hI i c1)
    have ei := nI_same c6 m6 (by omega) (by omega)
    subst ei
    have ea := nI_same c7 m7 (by omega) (by omega)
    have eb := nI_same c8 m8 (by omega) (by omega)
    subst ea; subst eb
    refine ⟨by rw [c9, m9, z1], _, _, _, _, _, _, _, _, _, _, _, _, _, _, _, _, _, rfl, rfl, atC_fr c10 hq (fun j h1 h2 h3 => by omega), m10, ?_⟩
    refine inv_put hI (fun j hj => ⟨rfl, fo_up_ne _ _ hj, rfl⟩) (fun k hk => ?_) (fun k hk => ?_) ?_
    · rw [fo_up_ne _ _ (by omega), fo_up_ne _ _ (by omega)]
    · simp only [upd]; rw [if_neg (by omega)]
    · rw [fo_up_self, ← z1]
      refine rl_add (show rl1 (nE i) (nV i) (op i) (LL i) (ww i) (mv i) (nE i) (mo i) (mA me i) (mB me i) (fun e => mw (12 * i + e)) by have h9 := hI i c1; rw [← z1] at h9; exact h9) m2 c5 c3 c4 (fun e he => ?_) (fun e he => ?_) ?_ ?_ (fun e he => ?_) ?_
      · unfold mA; rw [fo_up_ne _ _ (by omega), fo_up_ne _ _ (by omega)]
      · unfold mB; rw [fo_up_ne _ _ (by omega), fo_up_ne _ _ (by omega)]
      · unfold mA; rw [fo_up_ne _ _ (by omega), fo_up_self]
      · unfold mB; rw [fo_up_self]
      · simp only [upd]; rw [if_neg (by omega)]
      · simp only [upd]; rw [if_pos trivial]
  · obtain ⟨z1, z2, z3, z4, z5, z6, z7, z8, z9⟩ := id (hI i c1)
    have ho := z6.mp c2
    have hv := (z7 ho).1
    exact absurd ⟨i, a, b9, c1, ho, by omega, by omega, by omega, c6, c7, c8⟩ mn9
  · obtain ⟨z1, z2, z3, z4, z5, z6, z7, z8, z9⟩ := id (hI i2 m1)
    have hv := (z7 m2).1
    exact absurd ⟨i2, a2, b2, m1, z6.mpr m2, by omega, by omega, by omega, m6, m7, m8⟩ cn
  · subst m10; subst c10
    exact ⟨by rw [c9, m9], _, _, _, _, _, _, _, _, _, _, _, _, _, _, _, _, _, rfl, rfl, hC, hM, hI⟩

theorem sp_weigh {k0 : Nat → ClassId} {w u1 u2 : va_W} {ad nE nV : Nat → Nat} {op : Nat → Int32} {LL : Nat → Nat → Nat} {ww : Nat → Nat → Int32} {am mv mc mo me : Nat → Nat} {mw : Nat → Int32} {mm : Nat → Nat} {mk : Nat} {mn fb sb : Nat → Nat} (hC : atC w 0 k0 ad nE nV op LL ww) (hM : atM u1 33 k0 am mv mc mo me mw mm mk mn fb sb) (hI : inv nE nV op LL ww mv mc mo me mw) {x y z r r2 : Int32} (hc : ((∃ i e9, i < 8 ∧ e9 < nE i ∧ x = nI i ∧ y = nI e9 ∧ -999 ≤ z.toInt ∧ z.toInt ≤ 999 ∧ r = 1 ∧ atC u1 0 k0 ad (va_up nE i (nE i)) (va_up nV i (nV i)) (va_up op i (op i)) (va_up LL i (LL i)) (va_up ww i (upd (ww i) e9 z))) ∨ (¬ (∃ i e9, i < 8 ∧ e9 < nE i ∧ x = nI i ∧ y = nI e9 ∧ -999 ≤ z.toInt ∧ z.toInt ≤ 999) ∧ r = 0 ∧ u1 = w)) ∧ kx_fr w u1 (fun j => 0 ≤ j ∧ j < 0 + 33)) (hm : ((∃ i e9, i < 8 ∧ e9 < mc i ∧ x = nI i ∧ y = nI e9 ∧ -999 ≤ z.toInt ∧ z.toInt ≤ 999 ∧ r2 = 1 ∧ atM u2 33 k0 am mv mc mo me (upd mw (12 * i + e9) z) mm mk mn fb sb) ∨ (¬ (∃ i e9, i < 8 ∧ e9 < mc i ∧ x = nI i ∧ y = nI e9 ∧ -999 ≤ z.toInt ∧ z.toInt ≤ 999) ∧ r2 = 0 ∧ u2 = u1)) ∧ kx_fr u1 u2 (fun j => 33 ≤ j ∧ j < 33 + 10)) : r = r2 ∧ St k0 (ad 0) (am 0) u2 := by
  obtain ⟨hc, hp⟩ := hc
  obtain ⟨hm, hq⟩ := hm
  rcases hc with ⟨i, e9, c1, c2, c3, c4, c5, c6, c7, c8⟩ | ⟨cn, c7, c8⟩ <;> rcases hm with ⟨i2, e2, m1, m2, m3, m4, m5, m6, m7, m8⟩ | ⟨mn9, m7, m8⟩
  · obtain ⟨z1, z2, z3, z4, z5, z6, z7, z8, z9⟩ := id (hI i c1)
    have ei := nI_same c3 m3 (by omega) (by omega)
    subst ei
    have ee := nI_same c4 m4 (by omega) (by omega)
    subst ee
    refine ⟨by rw [c7, m7], _, _, _, _, _, _, _, _, _, _, _, _, _, _, _, _, _, rfl, rfl, atC_fr c8 hq (fun j h1 h2 h3 => by omega), m8, ?_⟩
    refine inv_put hI (fun j hj => ⟨rfl, rfl, rfl⟩) (fun k hk => rfl) (fun k hk => ?_) ?_
    · simp only [upd]; rw [if_neg (by omega)]
    · refine rl_weigh (hI i c1) c5 c6 (fun e he => ?_)
      simp only [upd]
      by_cases c : e = e9
      · rw [if_pos c, if_pos (by omega)]
      · rw [if_neg c, if_neg (by omega)]
  · have z1 := (hI i c1).1
    exact absurd ⟨i, e9, c1, by omega, c3, c4, c5, c6⟩ mn9
  · have z1 := (hI i2 m1).1
    exact absurd ⟨i2, e2, m1, by omega, m3, m4, m5, m6⟩ cn
  · subst m8; subst c8
    exact ⟨by rw [c7, m7], _, _, _, _, _, _, _, _, _, _, _, _, _, _, _, _, _, rfl, rfl, hC, hM, hI⟩

theorem sp_edges {k0 : Nat → ClassId} {w u1 u2 : va_W} {ad nE nV : Nat → Nat} {op : Nat → Int32} {LL : Nat → Nat → Nat} {ww : Nat → Nat → Int32} {am mv mc mo me : Nat → Nat} {mw : Nat → Int32} {mm : Nat → Nat} {mk : Nat} {mn fb sb : Nat → Nat} (hC : atC w 0 k0 ad nE nV op LL ww) (hM : atM u1 33 k0 am mv mc mo me mw mm mk mn fb sb) (hI : inv nE nV op LL ww mv mc mo me mw) {x r r2 : Int32} (hc : ((∃ i, i < 8 ∧ x = nI i ∧ r = nI (nE i)) ∨ ((¬ ∃ i, i < 8 ∧ x = nI i) ∧ r = -1)) ∧ u1 = w) (hm : ((∃ i, i < 8 ∧ x = nI i ∧ r2 = nI (mc i)) ∨ ((¬ ∃ i, i < 8 ∧ x = nI i) ∧ r2 = -1)) ∧ u2 = u1) : r = r2 ∧ St k0 (ad 0) (am 0) u2 := by
  obtain ⟨hc, hp⟩ := hc
  obtain ⟨hm, hq⟩ := hm
  subst hq; subst hp
  refine ⟨?_, _, _, _, _, _, _, _, _, _, _, _, _, _, _, _, _, _, rfl, rfl, hC, hM, hI⟩
  rcases hc with ⟨i, c1, c2, c3⟩ | ⟨cn, c3⟩ <;> rcases hm with ⟨i2, m1, m2, m3⟩ | ⟨mn9, m3⟩
  · have ei := nI_same c2 m2 (by omega) (by omega)
    subst ei
    rw [c3, m3, (hI i c1).1]
  · exact absurd ⟨i, c1, c2⟩ mn9
  · exact absurd ⟨i2, m1, m2⟩ cn
  · rw [c3, m3]

theorem sp_weight {k0 : Nat → ClassId} {w u1 u2 : va_W} {ad nE nV : Nat → Nat} {op : Nat → Int32} {LL : Nat → Nat → Nat} {ww : Nat → Nat → Int32} {am mv mc mo me : Nat → Nat} {mw : Nat → Int32} {mm : Nat → Nat} {mk : Nat} {mn fb sb : Nat → Nat} (hC : atC w 0 k0 ad nE nV op LL ww) (hM : atM u1 33 k0 am mv mc mo me mw mm mk mn fb sb) (hI : inv nE nV op LL ww mv mc mo me mw) {x y r r2 : Int32} (hc : ((∃ i e9, i < 8 ∧ e9 < nE i ∧ x = nI i ∧ y = nI e9 ∧ r = ww i e9) ∨ (¬ (∃ i e9, i < 8 ∧ e9 < nE i ∧ x = nI i ∧ y = nI e9) ∧ r = 0)) ∧ u1 = w) (hm : ((∃ i e9, i < 8 ∧ e9 < mc i ∧ x = nI i ∧ y = nI e9 ∧ r2 = mw (12 * i + e9)) ∨ (¬ (∃ i e9, i < 8 ∧ e9 < mc i ∧ x = nI i ∧ y = nI e9) ∧ r2 = 0)) ∧ u2 = u1) : r = r2 ∧ St k0 (ad 0) (am 0) u2 := by
  obtain ⟨hc, hp⟩ := hc
  obtain ⟨hm, hq⟩ := hm
  subst hq; subst hp
  refine ⟨?_, _, _, _, _, _, _, _, _, _, _, _, _, _, _, _, _, _, rfl, rfl, hC, hM, hI⟩
  rcases hc with ⟨i, e9, c1, c2, c3, c4, c5⟩ | ⟨cn, c5⟩ <;> rcases hm with ⟨i2, e2, m1, m2, m3, m4, m5⟩ | ⟨mn9, m5⟩
  · obtain ⟨z1, z2, _, _, _, _, _, _, _, _, z11, _⟩ := id (hI i c1)
    have ei := nI_same c3 m3 (by omega) (by omega)
    subst ei
    have ee := nI_same c4 m4 (by omega) (by omega)
    subst ee
    rw [c5, m5]; exact z11 e9 c2
  · have z1 := (hI i c1).1
    exact absurd ⟨i, e9, c1, by omega, c3, c4⟩ mn9
  · have z1 := (hI i2 m1).1
    exact absurd ⟨i2, e2, m1, by omega, m3, m4⟩ cn
  · rw [c5, m5]

theorem sp_rank {k0 : Nat → ClassId} {w u1 u2 : va_W} {ad nE nV : Nat → Nat} {op : Nat → Int32} {LL : Nat → Nat → Nat} {ww : Nat → Nat → Int32} {am mv mc mo me : Nat → Nat} {mw : Nat → Int32} {mm : Nat → Nat} {mk : Nat} {mn fb sb : Nat → Nat} (hC : atC w 0 k0 ad nE nV op LL ww) (hM : atM u1 33 k0 am mv mc mo me mw mm mk mn fb sb) (hI : inv nE nV op LL ww mv mc mo me mw) {x y r r2 : Int32} (hc : ((∃ i S, i < 8 ∧ S ≤ cf_full (nE i) ∧ x = nI i ∧ y = nI S ∧ r = nI (cf_rk (LL i) (nE i) S)) ∨ (¬ (∃ i S, i < 8 ∧ S ≤ cf_full (nE i) ∧ x = nI i ∧ y = nI S) ∧ r = -1)) ∧ atC u1 0 k0 ad nE nV op LL ww ∧ kx_fr w u1 (fun j => 0 ≤ j ∧ j < 0 + 33)) (hm : ((∃ i S, i < 8 ∧ S ≤ cf_full (mc i) ∧ x = nI i ∧ y = nI S ∧ r2 = nI (cf_rk (jl (mA me i) (mB me i)) (mc i) S)) ∨ (¬ (∃ i S, i < 8 ∧ S ≤ cf_full (mc i) ∧ x = nI i ∧ y = nI S) ∧ r2 = -1)) ∧ (∃ mn9, atM u2 33 k0 am mv mc mo me mw mm mk mn9 fb sb) ∧ kx_fr u1 u2 (fun j => 33 ≤ j ∧ j < 33 + 10)) : r = r2 ∧ St k0 (ad 0) (am 0) u2 := by
  obtain ⟨hc, hcu, hp⟩ := hc
  obtain ⟨hm, ⟨mn9, hmu⟩, hq⟩ := hm
  refine ⟨?_, _, _, _, _, _, _, _, _, _, _, _, _, _, _, _, _, _, rfl, rfl, atC_fr hcu hq (fun j h1 h2 h3 => by omega), hmu, hI⟩
  rcases hc with ⟨i, S, c1, c2, c3, c4, c5⟩ | ⟨cn, c5⟩ <;> rcases hm with ⟨i2, S2, m1, m2, m3, m4, m5⟩ | ⟨mn8, m5⟩
  · obtain ⟨z1, z2, _, _, _, _, _, z8, _⟩ := id (hI i c1)
    have ei := nI_same c3 m3 (by omega) (by omega)
    subst ei
    have k1 := kb_full_lt z2
    have eS := nI_same c4 m4 (by omega) (by rw [← z1] at m2; omega)
    subst eS
    rw [c5, m5, ← z1, cy_rk z8]
  · have z1 := (hI i c1).1
    exact absurd ⟨i, S, c1, by rw [← z1]; exact c2, c3, c4⟩ mn8
  · have z1 := (hI i2 m1).1
    exact absurd ⟨i2, S2, m1, by rw [z1]; exact m2, m3, m4⟩ cn
  · rw [c5, m5]

theorem sp_best {k0 : Nat → ClassId} {w u1 u2 : va_W} {ad nE nV : Nat → Nat} {op : Nat → Int32} {LL : Nat → Nat → Nat} {ww : Nat → Nat → Int32} {am mv mc mo me : Nat → Nat} {mw : Nat → Int32} {mm : Nat → Nat} {mk : Nat} {mn fb sb : Nat → Nat} (hC : atC w 0 k0 ad nE nV op LL ww) (hM : atM u1 33 k0 am mv mc mo me mw mm mk mn fb sb) (hI : inv nE nV op LL ww mv mc mo me mw) {x r r2 : Int32} (hc : ((∃ i F, i < 8 ∧ x = nI i ∧ r = nI F ∧ be_spec (LL i) (ww i) (nE i) F) ∨ ((¬ ∃ i, i < 8 ∧ x = nI i) ∧ r = -1)) ∧ atC u1 0 k0 ad nE nV op LL ww ∧ kx_fr w u1 (fun j => 0 ≤ j ∧ j < 0 + 33)) (hm : ((∃ i F, i < 8 ∧ x = nI i ∧ r2 = nI F ∧ be_spec (jl (mA me i) (mB me i)) (fun e => mw (12 * i + e)) (mc i) F) ∨ ((¬ ∃ i, i < 8 ∧ x = nI i) ∧ r2 = -1)) ∧ (∃ mn9 f9, atM u2 33 k0 am mv mc mo me mw mm mk mn9 f9 sb) ∧ kx_fr u1 u2 (fun j => 33 ≤ j ∧ j < 33 + 10)) : r = r2 ∧ St k0 (ad 0) (am 0) u2 := by
  obtain ⟨hc, hcu, hp⟩ := hc
  obtain ⟨hm, ⟨mn9, f9, hmu⟩, hq⟩ := hm
  refine ⟨?_, _, _, _, _, _, _, _, _, _, _, _, _, _, _, _, _, _, rfl, rfl, atC_fr hcu hq (fun j h1 h2 h3 => by omega), hmu, hI⟩
  rcases hc with ⟨i, F, c1, c2, c3, c4⟩ | ⟨cn, c3⟩ <;> rcases hm with ⟨i2, F2, m1, m2, m3, m4⟩ | ⟨mn8, m3⟩
  · obtain ⟨z1, z2, _, _, _, _, _, z8, _, _, z11, z12⟩ := id (hI i c1)
    have ei := nI_same c2 m2 (by omega) (by omega)
    subst ei
    rw [← z1] at m4
    have k1 := cy_be z8 c4
    have k2 : be_spec (jl (mA me i) (mB me i)) (fun e => mw (12 * i + e)) (nE i) F := by
      obtain ⟨y1, y2, y3, y4⟩ := k1
      have gs : ∀ S, gw_sum (ww i) (nE i) S = gw_sum (fun e => mw (12 * i + e)) (nE i) S := fun S => gw_sumF z11
      refine ⟨y1, y2, y3, fun J a b c => ?_⟩
      rcases y4 J a b c with q | q
      · exact Or.inl q
      · right
        unfold gw_bet at q ⊢
        rw [← gs, ← gs]; exact q
    rw [c3, m3, be_only k2 m4]
  · exact absurd ⟨i, c1, c2⟩ mn8
  · exact absurd ⟨i2, m1, m2⟩ cn
  · rw [c3, m3]

theorem sp_common {k0 : Nat → ClassId} {w u1 u2 : va_W} {ad nE nV : Nat → Nat} {op : Nat → Int32} {LL : Nat → Nat → Nat} {ww : Nat → Nat → Int32} {am mv mc mo me : Nat → Nat} {mw : Nat → Int32} {mm : Nat → Nat} {mk : Nat} {mn fb sb : Nat → Nat} (hC : atC w 0 k0 ad nE nV op LL ww) (hM : atM u1 33 k0 am mv mc mo me mw mm mk mn fb sb) (hI : inv nE nV op LL ww mv mc mo me mw) {x y r r2 : Int32} (hc : ((∃ i j C, i < 8 ∧ j < 8 ∧ nE i = nE j ∧ x = nI i ∧ y = nI j ∧ r = nI C ∧ cm_spec (LL i) (LL j) (nE i) C) ∨ (¬ (∃ i j, i < 8 ∧ j < 8 ∧ nE i = nE j ∧ x = nI i ∧ y = nI j) ∧ r = -1)) ∧ atC u1 0 k0 ad nE nV op LL ww ∧ kx_fr w u1 (fun j => 0 ≤ j ∧ j < 0 + 33)) (hm : ((∃ i j C, i < 8 ∧ j < 8 ∧ mc i = mc j ∧ x = nI i ∧ y = nI j ∧ r2 = nI C ∧ cm_spec (jl (mA me i) (mB me i)) (jl (mA me j) (mB me j)) (mc i) C) ∨ (¬ (∃ i j, i < 8 ∧ j < 8 ∧ mc i = mc j ∧ x = nI i ∧ y = nI j) ∧ r2 = -1)) ∧ (∃ mn9 f9 s9, atM u2 33 k0 am mv mc mo me mw mm mk mn9 f9 s9) ∧ kx_fr u1 u2 (fun j => 33 ≤ j ∧ j < 33 + 10)) : r = r2 ∧ St k0 (ad 0) (am 0) u2 := by
  obtain ⟨hc, hcu, hp⟩ := hc
  obtain ⟨hm, ⟨mn9, f9, s9, hmu⟩, hq⟩ := hm
  refine ⟨?_, _, _, _, _, _, _, _, _, _, _, _, _, _, _, _, _, _, rfl, rfl, atC_fr hcu hq (fun j h1 h2 h3 => by omega), hmu, hI⟩
  rcases hc with ⟨i, j, C, c1, c2, c3, c4, c5, c6, c7⟩ | ⟨cn, c6⟩ <;> rcases hm with ⟨i2, j2, C2, m1, m2, m3, m4, m5, m6, m7⟩ | ⟨mn8, m6⟩
  · obtain ⟨z1, z2, _, _, _, _, _, z8, _⟩ := id (hI i c1)
    obtain ⟨_, _, _, _, _, _, _, w8, _⟩ := id (hI j c2)
    have ei := nI_same c4 m4 (by omega) (by omega)
    subst ei
    have ej := nI_same c5 m5 (by omega) (by omega)
    subst ej
    rw [← z1] at m7
    rw [← c3] at w8
    rw [c6, m6, cm_only (cy_cm z8 w8 c7) m7]
  · have z1 := (hI i c1).1
    have z2 := (hI j c2).1
    exact absurd ⟨i, j, c1, c2, by omega, c4, c5⟩ mn8
  · have z1 := (hI i2 m1).1
    have z2 := (hI j2 m2).1
    exact absurd ⟨i2, j2, m1, m2, by omega, m4, m5⟩ cn
  · rw [c6, m6]

theorem sp_cover {k0 : Nat → ClassId} {w u1 u2 : va_W} {ad nE nV : Nat → Nat} {op : Nat → Int32} {LL : Nat → Nat → Nat} {ww : Nat → Nat → Int32} {am mv mc mo me : Nat → Nat} {mw : Nat → Int32} {mm : Nat → Nat} {mk : Nat} {mn fb sb : Nat → Nat} (hC : atC w 0 k0 ad nE nV op LL ww) (hM : atM u1 33 k0 am mv mc mo me mw mm mk mn fb sb) (hI : inv nE nV op LL ww mv mc mo me mw) {x y r r2 : Int32} (hc : ((∃ i j C, i < 8 ∧ j < 8 ∧ nE i = nE j ∧ x = nI i ∧ y = nI j ∧ r = nI C ∧ co_spec (LL i) (LL j) (nE i) C) ∨ (¬ (∃ i j, i < 8 ∧ j < 8 ∧ nE i = nE j ∧ x = nI i ∧ y = nI j) ∧ r = -1)) ∧ atC u1 0 k0 ad nE nV op LL ww ∧ kx_fr w u1 (fun j => 0 ≤ j ∧ j < 0 + 33)) (hm : ((∃ i j I9, i < 8 ∧ j < 8 ∧ mc i = mc j ∧ x = nI i ∧ y = nI j ∧ cm_spec (jl (mA me i) (mB me i)) (jl (mA me j) (mB me j)) (mc i) I9 ∧ r2 = nI (cw_f (jl (mA me i) (mB me i)) (jl (mA me j) (mB me j)) (mc i) I9 (cf_full (mc i) + 1))) ∨ (¬ (∃ i j, i < 8 ∧ j < 8 ∧ mc i = mc j ∧ x = nI i ∧ y = nI j) ∧ r2 = -1)) ∧ (∃ mn9 f9 s9, atM u2 33 k0 am mv mc mo me mw mm mk mn9 f9 s9) ∧ kx_fr u1 u2 (fun j => 33 ≤ j ∧ j < 33 + 10)) : r = r2 ∧ St k0 (ad 0) (am 0) u2 := by
  obtain ⟨hc, hcu, hp⟩ := hc
  obtain ⟨hm, ⟨mn9, f9, s9, hmu⟩, hq⟩ := hm
  refine ⟨?_, _, _, _, _, _, _, _, _, _, _, _, _, _, _, _, _, _, rfl, rfl, atC_fr hcu hq (fun j h1 h2 h3 => by omega), hmu, hI⟩
  rcases hc with ⟨i, j, C, c1, c2, c3, c4, c5, c6, c7⟩ | ⟨cn, c6⟩ <;> rcases hm with ⟨i2, j2, I9, m1, m2, m3, m4, m5, m6, m7⟩ | ⟨mn8, m7⟩
  · obtain ⟨z1, z2, _, _, _, _, _, z8, _⟩ := id (hI i c1)
    obtain ⟨_, _, _, _, _, _, _, w8, _⟩ := id (hI j c2)
    have ei := nI_same c4 m4 (by omega) (by omega)
    subst ei
    have ej := nI_same c5 m5 (by omega) (by omega)
    subst ej
    rw [← z1] at m6 m7
    rw [← c3] at w8
    have k : co_spec (jl (mA me i) (mB me i)) (jl (mA me j) (mB me j)) (nE i) C := by
      obtain ⟨y1, I2, y2, y3, y4⟩ := c7
      exact ⟨y1, I2, cy_cm z8 w8 y2, cy_cov z8 w8 y3, fun A a b => y4 A a (cy_cov (cy_sym z8) (cy_sym w8) b)⟩
    rw [c6, m7, cw_eq m6 k]
  · have z1 := (hI i c1).1
    have z2 := (hI j c2).1
    exact absurd ⟨i, j, c1, c2, by omega, c4, c5⟩ mn8
  · have z1 := (hI i2 m1).1
    have z2 := (hI j2 m2).1
    exact absurd ⟨i2, j2, m1, m2, by omega, m4, m5⟩ cn
  · rw [c6, m7]

theorem sp_leave {k0 : Nat → ClassId} {w u1 u2 : va_W} {ad nE nV : Nat → Nat} {op : Nat → Int32} {LL : Nat → Nat → Nat} {ww : Nat → Nat → Int32} {am mv mc mo me : Nat → Nat} {mw : Nat → Int32} {mm : Nat → Nat} {mk : Nat} {mn fb sb : Nat → Nat} (hC : atC w 0 k0 ad nE nV op LL ww) (hM : atM u1 33 k0 am mv mc mo me mw mm mk mn fb sb) (hI : inv nE nV op LL ww mv mc mo me mw) {x y z jn9 r r2 : Int32} (hc : ((∃ t i S, t < 8 ∧ i < 8 ∧ S ≤ cf_full (nE i) ∧ x = nI t ∧ y = nI i ∧ z = nI S ∧ r = nI (lv_c S (nE i)) ∧ ∃ (L9 : Nat → Nat) (f9 : Nat → Int32) (r1 p1 dr : Nat → Nat), atC u1 0 k0 ad (va_up nE t (lv_c S (nE i))) (va_up nV t (nV t)) (va_up op t 0) (va_up LL t L9) (va_up ww t f9) ∧ (∀ j, j < lv_c S (nE i) → L9 j = lv_d S (fun e => fo_rest (fo_fill (LL i) (if jn9 = 0 then 0 else S) r1 p1 (nE i)).1 (LL i e) (fo_fill (LL i) (if jn9 = 0 then 0 else S) r1 p1 (nE i)).2.2) dr (nE i) j) ∧ ∀ j, j < lv_c S (nE i) → f9 j = 0) ∨ (¬ (∃ t i S, t < 8 ∧ i < 8 ∧ S ≤ cf_full (nE i) ∧ x = nI t ∧ y = nI i ∧ z = nI S) ∧ r = -1 ∧ u1 = w)) ∧ kx_fr w u1 (fun j => 0 ≤ j ∧ j < 0 + 33)) (hm : ((∃ t i S, t < 8 ∧ i < 8 ∧ S ≤ cf_full (mc i) ∧ x = nI t ∧ y = nI i ∧ z = nI S ∧ r2 = nI (lv_c S (mc i)) ∧ ∃ (me9 : Nat → Nat) (mw9 : Nat → Int32) (mm9 : Nat → Nat) (mk9 : Nat) (mn9 : Nat → Nat), atM u2 33 k0 am (fo_up mv t (mv i)) (fo_up mc t (lv_c S (mc i))) (fo_up mo t 0) me9 mw9 mm9 mk9 mn9 fb sb ∧ (∀ v, v < 32 → mn9 v = (jn (mA me i) (mB me i) (if jn9 = 0 then 0 else S) (mc i)).1 v) ∧ (∀ e, e < mc i → S.testBit e = false → me9 (24 * t + 2 * lv_c S e) = mn9 (mA me i e) ∧ me9 (24 * t + 2 * lv_c S e + 1) = mn9 (mB me i e)) ∧ (∀ j, j < lv_c S (mc i) → mw9 (12 * t + j) = 0) ∧ (∀ k, k < 24 * t ∨ 24 * t + 24 ≤ k → me9 k = me k) ∧ (∀ k, k < 12 * t ∨ 12 * t + 12 ≤ k → mw9 k = mw k)) ∨ (¬ (∃ t i S, t < 8 ∧ i < 8 ∧ S ≤ cf_full (mc i) ∧ x = nI t ∧ y = nI i ∧ z = nI S) ∧ r2 = -1 ∧ u2 = u1)) ∧ kx_fr u1 u2 (fun j => 33 ≤ j ∧ j < 33 + 10)) : r = r2 ∧ St k0 (ad 0) (am 0) u2 := by
  obtain ⟨hc, hp⟩ := hc
  obtain ⟨hm, hq⟩ := hm
  rcases hc with ⟨t, i, S, c1, c2, c3, c4, c5, c6, c7, L9, f9, r1, p1, dr, c8, c9, c10⟩ | ⟨cn, c7, c8⟩ <;> rcases hm with ⟨t2, i2, S2, m1, m2, m3, m4, m5, m6, m7, me9, mw9, mm9, mk9, mn9, m8, m9, m10, m11, m12, m13⟩ | ⟨mn8, m7, m8⟩
  · obtain ⟨z1, z2, _⟩ := id (hI i c2)
    have hVt := (hI t c1).2.2.1
    have et := nI_same c4 m4 (by omega) (by omega)
    subst et
    have ei := nI_same c5 m5 (by omega) (by omega)
    subst ei
    have k1 := kb_full_lt z2
    have eS := nI_same c6 m6 (by omega) (by rw [← z1] at m3; omega)
    subst eS
    rw [← z1] at m7 m8 m9 m10 m11
    refine ⟨by rw [c7, m7], _, _, _, _, _, _, _, _, _, _, _, _, _, _, _, _, _, rfl, rfl, atC_fr c8 hq (fun j h1 h2 h3 => by omega), m8, ?_⟩
    refine inv_put hI (fun j hj => ⟨fo_up_ne _ _ hj, fo_up_ne _ _ hj, fo_up_ne _ _ hj⟩) m12 m13 ?_
    rw [fo_up_self, fo_up_self, fo_up_self]
    exact rl_leave (hI i c2) hVt c9 c10 m9 (fun e he hS => m10 e he hS) m11
  · have z1 := (hI i c2).1
    exact absurd ⟨t, i, S, c1, c2, by rw [← z1]; exact c3, c4, c5, c6⟩ mn8
  · have z1 := (hI i2 m2).1
    exact absurd ⟨t2, i2, S2, m1, m2, by rw [z1]; exact m3, m4, m5, m6⟩ cn
  · subst m8; subst c8
    exact ⟨by rw [c7, m7], _, _, _, _, _, _, _, _, _, _, _, _, _, _, _, _, _, rfl, rfl, hC, hM, hI⟩

theorem sp_beside {k0 : Nat → ClassId} {w u1 u2 : va_W} {ad nE nV : Nat → Nat} {op : Nat → Int32} {LL : Nat → Nat → Nat} {ww : Nat → Nat → Int32} {am mv mc mo me : Nat → Nat} {mw : Nat → Int32} {mm : Nat → Nat} {mk : Nat} {mn fb sb : Nat → Nat} (hC : atC w 0 k0 ad nE nV op LL ww) (hM : atM u1 33 k0 am mv mc mo me mw mm mk mn fb sb) (hI : inv nE nV op LL ww mv mc mo me mw) {x y z r r2 : Int32} (hc : ((∃ t i j, t < 8 ∧ i < 8 ∧ j < 8 ∧ nE i + nE j ≤ 12 ∧ x = nI t ∧ y = nI i ∧ z = nI j ∧ r = nI (nE i + nE j) ∧ ∃ (L9 : Nat → Nat) (f9 : Nat → Int32), atC u1 0 k0 ad (va_up nE t (nE i + nE j)) (va_up nV t (nV t)) (va_up op t 0) (va_up LL t L9) (va_up ww t f9) ∧ (∀ k, k < nE i + nE j → L9 k = bs_L (fun e => pq_of (me_of (LL i) (nE i)) (LL i e)) (fun e => pq_of (me_of (LL j) (nE j)) (LL j e)) (nE i) (cf_card 32 (me_of (LL i) (nE i))) k) ∧ ∀ k, k < nE i + nE j → f9 k = 0) ∨ (¬ (∃ t i j, t < 8 ∧ i < 8 ∧ j < 8 ∧ nE i + nE j ≤ 12 ∧ x = nI t ∧ y = nI i ∧ z = nI j) ∧ r = -1 ∧ u1 = w)) ∧ kx_fr w u1 (fun j => 0 ≤ j ∧ j < 0 + 33)) (hm : ((∃ t i j, t < 8 ∧ i < 8 ∧ j < 8 ∧ mc i + mc j ≤ 12 ∧ x = nI t ∧ y = nI i ∧ z = nI j ∧ r2 = nI (mc i + mc j) ∧ ∃ (me9 : Nat → Nat) (mw9 : Nat → Int32) (mm9 : Nat → Nat) (mk9 : Nat) (mn9 na nb : Nat → Nat) (ca cb : Nat), atM u2 33 k0 am (fo_up mv t cb) (fo_up mc t (mc i + mc j)) (fo_up mo t 0) me9 mw9 mm9 mk9 mn9 fb sb ∧ nu_ok (mE me i) na (2 * mc i) 0 ca ∧ nu_ok (mE me j) nb (2 * mc j) ca cb ∧ (∀ e, e < mc i → me9 (24 * t + 2 * e) = na (2 * e) ∧ me9 (24 * t + 2 * e + 1) = na (2 * e + 1)) ∧ (∀ e, e < mc j → me9 (24 * t + 2 * (mc i + e)) = nb (2 * e) ∧ me9 (24 * t + 2 * (mc i + e) + 1) = nb (2 * e + 1)) ∧ (∀ k, k < mc i + mc j → mw9 (12 * t + k) = 0) ∧ (∀ k, k < 24 * t ∨ 24 * t + 24 ≤ k → me9 k = me k) ∧ (∀ k, k < 12 * t ∨ 12 * t + 12 ≤ k → mw9 k = mw k)) ∨ (¬ (∃ t i j, t < 8 ∧ i < 8 ∧ j < 8 ∧ mc i + mc j ≤ 12 ∧ x = nI t ∧ y = nI i ∧ z = nI j) ∧ r2 = -1 ∧ u2 = u1)) ∧ kx_fr u1 u2 (fun j => 33 ≤ j ∧ j < 33 + 10)) : r = r2 ∧ St k0 (ad 0) (am 0) u2 := by
  obtain ⟨hc, hp⟩ := hc
  obtain ⟨hm, hq⟩ := hm
  rcases hc with ⟨t, i, j, c1, c2, c3, c4, c5, c6, c7, c8, L9, f9, c9, c10, c11⟩ | ⟨cn, c8, c9⟩ <;> rcases hm with ⟨t2, i2, j2, m1, m2, m3, m4, m5, m6, m7, m8, me9, mw9, mm9, mk9, mn9, na, nb, ca, cb, m9, m10, m11, m12, m13, m14, m15, m16⟩ | ⟨mn8, m8, m9⟩
  · have z1 := (hI i c2).1
    have z2 := (hI j c3).1
    have hVt := (hI t c1).2.2.1
    have et := nI_same c5 m5 (by omega) (by omega)
    subst et
    have ei := nI_same c6 m6 (by omega) (by omega)
    subst ei
    have ej := nI_same c7 m7 (by omega) (by omega)
    subst ej
    rw [← z1, ← z2] at m8 m9 m14
    rw [← z1] at m10 m12 m13
    rw [← z2] at m11 m13
    refine ⟨by rw [c8, m8], _, _, _, _, _, _, _, _, _, _, _, _, _, _, _, _, _, rfl, rfl, atC_fr c9 hq (fun j h1 h2 h3 => by omega), m9, ?_⟩
    refine inv_put hI (fun j hj => ⟨fo_up_ne _ _ hj, fo_up_ne _ _ hj, fo_up_ne _ _ hj⟩) m15 m16 ?_
    rw [fo_up_self, fo_up_self, fo_up_self]
    exact rl_beside (hI i c2) (hI j c3) c4 hVt m10 m11 c10 c11 (fun e he => m12 e he) (fun e he => m13 e he) m14
  · have z1 := (hI i c2).1
    have z2 := (hI j c3).1
    exact absurd ⟨t, i, j, c1, c2, c3, by omega, c5, c6, c7⟩ mn8
  · have z1 := (hI i2 m2).1
    have z2 := (hI j2 m3).1
    exact absurd ⟨t2, i2, j2, m1, m2, m3, by omega, m5, m6, m7⟩ cn
  · subst m9; subst c9
    exact ⟨by rw [c8, m8], _, _, _, _, _, _, _, _, _, _, _, _, _, _, _, _, _, rfl, rfl, hC, hM, hI⟩
