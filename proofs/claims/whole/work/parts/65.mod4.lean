/-- the ends that are laid, of the edges that are left -/
def md_d (S : Nat) (P Q d : Nat → Nat) : Nat → Nat → Nat
  | 0 => d
  | e + 1 => if S.testBit e = true then md_d S P Q d e else fo_up (fo_up (md_d S P Q d e) (2 * lv_c S e) (P e)) (2 * lv_c S e + 1) (Q e)
theorem md_in {S e : Nat} {P Q d : Nat → Nat} (h : S.testBit e = true) : md_d S P Q d (e + 1) = md_d S P Q d e := by simp only [md_d]; rw [if_pos h]
theorem md_out {S e : Nat} {P Q d : Nat → Nat} (h : S.testBit e = false) : md_d S P Q d (e + 1) = fo_up (fo_up (md_d S P Q d e) (2 * lv_c S e) (P e)) (2 * lv_c S e + 1) (Q e) := by simp only [md_d]; rw [if_neg (by rw [h]; simp)]
theorem lv_c_mono {S : Nat} {a b : Nat} (h : a ≤ b) : lv_c S a ≤ lv_c S b := by
  induction b with
  | zero => rw [show a = 0 by omega]; exact Nat.le_refl _
  | succ b ih =>
    rcases Nat.lt_or_ge b a with q | q
    · rw [show a = b + 1 by omega]; exact Nat.le_refl _
    · refine Nat.le_trans (ih q) ?_
      simp only [lv_c]; split <;> omega
theorem lv_c_lt {S e n : Nat} (h : e < n) (hS : S.testBit e = false) : lv_c S e < lv_c S n := by
  have h1 := lv_c_mono (S := S) (show e + 1 ≤ n from h)
  rw [lv_c_out hS] at h1
  omega
theorem md_at {S n e : Nat} {P Q d : Nat → Nat} (h : e < n) (hS : S.testBit e = false) : md_d S P Q d n (2 * lv_c S e) = P e ∧ md_d S P Q d n (2 * lv_c S e + 1) = Q e := by
  induction n with
  | zero => omega
  | succ n ih =>
    cases c : S.testBit n with
    | true =>
      rw [md_in c]
      rcases Nat.lt_or_ge e n with q | q
      · exact ih q
      · rw [show e = n by omega, c] at hS; cases hS
    | false =>
      rw [md_out c]
      rcases Nat.lt_or_ge e n with q | q
      · have h1 := lv_c_lt q hS
        obtain ⟨z1, z2⟩ := ih q
        refine ⟨?_, ?_⟩
        · simp only [fo_up]; rw [if_neg (by omega), if_neg (by omega)]; exact z1
        · simp only [fo_up]; rw [if_neg (by omega), if_neg (by omega)]; exact z2
      · rw [show e = n by omega]
        refine ⟨?_, ?_⟩
        · simp only [fo_up]; rw [if_neg (by omega), if_pos trivial]
        · simp only [fo_up]; rw [if_pos trivial]
theorem ld_at {S n e : Nat} {R d : Nat → Nat} (h : e < n) (hS : S.testBit e = false) : lv_d S R d n (lv_c S e) = R e := by
  induction n with
  | zero => omega
  | succ n ih =>
    cases c : S.testBit n with
    | true =>
      rw [lv_d_in c]
      rcases Nat.lt_or_ge e n with q | q
      · exact ih q
      · rw [show e = n by omega, c] at hS; cases hS
    | false =>
      rw [lv_d_out c]
      rcases Nat.lt_or_ge e n with q | q
      · have h1 := lv_c_lt q hS
        simp only [fo_up]; rw [if_neg (by omega)]; exact ih q
      · rw [show e = n by omega, fo_up_self]
theorem lv_onto {S n j : Nat} (h : j < lv_c S n) : ∃ e, e < n ∧ S.testBit e = false ∧ lv_c S e = j := by
  induction n with
  | zero => exact absurd h (Nat.not_lt_zero j)
  | succ n ih =>
    cases c : S.testBit n with
    | true =>
      rw [lv_c_in c] at h
      obtain ⟨e, h1, h2⟩ := ih h
      exact ⟨e, by omega, h2⟩
    | false =>
      rw [lv_c_out c] at h
      rcases Nat.lt_or_ge j (lv_c S n) with q | q
      · obtain ⟨e, h1, h2⟩ := ih q
        exact ⟨e, by omega, h2⟩
      · exact ⟨n, by omega, c, by omega⟩
/-- the ends that are laid, by their new numbers -/
def nm_d (N d : Nat → Nat) (k : Nat) : Nat → Nat → Nat
  | 0 => d
  | e + 1 => fo_up (fo_up (nm_d N d k e) (2 * (k + e)) (N (2 * e))) (2 * (k + e) + 1) (N (2 * e + 1))
theorem nm_at {N d : Nat → Nat} {k n e : Nat} (h : e < n) : nm_d N d k n (2 * (k + e)) = N (2 * e) ∧ nm_d N d k n (2 * (k + e) + 1) = N (2 * e + 1) := by
  induction n with
  | zero => omega
  | succ n ih =>
    simp only [nm_d, fo_up]
    rcases Nat.lt_or_ge e n with q | q
    · obtain ⟨z1, z2⟩ := ih q
      refine ⟨?_, ?_⟩
      · rw [if_neg (by omega), if_neg (by omega)]; exact z1
      · rw [if_neg (by omega), if_neg (by omega)]; exact z2
    · rw [show e = n by omega]
      refine ⟨?_, ?_⟩
      · rw [if_neg (by omega), if_pos rfl]
      · rw [if_pos rfl]
theorem nm_old {N d : Nat → Nat} {k n j : Nat} (h : j < 2 * k) : nm_d N d k n j = d j := by
  induction n with
  | zero => rfl
  | succ n ih => simp only [nm_d, fo_up]; rw [if_neg (by omega), if_neg (by omega)]; exact ih
/-- new numbers: the same just where the old ones are, from fr on, below c -/
def nu_ok (E N : Nat → Nat) (k fr c : Nat) : Prop := (∀ a b, a < k → b < k → (N a = N b ↔ E a = E b)) ∧ (∀ a, a < k → fr ≤ N a ∧ N a < c) ∧ fr ≤ c ∧ c ≤ fr + k
theorem nu_0 (E N : Nat → Nat) (fr : Nat) : nu_ok E N 0 fr fr := ⟨fun a _ h => absurd h (Nat.not_lt_zero a), fun a h => absurd h (Nat.not_lt_zero a), Nat.le_refl _, Nat.le_refl _⟩
theorem nu_new {E N : Nat → Nat} {k fr c : Nat} (h : nu_ok E N k fr c) (hn : ∀ j, j < k → E j ≠ E k) : nu_ok E (fo_up N k c) (k + 1) fr (c + 1) := by
  obtain ⟨h1, h2, h3, h4⟩ := h
  refine ⟨fun a b ha hb => ?_, fun a ha => ?_, by omega, by omega⟩
  · rcases Nat.lt_or_ge a k with p | p <;> rcases Nat.lt_or_ge b k with q | q
    · rw [fo_up_lt _ _ p, fo_up_lt _ _ q]; exact h1 a b p q
    · rw [fo_up_lt _ _ p, show b = k by omega, fo_up_self]
      have := (h2 a p).2
      exact ⟨fun z => by omega, fun z => absurd z (hn a p)⟩
    · rw [fo_up_lt _ _ q, show a = k by omega, fo_up_self]
      have := (h2 b q).2
      exact ⟨fun z => by omega, fun z => absurd z.symm (hn b q)⟩
    · rw [show a = b by omega]; exact ⟨fun _ => rfl, fun _ => rfl⟩
  · rcases Nat.lt_or_ge a k with p | p
    · rw [fo_up_lt _ _ p]; have := h2 a p; omega
    · rw [show a = k by omega, fo_up_self]; omega
theorem nu_old {E N : Nat → Nat} {k fr c a9 : Nat} (h : nu_ok E N k fr c) (ha : a9 < k) (he : E a9 = E k) : nu_ok E (fo_up N k (N a9)) (k + 1) fr c := by
  obtain ⟨h1, h2, h3, h4⟩ := h
  refine ⟨fun a b ha' hb => ?_, fun a ha' => ?_, h3, by omega⟩
  · rcases Nat.lt_or_ge a k with p | p <;> rcases Nat.lt_or_ge b k with q | q
    · rw [fo_up_lt _ _ p, fo_up_lt _ _ q]; exact h1 a b p q
    · rw [fo_up_lt _ _ p, show b = k by omega, fo_up_self, ← he]; exact h1 a a9 p ha
    · rw [fo_up_lt _ _ q, show a = k by omega, fo_up_self, ← he]; exact h1 a9 b ha q
    · rw [show a = b by omega]; exact ⟨fun _ => rfl, fun _ => rfl⟩
  · rcases Nat.lt_or_ge a k with p | p
    · rw [fo_up_lt _ _ p]; exact h2 a p
    · rw [show a = k by omega, fo_up_self]; exact h2 a9 ha
def mE (me : Nat → Nat) (i : Nat) : Nat → Nat := fun j => me (24 * i + j)
theorem mE_lt {me : Nat → Nat} {i n : Nat} (h : ∀ e, e < n → me (24 * i + 2 * e) < 24 ∧ me (24 * i + 2 * e + 1) < 24) {j : Nat} (hj : j < 2 * n) : me (24 * i + j) < 24 := by
  have h1 := h (j / 2) (by omega)
  rcases Nat.mod_two_eq_zero_or_one j with q | q
  · have : 24 * i + 2 * (j / 2) = 24 * i + j := by omega
    rw [this] at h1; exact h1.1
  · have : 24 * i + 2 * (j / 2) + 1 = 24 * i + j := by omega
    rw [this] at h1; exact h1.2

set_option maxHeartbeats 4000000 in
set_option maxRecDepth 100000 in
/-- the model: leave -/
theorem m_leave (l : Launch) (D : va_G) (k0 : Nat → ClassId)  (w0 : va_W) (sz : Nat) (q : Nat) (am mv mc mo me : Nat → Nat) (mw : Nat → Int32) (mm : Nat → Nat) (mk : Nat) (mn fb sb : Nat → Nat) (hM : atM w0 q k0 am mv mc mo me mw mm mk mn fb sb) (hI : minv mv mc mo me mw) (x y z jn9 : Int32) : kx_i l yX3_leave wsX3_leave ({ frames := 2, cells := 0, slots := 0, locals := 48 } : Room) D (tyL k0) w0 sz [.ref (am 0), .int x, .int y, .int z, .int jn9] (fun (r : Int32) (u : va_W) => ((∃ t i S, t < 8 ∧ i < 8 ∧ S ≤ cf_full (mc i) ∧ x = nI t ∧ y = nI i ∧ z = nI S ∧ r = nI (lv_c S (mc i)) ∧ ∃ (me9 : Nat → Nat) (mw9 : Nat → Int32) (mm9 : Nat → Nat) (mk9 : Nat) (mn9 : Nat → Nat), atM u q k0 am (fo_up mv t (mv i)) (fo_up mc t (lv_c S (mc i))) (fo_up mo t 0) me9 mw9 mm9 mk9 mn9 fb sb ∧ (∀ v, v < 32 → mn9 v = (jn (mA me i) (mB me i) (if jn9 = 0 then 0 else S) (mc i)).1 v) ∧ (∀ e, e < mc i → S.testBit e = false → me9 (24 * t + 2 * lv_c S e) = mn9 (mA me i e) ∧ me9 (24 * t + 2 * lv_c S e + 1) = mn9 (mB me i e)) ∧ (∀ j, j < lv_c S (mc i) → mw9 (12 * t + j) = 0) ∧ (∀ k, k < 24 * t ∨ 24 * t + 24 ≤ k → me9 k = me k) ∧ (∀ k, k < 12 * t ∨ 12 * t + 12 ≤ k → mw9 k = mw k)) ∨ (¬ (∃ t i S, t < 8 ∧ i < 8 ∧ S ≤ cf_full (mc i) ∧ x = nI t ∧ y = nI i ∧ z = nI S) ∧ r = -1 ∧ u = w0)) ∧ kx_fr w0 u (fun j => q ≤ j ∧ j < q + 10)) 0 0 := by
  refine kx_of (Qf := fun A => va_Qi (fun (r : Int32) (u : va_W) => ((∃ t i S, t < 8 ∧ i < 8 ∧ S ≤ cf_full (mc i) ∧ x = nI t ∧ y = nI i ∧ z = nI S ∧ r = nI (lv_c S (mc i)) ∧ ∃ (me9 : Nat → Nat) (mw9 : Nat → Int32) (mm9 : Nat → Nat) (mk9 : Nat) (mn9 : Nat → Nat), atM u q k0 am (fo_up mv t (mv i)) (fo_up mc t (lv_c S (mc i))) (fo_up mo t 0) me9 mw9 mm9 mk9 mn9 fb sb ∧ (∀ v, v < 32 → mn9 v = (jn (mA me i) (mB me i) (if jn9 = 0 then 0 else S) (mc i)).1 v) ∧ (∀ e, e < mc i → S.testBit e = false → me9 (24 * t + 2 * lv_c S e) = mn9 (mA me i e) ∧ me9 (24 * t + 2 * lv_c S e + 1) = mn9 (mB me i e)) ∧ (∀ j, j < lv_c S (mc i) → mw9 (12 * t + j) = 0) ∧ (∀ k, k < 24 * t ∨ 24 * t + 24 ≤ k → me9 k = me k) ∧ (∀ k, k < 12 * t ∨ 12 * t + 12 ≤ k → mw9 k = mw k)) ∨ (¬ (∃ t i S, t < 8 ∧ i < 8 ∧ S ≤ cf_full (mc i) ∧ x = nI t ∧ y = nI i ∧ z = nI S) ∧ r = -1 ∧ u = w0)) ∧ kx_fr w0 u (fun j => q ≤ j ∧ j < q + 10)) (kx_B D (tyL k0) A) A) (cc := cX3_leave) (maxL := 6) (ret := (some .int)) (by decide +kernel) (Nat.le_of_ble_eq_true rfl) ?_
  intro p e s m below meth c A ls hx hb hml hown hts hr hlocks hnm hN hK hP hD hS hA hl
  have hown : s.vm.findClass RX3 = some m.cls := hown
  have hl : lv_has ls 6 [(0, .ref (am 0)), (1, .int x), (2, .int y), (3, .int z), (4, .int jn9)] := hl
  have hfr : kx_fr w0 w0 (fun j => q ≤ j ∧ j < q + 10) := kx_fr_rf _ _
  obtain ⟨hM0, hM1, hM2, hM3, hM4, hM5, hM6, hM7, hM8, hM9⟩ := id hM
  refine lv_iload_n hx hb dX3_leave_0 rfl (lv_at hl 1 rfl) ?_
  refine kx_goi (va_runS (As := [.int x]) (rest := []) ⟨hx, hb, hml, hown, hts⟩ (m_isGraph l D k0 w0 _ x) ⟨(kg_B (k := 1) hts tw_289 tw_287 tw_22 (by decide +kernel) rfl rfl ⟨Nat.le_of_ble_eq_true rfl, Nat.le_of_ble_eq_true rfl⟩), hts _ tw_288⟩ (kx_preS hN hK hP hD) rfl rfl hl.1 rfl (lv_room (Nat.le_of_ble_eq_true rfl)) dX3_leave_1 ⟨Nat.le_of_ble_eq_true rfl, Nat.le_of_ble_eq_true rfl⟩) hD hS hA (fun r_2 u_3 H locs hp_1 hP hD hS => ?_)
  obtain ⟨hy_x, eu⟩ := hp_1
  rw [eu] at hP hD
  refine lv_if_eq (tgt := 16) hx hb dX3_leave_4 (by decide) (fun c_4 => ?_) (fun c_4 => ?_)
  · skip
    have hno0 := kg_0 hy_x c_4
    have hno : ¬ (∃ t i S, t < 8 ∧ i < 8 ∧ S ≤ cf_full (mc i) ∧ x = nI t ∧ y = nI i ∧ z = nI S) := fun ⟨t, _, _, h1, _, _, h2, _⟩ => hno0 ⟨t, h1, h2⟩
    refine lv_iconst (v := -1) hx hb dX3_leave_16 (by decide +kernel) ?_
    exact kx_iret (v := -1) hx hb hr rfl hlocks hK hP hD hS dX3_leave_17 (⟨Or.inr ⟨hno, rfl, rfl⟩, kx_fr_rf _ _⟩)
  · skip
    obtain ⟨t, h8t, e_x⟩ := kg_1 hy_x c_4
    rw [e_x] at hl
    refine lv_aload_n hx hb dX3_leave_7 rfl (lv_at hl 0 rfl) ?_
    refine lv_iload_n hx hb dX3_leave_8 rfl (lv_at hl 2 rfl) ?_
    refine lv_iload_n hx hb dX3_leave_9 rfl (lv_at hl 3 rfl) ?_
    refine kx_goi (va_runV (As := [.int y, .int z]) (rest := []) ⟨hx, hb, hml, hown, hts⟩ (m_isSet l D k0 w0 _ q am mv mc mo me mw mm mk mn fb sb ⟨hM0, hM1, hM2, hM3, hM4, hM5, hM6, hM7, hM8, hM9⟩ hI y z) ⟨(kg_B (k := 2) hts tw_309 tw_306 tw_22 (by decide +kernel) rfl rfl ⟨Nat.le_of_ble_eq_true rfl, Nat.le_of_ble_eq_true rfl⟩), hts _ tw_308, hts _ tw_9⟩ (kx_preV hN hK hP hD rfl hM0) rfl rfl hl.1 rfl (lv_room (Nat.le_of_ble_eq_true rfl)) dX3_leave_10 ⟨Nat.le_of_ble_eq_true rfl, Nat.le_of_ble_eq_true rfl⟩) hD hS hA (fun r_5 u_6 H locs hp_4 hP hD hS => ?_)
    obtain ⟨hy_, eu⟩ := hp_4
    rw [eu] at hP hD
    refine lv_if_ne (tgt := 18) hx hb dX3_leave_13 (by decide) (fun c_13 => ?_) (fun c_13 => ?_)
    · skip
      obtain ⟨i, S, h8i, hSS, e_y, e_z⟩ := kg_1 hy_ c_13
      rw [e_y, e_z] at hl
      obtain ⟨hni, hvi, hoi, he2i, hw2i⟩ := hI i h8i
      have hfl := kb_full_lt hni
      obtain ⟨SJ, eSJ⟩ : ∃ SJ : Nat, SJ = if jn9 = 0 then 0 else S := ⟨_, rfl⟩
      have hSJb : SJ < 2 ^ 31 := by rw [eSJ]; split <;> omega
      refine lv_aload_n hx hb dX3_leave_18 rfl (lv_at hl 0 rfl) ?_
      refine lv_iload_n hx hb dX3_leave_19 rfl (lv_at hl 2 rfl) ?_
      refine lv_iload hx hb dX3_leave_20 (lv_at hl 4 rfl) ?_
      refine lv_if_eq (tgt := 29) hx hb dX3_leave_22 (by decide) (fun c_22 => ?_) (fun c_22 => ?_)
      · skip
        refine lv_iconst (v := nI 0) hx hb dX3_leave_29 (by decide +kernel) ?_
        refine lv_topi (fun z_7 ez_7 => ?_)
        have ez_7 : z_7 = nI SJ := by rw [ez_7]; rw [eSJ, if_pos c_22]
        subst ez_7
        refine kx_goi (va_runV (As := [.int (nI i), .int (nI SJ)]) (rest := []) ⟨hx, hb, hml, hown, hts⟩ (m_join l D k0 w0 _ q am mv mc mo me mw mm mk mn fb sb ⟨hM0, hM1, hM2, hM3, hM4, hM5, hM6, hM7, hM8, hM9⟩ hI i SJ h8i hSJb) ⟨(kg_B (k := 2) hts tw_317 tw_314 tw_22 (by decide +kernel) rfl rfl ⟨Nat.le_of_ble_eq_true rfl, Nat.le_of_ble_eq_true rfl⟩), hts _ tw_316, hts _ tw_11⟩ (kx_preV hN hK hP hD rfl hM0) rfl rfl hl.1 rfl (lv_room (Nat.le_of_ble_eq_true rfl)) dX3_leave_30 ⟨Nat.le_of_ble_eq_true rfl, Nat.le_of_ble_eq_true rfl⟩) hD hS hA (fun r_9 u_10 H locs hp_8 hP hD hS => ?_)
        obtain ⟨mn9, er_mn9, hn_mn9, hM79, hq⟩ := hp_8
        have f_11 : u_10[q]? = some (am 0, .inr (3, [.ref (am 1), .ref (am 2), .ref (am 3), .ref (am 4), .ref (am 5), .ref (am 6), .int (nI mk), .ref (am 7), .ref (am 8), .ref (am 9)])) := by rw [hq _ (by omega)]; exact hM0
        have f_12 : u_10[q + 1]? = some (am 1, .inl (k0 0, 8, .inl (fun y9 => nI (mv y9)))) := by rw [hq _ (by omega)]; exact hM1
        have f_13 : u_10[q + 2]? = some (am 2, .inl (k0 0, 8, .inl (fun y9 => nI (mc y9)))) := by rw [hq _ (by omega)]; exact hM2
        have f_14 : u_10[q + 3]? = some (am 3, .inl (k0 2, 8, .inl (fun y9 => nI (mo y9)))) := by rw [hq _ (by omega)]; exact hM3
        have f_15 : u_10[q + 4]? = some (am 4, .inl (k0 0, 192, .inl (fun y9 => nI (me y9)))) := by rw [hq _ (by omega)]; exact hM4
        have f_16 : u_10[q + 5]? = some (am 5, .inl (k0 0, 96, .inl mw)) := by rw [hq _ (by omega)]; exact hM5
        have f_17 : u_10[q + 6]? = some (am 6, .inl (k0 0, 24, .inl (fun y9 => nI (mm y9)))) := by rw [hq _ (by omega)]; exact hM6
        have f_18 : u_10[q + 7]? = some (am 7, .inl (k0 0, 32, .inl (fun y9 => nI (mn9 y9)))) := hM79
        have f_19 : u_10[q + 8]? = some (am 8, .inl (k0 3, 4096, .inl (fun y9 => nI (fb y9)))) := by rw [hq _ (by omega)]; exact hM8
        have f_20 : u_10[q + 9]? = some (am 9, .inl (k0 3, 4096, .inl (fun y9 => nI (sb y9)))) := by rw [hq _ (by omega)]; exact hM9
        have hfr : kx_fr w0 u_10 (fun j => q ≤ j ∧ j < q + 10) := kx_fr_tr hfr (kx_fr_mono hq (fun j h => by omega))
        subst er_mn9
        refine lv_pop hx hb dX3_leave_33 rfl ?_
        refine lv_aload_n hx hb dX3_leave_34 rfl (lv_at hl 0 rfl) ?_
        refine lv_iconst (v := nI 0) hx hb dX3_leave_35 (by decide +kernel) ?_
        refine va_put (D := D) (ci := 3) (v := .int (nI 0)) (ty := .int) (C := RX3) (T := TX3) (N := 10) hx hb hts inX3 tyX3 tyX3_ok nmX3 hown hK hP hD hS q f_11 rfl 6 (by decide) (hts _ tw_256) (fun _ h9 => h9) rfl (by decide +kernel) rfl rfl (Nat.le_of_ble_eq_true rfl) dX3_leave_36 (fun H locs hP hD hS => ?_)
        obtain ⟨w_21, ew_21⟩ : ∃ w, w = u_10.set q (am 0, .inr (3, [.ref (am 1), .ref (am 2), .ref (am 3), .ref (am 4), .ref (am 5), .ref (am 6), .int (nI 0), .ref (am 7), .ref (am 8), .ref (am 9)])) := ⟨_, rfl⟩
        have hP : va_P D vwCl w_21 H := by rw [ew_21]; exact hP
        have hD : va_D A w_21 := by rw [ew_21]; exact hD
        have f_22 : w_21[q]? = some (am 0, .inr (3, [.ref (am 1), .ref (am 2), .ref (am 3), .ref (am 4), .ref (am 5), .ref (am 6), .int (nI 0), .ref (am 7), .ref (am 8), .ref (am 9)])) := by rw [ew_21]; exact kx_set_self f_11
        have f_23 : w_21[q + 1]? = some (am 1, .inl (k0 0, 8, .inl (fun y9 => nI (mv y9)))) := by rw [ew_21]; exact kx_set_ne f_12 (by omega)
        have f_24 : w_21[q + 2]? = some (am 2, .inl (k0 0, 8, .inl (fun y9 => nI (mc y9)))) := by rw [ew_21]; exact kx_set_ne f_13 (by omega)
        have f_25 : w_21[q + 3]? = some (am 3, .inl (k0 2, 8, .inl (fun y9 => nI (mo y9)))) := by rw [ew_21]; exact kx_set_ne f_14 (by omega)
        have f_26 : w_21[q + 4]? = some (am 4, .inl (k0 0, 192, .inl (fun y9 => nI (me y9)))) := by rw [ew_21]; exact kx_set_ne f_15 (by omega)
        have f_27 : w_21[q + 5]? = some (am 5, .inl (k0 0, 96, .inl mw)) := by rw [ew_21]; exact kx_set_ne f_16 (by omega)
        have f_28 : w_21[q + 6]? = some (am 6, .inl (k0 0, 24, .inl (fun y9 => nI (mm y9)))) := by rw [ew_21]; exact kx_set_ne f_17 (by omega)
        have f_29 : w_21[q + 7]? = some (am 7, .inl (k0 0, 32, .inl (fun y9 => nI (mn9 y9)))) := by rw [ew_21]; exact kx_set_ne f_18 (by omega)
        have f_30 : w_21[q + 8]? = some (am 8, .inl (k0 3, 4096, .inl (fun y9 => nI (fb y9)))) := by rw [ew_21]; exact kx_set_ne f_19 (by omega)
        have f_31 : w_21[q + 9]? = some (am 9, .inl (k0 3, 4096, .inl (fun y9 => nI (sb y9)))) := by rw [ew_21]; exact kx_set_ne f_20 (by omega)
        have hfr : kx_fr w0 w_21 (fun j => q ≤ j ∧ j < q + 10) := kx_fr_tr hfr (by rw [ew_21]; exact kx_fr_set (by omega))
        refine lv_iconst (v := nI 0) hx hb dX3_leave_39 (by decide +kernel) ?_
        refine lv_istore (lv' := [(5, .int (nI 0)), (0, .ref (am 0)), (1, .int (nI t)), (2, .int (nI i)), (3, .int (nI S)), (4, .int jn9)]) hx hb dX3_leave_40 hl (by decide) rfl (fun ls hl => ?_)
        have loop_42 : ∀ (n42 : Nat) (e9 : Nat), (e9 ≤ mc i) → (mc i + 1 ≤ e9 + n42) → ∀ (w1 : va_W), w1[q]? = some (am 0, .inr (3, [.ref (am 1), .ref (am 2), .ref (am 3), .ref (am 4), .ref (am 5), .ref (am 6), .int (nI (lv_c S e9)), .ref (am 7), .ref (am 8), .ref (am 9)])) → w1[q + 1]? = some (am 1, .inl (k0 0, 8, .inl (fun y9 => nI (mv y9)))) → w1[q + 2]? = some (am 2, .inl (k0 0, 8, .inl (fun y9 => nI (mc y9)))) → w1[q + 3]? = some (am 3, .inl (k0 2, 8, .inl (fun y9 => nI (mo y9)))) → w1[q + 4]? = some (am 4, .inl (k0 0, 192, .inl (fun y9 => nI (me y9)))) → w1[q + 5]? = some (am 5, .inl (k0 0, 96, .inl mw)) → w1[q + 6]? = some (am 6, .inl (k0 0, 24, .inl (fun y9 => nI ((md_d S (fun e => mn9 (mA me i e)) (fun e => mn9 (mB me i e)) mm e9) y9)))) → w1[q + 7]? = some (am 7, .inl (k0 0, 32, .inl (fun y9 => nI (mn9 y9)))) → w1[q + 8]? = some (am 8, .inl (k0 3, 4096, .inl (fun y9 => nI (fb y9)))) → w1[q + 9]? = some (am 9, .inl (k0 3, 4096, .inl (fun y9 => nI (sb y9)))) → kx_fr w0 w1 (fun j => q ≤ j ∧ j < q + 10) → ∀ (H : Heap) (locs : List Loc), va_P D vwCl w1 H → va_D A w1 → va_S A s.heap H locs → ∀ (ls : Array Slot), lv_has ls 6 [(5, .int (nI e9)), (0, .ref (am 0)), (1, .int (nI t)), (2, .int (nI i)), (3, .int (nI S)), (4, .int jn9)] → W p l e ({ frames := 2, cells := 0, slots := 0, locals := 48 } : Room) s m ([.ref (am 0), .int x, .int y, .int z, .int jn9] : List Value).toArray below meth c H locs 0 0 (MQ below (va_Qi (fun (r : Int32) (u : va_W) => ((∃ t i S, t < 8 ∧ i < 8 ∧ S ≤ cf_full (mc i) ∧ x = nI t ∧ y = nI i ∧ z = nI S ∧ r = nI (lv_c S (mc i)) ∧ ∃ (me9 : Nat → Nat) (mw9 : Nat → Int32) (mm9 : Nat → Nat) (mk9 : Nat) (mn9 : Nat → Nat), atM u q k0 am (fo_up mv t (mv i)) (fo_up mc t (lv_c S (mc i))) (fo_up mo t 0) me9 mw9 mm9 mk9 mn9 fb sb ∧ (∀ v, v < 32 → mn9 v = (jn (mA me i) (mB me i) (if jn9 = 0 then 0 else S) (mc i)).1 v) ∧ (∀ e, e < mc i → S.testBit e = false → me9 (24 * t + 2 * lv_c S e) = mn9 (mA me i e) ∧ me9 (24 * t + 2 * lv_c S e + 1) = mn9 (mB me i e)) ∧ (∀ j, j < lv_c S (mc i) → mw9 (12 * t + j) = 0) ∧ (∀ k, k < 24 * t ∨ 24 * t + 24 ≤ k → me9 k = me k) ∧ (∀ k, k < 12 * t ∨ 12 * t + 12 ≤ k → mw9 k = mw k)) ∨ (¬ (∃ t i S, t < 8 ∧ i < 8 ∧ S ≤ cf_full (mc i) ∧ x = nI t ∧ y = nI i ∧ z = nI S) ∧ r = -1 ∧ u = w0)) ∧ kx_fr w0 u (fun j => q ≤ j ∧ j < q + 10)) (kx_B D (tyL k0) A) A) ([.ref (am 0), .int x, .int y, .int z, .int jn9] : List Value).toArray s 0 0 A) (F0 m 42 ls []) := by
          intro n42
          induction n42 with
          | zero =>
            intro e9 he hme
            exact absurd hme (by omega)
          | succ n42 ih42 =>
            intro e9 he hme w1 F42_0 F42_1 F42_2 F42_3 F42_4 F42_5 F42_6 F42_7 F42_8 F42_9 hfr H locs hP hD hS ls hl
            refine lv_iload hx hb dX3_leave_42 (lv_at hl 0 rfl) ?_
            refine lv_aload_n hx hb dX3_leave_44 rfl (lv_at hl 1 rfl) ?_
            refine va_get (D := D) (ci := 3) (v := .ref (am 2)) (C := RX3) (T := TX3) (N := 10) hx hb hts inX3 hown hK hP q F42_0 rfl 1 (by decide) (hts _ tw_251) (fun _ h9 => h9) rfl dX3_leave_45 ?_
            refine lv_iload_n hx hb dX3_leave_48 rfl (lv_at hl 3 rfl) ?_
            refine kx_nald hx hb hK hP (q + 2) F42_2 rfl (i := i) (by omega) (by decide) dX3_leave_49 ?_
            refine lv_icmp_ge (tgt := 112) hx hb dX3_leave_50 (by decide) (fun c_50 => ?_) (fun c_50 => ?_)
            · skip
              have hik : e9 = mc i := by
                have := (nI_leI (by omega) (by omega)).mp c_50
                omega
              have f_32 : w1[q + 6]? = some (am 6, .inl (k0 0, 24, .inl (fun y9 => nI ((md_d S (fun e => mn9 (mA me i e)) (fun e => mn9 (mB me i e)) mm (mc i)) y9)))) := by rw [← hik]; exact F42_6
              have f_33 : w1[q]? = some (am 0, .inr (3, [.ref (am 1), .ref (am 2), .ref (am 3), .ref (am 4), .ref (am 5), .ref (am 6), .int (nI (lv_c S (mc i))), .ref (am 7), .ref (am 8), .ref (am 9)])) := by rw [← hik]; exact F42_0
              refine lv_aload_n hx hb dX3_leave_112 rfl (lv_at hl 1 rfl) ?_
              refine lv_iload_n hx hb dX3_leave_113 rfl (lv_at hl 2 rfl) ?_
              refine lv_aload_n hx hb dX3_leave_114 rfl (lv_at hl 1 rfl) ?_
              refine va_get (D := D) (ci := 3) (v := .ref (am 1)) (C := RX3) (T := TX3) (N := 10) hx hb hts inX3 hown hK hP q f_33 rfl 0 (by decide) (hts _ tw_250) (fun _ h9 => h9) rfl dX3_leave_115 ?_
              refine lv_iload_n hx hb dX3_leave_118 rfl (lv_at hl 3 rfl) ?_
              refine kx_nald hx hb hK hP (q + 1) F42_1 rfl (i := i) (by omega) (by decide) dX3_leave_119 ?_
              refine kx_goi (va_runV (As := [.int (nI t), .int (nI (mv i))]) (rest := []) ⟨hx, hb, hml, hown, hts⟩ (m_keep l D k0 w1 _ q am mv mc mo me mw (md_d S (fun e => mn9 (mA me i e)) (fun e => mn9 (mB me i e)) mm (mc i)) (lv_c S (mc i)) mn9 fb sb ⟨f_33, F42_1, F42_2, F42_3, F42_4, F42_5, f_32, F42_7, F42_8, F42_9⟩ t (mv i) h8t (by have := lv_c_le S (mc i); omega)) ⟨(kg_B (k := 2) hts tw_325 tw_322 tw_22 (by decide +kernel) rfl rfl ⟨Nat.le_of_ble_eq_true rfl, Nat.le_of_ble_eq_true rfl⟩), hts _ tw_324, hts _ tw_13⟩ (kx_preV hN hK hP hD rfl f_33) rfl rfl hl.1 rfl (lv_room (Nat.le_of_ble_eq_true rfl)) dX3_leave_120 ⟨Nat.le_of_ble_eq_true rfl, Nat.le_of_ble_eq_true rfl⟩) hD hS hA (fun r_35 u_36 H locs hp_34 hP hD hS => ?_)
              obtain ⟨er, ⟨me9, mw9, hat, hki, hko⟩, hq9⟩ := hp_34
              subst er
              exact kx_iret (v := nI (lv_c S (mc i))) hx hb hr rfl hlocks hK hP hD hS dX3_leave_123 (⟨Or.inl ⟨t, i, S, h8t, h8i, hSS, e_x, e_y, e_z, rfl, me9, mw9, _, _, mn9, hat, by rw [← eSJ]; exact hn_mn9, fun e he hS => by
                      have h1 := hki (lv_c S e) (lv_c_lt he hS)
                      have h2 := md_at (P := (fun e => mn9 (mA me i e))) (Q := (fun e => mn9 (mB me i e))) (d := mm) he hS
                      rw [h2.1, h2.2] at h1
                      exact ⟨h1.1, h1.2.1⟩, fun j hj => (hki j hj).2.2, hko⟩, kx_fr_tr hfr hq9⟩)
            · skip
              have hik : e9 < mc i := by
                rcases Nat.lt_or_ge (e9) (mc i) with h | h
                · exact h
                · exact absurd ((nI_leI (by omega) (by omega)).mpr h) c_50
              refine lv_iload_n hx hb dX3_leave_53 rfl (lv_at hl 4 rfl) ?_
              refine lv_iload hx hb dX3_leave_54 (lv_at hl 0 rfl) ?_
              refine lv_ishr hx hb dX3_leave_56 ?_
              refine lv_iconst (v := 1) hx hb dX3_leave_57 (by decide +kernel) ?_
              refine lv_iand hx hb dX3_leave_58 ?_
              refine lv_topi (fun z_37 ez_37 => ?_)
              have ez_37 : z_37 = nI (if S.testBit e9 = true then 1 else 0) := by rw [ez_37]; exact kb_has (by omega) (by omega)
              subst ez_37
              refine lv_if_ne (tgt := 106) hx hb dX3_leave_59 (by decide) (fun c_59 => ?_) (fun c_59 => ?_)
              · skip
                have hS1 : S.testBit e9 = true := by
                  cases hq9 : S.testBit e9 with
                  | true => rfl
                  | false => exact absurd ((kb_bool _).mpr hq9) c_59
                have f_38 : w1[q + 6]? = some (am 6, .inl (k0 0, 24, .inl (fun y9 => nI ((md_d S (fun e => mn9 (mA me i e)) (fun e => mn9 (mB me i e)) mm (e9 + 1)) y9)))) := by rw [md_in hS1]; exact F42_6
                have f_39 : w1[q]? = some (am 0, .inr (3, [.ref (am 1), .ref (am 2), .ref (am 3), .ref (am 4), .ref (am 5), .ref (am 6), .int (nI (lv_c S (e9 + 1))), .ref (am 7), .ref (am 8), .ref (am 9)])) := by rw [lv_c_in hS1]; exact F42_0
                refine lv_iinc (v := nI (e9 + 1)) (lv' := [(5, .int (nI (e9 + 1))), (0, .ref (am 0)), (1, .int (nI t)), (2, .int (nI i)), (3, .int (nI S)), (4, .int jn9)]) hx hb dX3_leave_106 hl (k := 0) rfl (nI_1 _) (by decide) rfl (fun ls hl => ?_)
                refine lv_goto (tgt := 42) hx hb dX3_leave_109 (by decide) ?_
                exact ih42 (e9 + 1) (by omega) (by omega) w1 f_39 F42_1 F42_2 F42_3 F42_4 F42_5 f_38 F42_7 F42_8 F42_9 hfr _ _ hP hD hS _ (lv_sub hl [0, 1, 2, 3, 4, 5] rfl)
              · skip
                have hS1 : S.testBit e9 = false := (kb_bool _).mp c_59
                refine lv_aload_n hx hb dX3_leave_62 rfl (lv_at hl 1 rfl) ?_
                refine lv_aload_n hx hb dX3_leave_63 rfl (lv_at hl 1 rfl) ?_
                refine va_get (D := D) (ci := 3) (v := .ref (am 7)) (C := RX3) (T := TX3) (N := 10) hx hb hts inX3 hown hK hP q F42_0 rfl 7 (by decide) (hts _ tw_257) (fun _ h9 => h9) rfl dX3_leave_64 ?_
                refine lv_aload_n hx hb dX3_leave_67 rfl (lv_at hl 1 rfl) ?_
                refine va_get (D := D) (ci := 3) (v := .ref (am 4)) (C := RX3) (T := TX3) (N := 10) hx hb hts inX3 hown hK hP q F42_0 rfl 3 (by decide) (hts _ tw_253) (fun _ h9 => h9) rfl dX3_leave_68 ?_
                refine lv_bipush (v := nI 24) hx hb dX3_leave_71 (by decide +kernel) ?_
                refine lv_iload_n hx hb dX3_leave_73 rfl (lv_at hl 3 rfl) ?_
                refine lv_imul hx hb dX3_leave_74 ?_
                refine lv_topi (fun z_40 ez_40 => ?_)
                have ez_40 : z_40 = nI (24 * i) := by rw [ez_40]; exact pk_mul _ _
                subst ez_40
                refine lv_iconst (v := nI 2) hx hb dX3_leave_75 (by decide +kernel) ?_
                refine lv_iload hx hb dX3_leave_76 (lv_at hl 0 rfl) ?_
                refine lv_imul hx hb dX3_leave_78 ?_
                refine lv_topi (fun z_41 ez_41 => ?_)
                have ez_41 : z_41 = nI (2 * e9) := by rw [ez_41]; exact pk_mul _ _
                subst ez_41
                refine lv_iadd hx hb dX3_leave_79 ?_
                refine lv_topi (fun z_42 ez_42 => ?_)
                have ez_42 : z_42 = nI (24 * i + 2 * e9) := by rw [ez_42]; exact nI_add _ _
                subst ez_42
                refine kx_nald hx hb hK hP (q + 4) F42_4 rfl (i := (24 * i + 2 * e9)) (by omega) (by decide) dX3_leave_80 ?_
                refine kx_nald hx hb hK hP (q + 7) F42_7 rfl (i := (me (24 * i + 2 * e9))) (by have := he2i e9 hik; omega) (by decide) dX3_leave_81 ?_
                refine lv_aload_n hx hb dX3_leave_82 rfl (lv_at hl 1 rfl) ?_
                refine va_get (D := D) (ci := 3) (v := .ref (am 7)) (C := RX3) (T := TX3) (N := 10) hx hb hts inX3 hown hK hP q F42_0 rfl 7 (by decide) (hts _ tw_257) (fun _ h9 => h9) rfl dX3_leave_83 ?_
                refine lv_aload_n hx hb dX3_leave_86 rfl (lv_at hl 1 rfl) ?_
                refine va_get (D := D) (ci := 3) (v := .ref (am 4)) (C := RX3) (T := TX3) (N := 10) hx hb hts inX3 hown hK hP q F42_0 rfl 3 (by decide) (hts _ tw_253) (fun _ h9 => h9) rfl dX3_leave_87 ?_
                refine lv_bipush (v := nI 24) hx hb dX3_leave_90 (by decide +kernel) ?_
                refine lv_iload_n hx hb dX3_leave_92 rfl (lv_at hl 3 rfl) ?_
                refine lv_imul hx hb dX3_leave_93 ?_
                refine lv_topi (fun z_43 ez_43 => ?_)
                have ez_43 : z_43 = nI (24 * i) := by rw [ez_43]; exact pk_mul _ _
                subst ez_43
                refine lv_iconst (v := nI 2) hx hb dX3_leave_94 (by decide +kernel) ?_
                refine lv_iload hx hb dX3_leave_95 (lv_at hl 0 rfl) ?_
                refine lv_imul hx hb dX3_leave_97 ?_
                refine lv_topi (fun z_44 ez_44 => ?_)
                have ez_44 : z_44 = nI (2 * e9) := by rw [ez_44]; exact pk_mul _ _
                subst ez_44
                refine lv_iadd hx hb dX3_leave_98 ?_
                refine lv_topi (fun z_45 ez_45 => ?_)
                have ez_45 : z_45 = nI (24 * i + 2 * e9) := by rw [ez_45]; exact nI_add _ _
                subst ez_45
                refine lv_iconst (v := nI 1) hx hb dX3_leave_99 (by decide +kernel) ?_
                refine lv_iadd hx hb dX3_leave_100 ?_
                refine lv_topi (fun z_46 ez_46 => ?_)
                have ez_46 : z_46 = nI (24 * i + 2 * e9 + 1) := by rw [ez_46]; exact nI_add _ _
                subst ez_46
                refine kx_nald hx hb hK hP (q + 4) F42_4 rfl (i := (24 * i + 2 * e9 + 1)) (by omega) (by decide) dX3_leave_101 ?_
                refine kx_nald hx hb hK hP (q + 7) F42_7 rfl (i := (me (24 * i + 2 * e9 + 1))) (by have := he2i e9 hik; omega) (by decide) dX3_leave_102 ?_
                refine kx_gov (va_runV (As := [.int (nI (mn9 (me (24 * i + 2 * e9)))), .int (nI (mn9 (me (24 * i + 2 * e9 + 1))))]) (rest := []) ⟨hx, hb, hml, hown, hts⟩ (m_lay l D k0 w1 _ q am mv mc mo me mw (md_d S (fun e => mn9 (mA me i e)) (fun e => mn9 (mB me i e)) mm e9) (lv_c S e9) mn9 fb sb ⟨F42_0, F42_1, F42_2, F42_3, F42_4, F42_5, F42_6, F42_7, F42_8, F42_9⟩ (mn9 (me (24 * i + 2 * e9))) (mn9 (me (24 * i + 2 * e9 + 1))) (by have := lv_c_le S e9; omega)) ⟨(kg_B (k := 2) hts tw_321 tw_318 tw_22 (by decide +kernel) rfl rfl ⟨Nat.le_of_ble_eq_true rfl, Nat.le_of_ble_eq_true rfl⟩), hts _ tw_320, hts _ tw_12⟩ (kx_preV hN hK hP hD rfl F42_0) rfl rfl hl.1 rfl (lv_room (Nat.le_of_ble_eq_true rfl)) dX3_leave_103 ⟨Nat.le_of_ble_eq_true rfl, Nat.le_of_ble_eq_true rfl⟩) hD hS hA (fun u_49 H locs hp_47 hP hD hS => ?_)
                obtain ⟨⟨hN0, _, _, _, _, _, hN6, _, _, _⟩, hq⟩ := hp_47
                have f_50 : u_49[q]? = some (am 0, .inr (3, [.ref (am 1), .ref (am 2), .ref (am 3), .ref (am 4), .ref (am 5), .ref (am 6), .int (nI (lv_c S e9 + 1)), .ref (am 7), .ref (am 8), .ref (am 9)])) := hN0
                have f_51 : u_49[q + 1]? = some (am 1, .inl (k0 0, 8, .inl (fun y9 => nI (mv y9)))) := by rw [hq _ (by omega)]; exact F42_1
                have f_52 : u_49[q + 2]? = some (am 2, .inl (k0 0, 8, .inl (fun y9 => nI (mc y9)))) := by rw [hq _ (by omega)]; exact F42_2
                have f_53 : u_49[q + 3]? = some (am 3, .inl (k0 2, 8, .inl (fun y9 => nI (mo y9)))) := by rw [hq _ (by omega)]; exact F42_3
                have f_54 : u_49[q + 4]? = some (am 4, .inl (k0 0, 192, .inl (fun y9 => nI (me y9)))) := by rw [hq _ (by omega)]; exact F42_4
                have f_55 : u_49[q + 5]? = some (am 5, .inl (k0 0, 96, .inl mw)) := by rw [hq _ (by omega)]; exact F42_5
                have f_56 : u_49[q + 6]? = some (am 6, .inl (k0 0, 24, .inl (fun y9 => nI ((fo_up (fo_up (md_d S (fun e => mn9 (mA me i e)) (fun e => mn9 (mB me i e)) mm e9) (2 * lv_c S e9) (mn9 (me (24 * i + 2 * e9)))) (2 * lv_c S e9 + 1) (mn9 (me (24 * i + 2 * e9 + 1)))) y9)))) := hN6
                have f_57 : u_49[q + 7]? = some (am 7, .inl (k0 0, 32, .inl (fun y9 => nI (mn9 y9)))) := by rw [hq _ (by omega)]; exact F42_7
                have f_58 : u_49[q + 8]? = some (am 8, .inl (k0 3, 4096, .inl (fun y9 => nI (fb y9)))) := by rw [hq _ (by omega)]; exact F42_8
                have f_59 : u_49[q + 9]? = some (am 9, .inl (k0 3, 4096, .inl (fun y9 => nI (sb y9)))) := by rw [hq _ (by omega)]; exact F42_9
                have hfr : kx_fr w0 u_49 (fun j => q ≤ j ∧ j < q + 10) := kx_fr_tr hfr (kx_fr_mono hq (fun j h => by omega))
                have f_60 : u_49[q + 6]? = some (am 6, .inl (k0 0, 24, .inl (fun y9 => nI ((md_d S (fun e => mn9 (mA me i e)) (fun e => mn9 (mB me i e)) mm (e9 + 1)) y9)))) := by rw [md_out hS1]; exact f_56
                have f_61 : u_49[q]? = some (am 0, .inr (3, [.ref (am 1), .ref (am 2), .ref (am 3), .ref (am 4), .ref (am 5), .ref (am 6), .int (nI (lv_c S (e9 + 1))), .ref (am 7), .ref (am 8), .ref (am 9)])) := by rw [lv_c_out hS1]; exact f_50
                refine lv_iinc (v := nI (e9 + 1)) (lv' := [(5, .int (nI (e9 + 1))), (0, .ref (am 0)), (1, .int (nI t)), (2, .int (nI i)), (3, .int (nI S)), (4, .int jn9)]) hx hb dX3_leave_106 hl (k := 0) rfl (nI_1 _) (by decide) rfl (fun ls hl => ?_)
                refine lv_goto (tgt := 42) hx hb dX3_leave_109 (by decide) ?_
                exact ih42 (e9 + 1) (by omega) (by omega) u_49 f_61 f_51 f_52 f_53 f_54 f_55 f_60 f_57 f_58 f_59 hfr _ _ hP hD hS _ (lv_sub hl [0, 1, 2, 3, 4, 5] rfl)
        exact loop_42 (mc i + 1) 0 (Nat.zero_le _) (by omega) w_21 f_22 f_23 f_24 f_25 f_26 f_27 f_28 f_29 f_30 f_31 hfr _ _ hP hD hS _ (lv_sub hl [0, 1, 2, 3, 4, 5] rfl)
      · skip
        refine lv_iload_n hx hb dX3_leave_25 rfl (lv_at hl 3 rfl) ?_
        refine lv_topi (fun z_62 ez_62 => ?_)
        have ez_62 : z_62 = nI SJ := by rw [ez_62]; rw [eSJ, if_neg c_22]
        subst ez_62
        refine lv_goto (tgt := 30) hx hb dX3_leave_26 (by decide) ?_
        refine kx_goi (va_runV (As := [.int (nI i), .int (nI SJ)]) (rest := []) ⟨hx, hb, hml, hown, hts⟩ (m_join l D k0 w0 _ q am mv mc mo me mw mm mk mn fb sb ⟨hM0, hM1, hM2, hM3, hM4, hM5, hM6, hM7, hM8, hM9⟩ hI i SJ h8i hSJb) ⟨(kg_B (k := 2) hts tw_317 tw_314 tw_22 (by decide +kernel) rfl rfl ⟨Nat.le_of_ble_eq_true rfl, Nat.le_of_ble_eq_true rfl⟩), hts _ tw_316, hts _ tw_11⟩ (kx_preV hN hK hP hD rfl hM0) rfl rfl hl.1 rfl (lv_room (Nat.le_of_ble_eq_true rfl)) dX3_leave_30 ⟨Nat.le_of_ble_eq_true rfl, Nat.le_of_ble_eq_true rfl⟩) hD hS hA (fun r_64 u_65 H locs hp_63 hP hD hS => ?_)
        obtain ⟨mn9, er_mn9, hn_mn9, hM79, hq⟩ := hp_63
        have f_66 : u_65[q]? = some (am 0, .inr (3, [.ref (am 1), .ref (am 2), .ref (am 3), .ref (am 4), .ref (am 5), .ref (am 6), .int (nI mk), .ref (am 7), .ref (am 8), .ref (am 9)])) := by rw [hq _ (by omega)]; exact hM0
        have f_67 : u_65[q + 1]? = some (am 1, .inl (k0 0, 8, .inl (fun y9 => nI (mv y9)))) := by rw [hq _ (by omega)]; exact hM1
        have f_68 : u_65[q + 2]? = some (am 2, .inl (k0 0, 8, .inl (fun y9 => nI (mc y9)))) := by rw [hq _ (by omega)]; exact hM2
        have f_69 : u_65[q + 3]? = some (am 3, .inl (k0 2, 8, .inl (fun y9 => nI (mo y9)))) := by rw [hq _ (by omega)]; exact hM3
        have f_70 : u_65[q + 4]? = some (am 4, .inl (k0 0, 192, .inl (fun y9 => nI (me y9)))) := by rw [hq _ (by omega)]; exact hM4
        have f_71 : u_65[q + 5]? = some (am 5, .inl (k0 0, 96, .inl mw)) := by rw [hq _ (by omega)]; exact hM5
        have f_72 : u_65[q + 6]? = some (am 6, .inl (k0 0, 24, .inl (fun y9 => nI (mm y9)))) := by rw [hq _ (by omega)]; exact hM6
        have f_73 : u_65[q + 7]? = some (am 7, .inl (k0 0, 32, .inl (fun y9 => nI (mn9 y9)))) := hM79
        have f_74 : u_65[q + 8]? = some (am 8, .inl (k0 3, 4096, .inl (fun y9 => nI (fb y9)))) := by rw [hq _ (by omega)]; exact hM8
        have f_75 : u_65[q + 9]? = some (am 9, .inl (k0 3, 4096, .inl (fun y9 => nI (sb y9)))) := by rw [hq _ (by omega)]; exact hM9
        have hfr : kx_fr w0 u_65 (fun j => q ≤ j ∧ j < q + 10) := kx_fr_tr hfr (kx_fr_mono hq (fun j h => by omega))
        subst er_mn9
        refine lv_pop hx hb dX3_leave_33 rfl ?_
        refine lv_aload_n hx hb dX3_leave_34 rfl (lv_at hl 0 rfl) ?_
        refine lv_iconst (v := nI 0) hx hb dX3_leave_35 (by decide +kernel) ?_
        refine va_put (D := D) (ci := 3) (v := .int (nI 0)) (ty := .int) (C := RX3) (T := TX3) (N := 10) hx hb hts inX3 tyX3 tyX3_ok nmX3 hown hK hP hD hS q f_66 rfl 6 (by decide) (hts _ tw_256) (fun _ h9 => h9) rfl (by decide +kernel) rfl rfl (Nat.le_of_ble_eq_true rfl) dX3_leave_36 (fun H locs hP hD hS => ?_)
        obtain ⟨w_76, ew_76⟩ : ∃ w, w = u_65.set q (am 0, .inr (3, [.ref (am 1), .ref (am 2), .ref (am 3), .ref (am 4), .ref (am 5), .ref (am 6), .int (nI 0), .ref (am 7), .ref (am 8), .ref (am 9)])) := ⟨_, rfl⟩
        have hP : va_P D vwCl w_76 H := by rw [ew_76]; exact hP
        have hD : va_D A w_76 := by rw [ew_76]; exact hD
        have f_77 : w_76[q]? = some (am 0, .inr (3, [.ref (am 1), .ref (am 2), .ref (am 3), .ref (am 4), .ref (am 5), .ref (am 6), .int (nI 0), .ref (am 7), .ref (am 8), .ref (am 9)])) := by rw [ew_76]; exact kx_set_self f_66
        have f_78 : w_76[q + 1]? = some (am 1, .inl (k0 0, 8, .inl (fun y9 => nI (mv y9)))) := by rw [ew_76]; exact kx_set_ne f_67 (by omega)
        have f_79 : w_76[q + 2]? = some (am 2, .inl (k0 0, 8, .inl (fun y9 => nI (mc y9)))) := by rw [ew_76]; exact kx_set_ne f_68 (by omega)
        have f_80 : w_76[q + 3]? = some (am 3, .inl (k0 2, 8, .inl (fun y9 => nI (mo y9)))) := by rw [ew_76]; exact kx_set_ne f_69 (by omega)
        have f_81 : w_76[q + 4]? = some (am 4, .inl (k0 0, 192, .inl (fun y9 => nI (me y9)))) := by rw [ew_76]; exact kx_set_ne f_70 (by omega)
        have f_82 : w_76[q + 5]? = some (am 5, .inl (k0 0, 96, .inl mw)) := by rw [ew_76]; exact kx_set_ne f_71 (by omega)
        have f_83 : w_76[q + 6]? = some (am 6, .inl (k0 0, 24, .inl (fun y9 => nI (mm y9)))) := by rw [ew_76]; exact kx_set_ne f_72 (by omega)
        have f_84 : w_76[q + 7]? = some (am 7, .inl (k0 0, 32, .inl (fun y9 => nI (mn9 y9)))) := by rw [ew_76]; exact kx_set_ne f_73 (by omega)
        have f_85 : w_76[q + 8]? = some (am 8, .inl (k0 3, 4096, .inl (fun y9 => nI (fb y9)))) := by rw [ew_76]; exact kx_set_ne f_74 (by omega)
        have f_86 : w_76[q + 9]? = some (am 9, .inl (k0 3, 4096, .inl (fun y9 => nI (sb y9)))) := by rw [ew_76]; exact kx_set_ne f_75 (by omega)
        have hfr : kx_fr w0 w_76 (fun j => q ≤ j ∧ j < q + 10) := kx_fr_tr hfr (by rw [ew_76]; exact kx_fr_set (by omega))
        refine lv_iconst (v := nI 0) hx hb dX3_leave_39 (by decide +kernel) ?_
        refine lv_istore (lv' := [(5, .int (nI 0)), (0, .ref (am 0)), (1, .int (nI t)), (2, .int (nI i)), (3, .int (nI S)), (4, .int jn9)]) hx hb dX3_leave_40 hl (by decide) rfl (fun ls hl => ?_)
        have loop_42 : ∀ (n42 : Nat) (e9 : Nat), (e9 ≤ mc i) → (mc i + 1 ≤ e9 + n42) → ∀ (w1 : va_W), w1[q]? = some (am 0, .inr (3, [.ref (am 1), .ref (am 2), .ref (am 3), .ref (am 4), .ref (am 5), .ref (am 6), .int (nI (lv_c S e9)), .ref (am 7), .ref (am 8), .ref (am 9)])) → w1[q + 1]? = some (am 1, .inl (k0 0, 8, .inl (fun y9 => nI (mv y9)))) → w1[q + 2]? = some (am 2, .inl (k0 0, 8, .inl (fun y9 => nI (mc y9)))) → w1[q + 3]? = some (am 3, .inl (k0 2, 8, .inl (fun y9 => nI (mo y9)))) → w1[q + 4]? = some (am 4, .inl (k0 0, 192, .inl (fun y9 => nI (me y9)))) → w1[q + 5]? = some (am 5, .inl (k0 0, 96, .inl mw)) → w1[q + 6]? = some (am 6, .inl (k0 0, 24, .inl (fun y9 => nI ((md_d S (fun e => mn9 (mA me i e)) (fun e => mn9 (mB me i e)) mm e9) y9)))) → w1[q + 7]? = some (am 7, .inl (k0 0, 32, .inl (fun y9 => nI (mn9 y9)))) → w1[q + 8]? = some (am 8, .inl (k0 3, 4096, .inl (fun y9 => nI (fb y9)))) → w1[q + 9]? = some (am 9, .inl (k0 3, 4096, .inl (fun y9 => nI (sb y9)))) → kx_fr w0 w1 (fun j => q ≤ j ∧ j < q + 10) → ∀ (H : Heap) (locs : List Loc), va_P D vwCl w1 H → va_D A w1 → va_S A s.heap H locs → ∀ (ls : Array Slot), lv_has ls 6 [(5, .int (nI e9)), (0, .ref (am 0)), (1, .int (nI t)), (2, .int (nI i)), (3, .int (nI S)), (4, .int jn9)] → W p l e ({ frames := 2, cells := 0, slots := 0, locals := 48 } : Room) s m ([.ref (am 0), .int x, .int y, .int z, .int jn9] : List Value).toArray below meth c H locs 0 0 (MQ below (va_Qi (fun (r : Int32) (u : va_W) => ((∃ t i S, t < 8 ∧ i < 8 ∧ S ≤ cf_full (mc i) ∧ x = nI t ∧ y = nI i ∧ z = nI S ∧ r = nI (lv_c S (mc i)) ∧ ∃ (me9 : Nat → Nat) (mw9 : Nat → Int32) (mm9 : Nat → Nat) (mk9 : Nat) (mn9 : Nat → Nat), atM u q k0 am (fo_up mv t (mv i)) (fo_up mc t (lv_c S (mc i))) (fo_up mo t 0) me9 mw9 mm9 mk9 mn9 fb sb ∧ (∀ v, v < 32 → mn9 v = (jn (mA me i) (mB me i) (if jn9 = 0 then 0 else S) (mc i)).1 v) ∧ (∀ e, e < mc i → S.testBit e = false → me9 (24 * t + 2 * lv_c S e) = mn9 (mA me i e) ∧ me9 (24 * t + 2 * lv_c S e + 1) = mn9 (mB me i e)) ∧ (∀ j, j < lv_c S (mc i) → mw9 (12 * t + j) = 0) ∧ (∀ k, k < 24 * t ∨ 24 * t + 24 ≤ k → me9 k = me k) ∧ (∀ k, k < 12 * t ∨ 12 * t + 12 ≤ k → mw9 k = mw k)) ∨ (¬ (∃ t i S, t < 8 ∧ i < 8 ∧ S ≤ cf_full (mc i) ∧ x = nI t ∧ y = nI i ∧ z = nI S) ∧ r = -1 ∧ u = w0)) ∧ kx_fr w0 u (fun j => q ≤ j ∧ j < q + 10)) (kx_B D (tyL k0) A) A) ([.ref (am 0), .int x, .int y, .int z, .int jn9] : List Value).toArray s 0 0 A) (F0 m 42 ls []) := by
          intro n42
          induction n42 with
          | zero =>
            intro e9 he hme
            exact absurd hme (by omega)
          | succ n42 ih42 =>
            intro e9 he hme w1 F42_0 F42_1 F42_2 F42_3 F42_4 F42_5 F42_6 F42_7 F42_8 F42_9 hfr H locs hP hD hS ls hl
            refine lv_iload hx hb dX3_leave_42 (lv_at hl 0 rfl) ?_
            refine lv_aload_n hx hb dX3_leave_44 rfl (lv_at hl 1 rfl) ?_
            refine va_get (D := D) (ci := 3) (v := .ref (am 2)) (C := RX3) (T := TX3) (N := 10) hx hb hts inX3 hown hK hP q F42_0 rfl 1 (by decide) (hts _ tw_251) (fun _ h9 => h9) rfl dX3_leave_45 ?_
            refine lv_iload_n hx hb dX3_leave_48 rfl (lv_at hl 3 rfl) ?_
            refine kx_nald hx hb hK hP (q + 2) F42_2 rfl (i := i) (by omega) (by decide) dX3_leave_49 ?_
            refine lv_icmp_ge (tgt := 112) hx hb dX3_leave_50 (by decide) (fun c_50 => ?_) (fun c_50 => ?_)
            · skip
              have hik : e9 = mc i := by
                have := (nI_leI (by omega) (by omega)).mp c_50
                omega
              have f_87 : w1[q + 6]? = some (am 6, .inl (k0 0, 24, .inl (fun y9 => nI ((md_d S (fun e => mn9 (mA me i e)) (fun e => mn9 (mB me i e)) mm (mc i)) y9)))) := by rw [← hik]; exact F42_6
              have f_88 : w1[q]? = some (am 0, .inr (3, [.ref (am 1), .ref (am 2), .ref (am 3), .ref (am 4), .ref (am 5), .ref (am 6), .int (nI (lv_c S (mc i))), .ref (am 7), .ref (am 8), .ref (am 9)])) := by rw [← hik]; exact F42_0
              refine lv_aload_n hx hb dX3_leave_112 rfl (lv_at hl 1 rfl) ?_
              refine lv_iload_n hx hb dX3_leave_113 rfl (lv_at hl 2 rfl) ?_
              refine lv_aload_n hx hb dX3_leave_114 rfl (lv_at hl 1 rfl) ?_
              refine va_get (D := D) (ci := 3) (v := .ref (am 1)) (C := RX3) (T := TX3) (N := 10) hx hb hts inX3 hown hK hP q f_88 rfl 0 (by decide) (hts _ tw_250) (fun _ h9 => h9) rfl dX3_leave_115 ?_
              refine lv_iload_n hx hb dX3_leave_118 rfl (lv_at hl 3 rfl) ?_
              refine kx_nald hx hb hK hP (q + 1) F42_1 rfl (i := i) (by omega) (by decide) dX3_leave_119 ?_
              refine kx_goi (va_runV (As := [.int (nI t), .int (nI (mv i))]) (rest := []) ⟨hx, hb, hml, hown, hts⟩ (m_keep l D k0 w1 _ q am mv mc mo me mw (md_d S (fun e => mn9 (mA me i e)) (fun e => mn9 (mB me i e)) mm (mc i)) (lv_c S (mc i)) mn9 fb sb ⟨f_88, F42_1, F42_2, F42_3, F42_4, F42_5, f_87, F42_7, F42_8, F42_9⟩ t (mv i) h8t (by have := lv_c_le S (mc i); omega)) ⟨(kg_B (k := 2) hts tw_325 tw_322 tw_22 (by decide +kernel) rfl rfl ⟨Nat.le_of_ble_eq_true rfl, Nat.le_of_ble_eq_true rfl⟩), hts _ tw_324, hts _ tw_13⟩ (kx_preV hN hK hP hD rfl f_88) rfl rfl hl.1 rfl (lv_room (Nat.le_of_ble_eq_true rfl)) dX3_leave_120 ⟨Nat.le_of_ble_eq_true rfl, Nat.le_of_ble_eq_true rfl⟩) hD hS hA (fun r_90 u_91 H locs hp_89 hP hD hS => ?_)
              obtain ⟨er, ⟨me9, mw9, hat, hki, hko⟩, hq9⟩ := hp_89
              subst er
              exact kx_iret (v := nI (lv_c S (mc i))) hx hb hr rfl hlocks hK hP hD hS dX3_leave_123 (⟨Or.inl ⟨t, i, S, h8t, h8i, hSS, e_x, e_y, e_z, rfl, me9, mw9, _, _, mn9, hat, by rw [← eSJ]; exact hn_mn9, fun e he hS => by
                      have h1 := hki (lv_c S e) (lv_c_lt he hS)
                      have h2 := md_at (P := (fun e => mn9 (mA me i e))) (Q := (fun e => mn9 (mB me i e))) (d := mm) he hS
                      rw [h2.1, h2.2] at h1
                      exact ⟨h1.1, h1.2.1⟩, fun j hj => (hki j hj).2.2, hko⟩, kx_fr_tr hfr hq9⟩)
            · skip
              have hik : e9 < mc i := by
                rcases Nat.lt_or_ge (e9) (mc i) with h | h
                · exact h
                · exact absurd ((nI_leI (by omega) (by omega)).mpr h) c_50
              refine lv_iload_n hx hb dX3_leave_53 rfl (lv_at hl 4 rfl) ?_
              refine lv_iload hx hb dX3_leave_54 (lv_at hl 0 rfl) ?_
              refine lv_ishr hx hb dX3_leave_56 ?_
              refine lv_iconst (v := 1) hx hb dX3_leave_57 (by decide +kernel) ?_
              refine lv_iand hx hb dX3_leave_58 ?_
              refine lv_topi (fun z_92 ez_92 => ?_)
              have ez_92 : z_92 = nI (if S.testBit e9 = true then 1 else 0) := by rw [ez_92]; exact kb_has (by omega) (by omega)
              subst ez_92
              refine lv_if_ne (tgt := 106) hx hb dX3_leave_59 (by decide) (fun c_59 => ?_) (fun c_59 => ?_)
              · skip
                have hS1 : S.testBit e9 = true := by
                  cases hq9 : S.testBit e9 with
                  | true => rfl
                  | false => exact absurd ((kb_bool _).mpr hq9) c_59
                have f_93 : w1[q + 6]? = some (am 6, .inl (k0 0, 24, .inl (fun y9 => nI ((md_d S (fun e => mn9 (mA me i e)) (fun e => mn9 (mB me i e)) mm (e9 + 1)) y9)))) := by rw [md_in hS1]; exact F42_6
                have f_94 : w1[q]? = some (am 0, .inr (3, [.ref (am 1), .ref (am 2), .ref (am 3), .ref (am 4), .ref (am 5), .ref (am 6), .int (nI (lv_c S (e9 + 1))), .ref (am 7), .ref (am 8), .ref (am 9)])) := by rw [lv_c_in hS1]; exact F42_0
                refine lv_iinc (v := nI (e9 + 1)) (lv' := [(5, .int (nI (e9 + 1))), (0, .ref (am 0)), (1, .int (nI t)), (2, .int (nI i)), (3, .int (nI S)), (4, .int jn9)]) hx hb dX3_leave_106 hl (k := 0) rfl (nI_1 _) (by decide) rfl (fun ls hl => ?_)
                refine lv_goto (tgt := 42) hx hb dX3_leave_109 (by decide) ?_
                exact ih42 (e9 + 1) (by omega) (by omega) w1 f_94 F42_1 F42_2 F42_3 F42_4 F42_5 f_93 F42_7 F42_8 F42_9 hfr _ _ hP hD hS _ (lv_sub hl [0, 1, 2, 3, 4, 5] rfl)
              · skip
                have hS1 : S.testBit e9 = false := (kb_bool _).mp c_59
                refine lv_aload_n hx hb dX3_leave_62 rfl (lv_at hl 1 rfl) ?_
                refine lv_aload_n hx hb dX3_leave_63 rfl (lv_at hl 1 rfl) ?_
                refine va_get (D := D) (ci := 3) (v := .ref (am 7)) (C := RX3) (T := TX3) (N := 10) hx hb hts inX3 hown hK hP q F42_0 rfl 7 (by decide) (hts _ tw_257) (fun _ h9 => h9) rfl dX3_leave_64 ?_
                refine lv_aload_n hx hb dX3_leave_67 rfl (lv_at hl 1 rfl) ?_
                refine va_get (D := D) (ci := 3) (v := .ref (am 4)) (C := RX3) (T := TX3) (N := 10) hx hb hts inX3 hown hK hP q F42_0 rfl 3 (by decide) (hts _ tw_253) (fun _ h9 => h9) rfl dX3_leave_68 ?_
                refine lv_bipush (v := nI 24) hx hb dX3_leave_71 (by decide +kernel) ?_
                refine lv_iload_n hx hb dX3_leave_73 rfl (lv_at hl 3 rfl) ?_
                refine lv_imul hx hb dX3_leave_74 ?_
                refine lv_topi (fun z_95 ez_95 => ?_)
                have ez_95 : z_95 = nI (24 * i) := by rw [ez_95]; exact pk_mul _ _
                subst ez_95
                refine lv_iconst (v := nI 2) hx hb dX3_leave_75 (by decide +kernel) ?_
                refine lv_iload hx hb dX3_leave_76 (lv_at hl 0 rfl) ?_
                refine lv_imul hx hb dX3_leave_78 ?_
                refine lv_topi (fun z_96 ez_96 => ?_)
                have ez_96 : z_96 = nI (2 * e9) := by rw [ez_96]; exact pk_mul _ _
                subst ez_96
                refine lv_iadd hx hb dX3_leave_79 ?_
                refine lv_topi (fun z_97 ez_97 => ?_)
                have ez_97 : z_97 = nI (24 * i + 2 * e9) := by rw [ez_97]; exact nI_add _ _
                subst ez_97
                refine kx_nald hx hb hK hP (q + 4) F42_4 rfl (i := (24 * i + 2 * e9)) (by omega) (by decide) dX3_leave_80 ?_
                refine kx_nald hx hb hK hP (q + 7) F42_7 rfl (i := (me (24 * i + 2 * e9))) (by have := he2i e9 hik; omega) (by decide) dX3_leave_81 ?_
                refine lv_aload_n hx hb dX3_leave_82 rfl (lv_at hl 1 rfl) ?_
                refine va_get (D := D) (ci := 3) (v := .ref (am 7)) (C := RX3) (T := TX3) (N := 10) hx hb hts inX3 hown hK hP q F42_0 rfl 7 (by decide) (hts _ tw_257) (fun _ h9 => h9) rfl dX3_leave_83 ?_
                refine lv_aload_n hx hb dX3_leave_86 rfl (lv_at hl 1 rfl) ?_
                refine va_get (D := D) (ci := 3) (v := .ref (am 4)) (C := RX3) (T := TX3) (N := 10) hx hb hts inX3 hown hK hP q F42_0 rfl 3 (by decide) (hts _ tw_253) (fun _ h9 => h9) rfl dX3_leave_87 ?_
                refine lv_bipush (v := nI 24) hx hb dX3_leave_90 (by decide +kernel) ?_
                refine lv_iload_n hx hb dX3_leave_92 rfl (lv_at hl 3 rfl) ?_
                refine lv_imul hx hb dX3_leave_93 ?_
                refine lv_topi (fun z_98 ez_98 => ?_)
                have ez_98 : z_98 = nI (24 * i) := by rw [ez_98]; exact pk_mul _ _
                subst ez_98
                refine lv_iconst (v := nI 2) hx hb dX3_leave_94 (by decide +kernel) ?_
                refine lv_iload hx hb dX3_leave_95 (lv_at hl 0 rfl) ?_
                refine lv_imul hx hb dX3_leave_97 ?_
                refine lv_topi (fun z_99 ez_99 => ?_)
                have ez_99 : z_99 = nI (2 * e9) := by rw [ez_99]; exact pk_mul _ _
                subst ez_99
                refine lv_iadd hx hb dX3_leave_98 ?_
                refine lv_topi (fun z_100 ez_100 => ?_)
                have ez_100 : z_100 = nI (24 * i + 2 * e9) := by rw [ez_100]; exact nI_add _ _
                subst ez_100
                refine lv_iconst (v := nI 1) hx hb dX3_leave_99 (by decide +kernel) ?_
                refine lv_iadd hx hb dX3_leave_100 ?_
                refine lv_topi (fun z_101 ez_101 => ?_)
                have ez_101 : z_101 = nI (24 * i + 2 * e9 + 1) := by rw [ez_101]; exact nI_add _ _
                subst ez_101
                refine kx_nald hx hb hK hP (q + 4) F42_4 rfl (i := (24 * i + 2 * e9 + 1)) (by omega) (by decide) dX3_leave_101 ?_
                refine kx_nald hx hb hK hP (q + 7) F42_7 rfl (i := (me (24 * i + 2 * e9 + 1))) (by have := he2i e9 hik; omega) (by decide) dX3_leave_102 ?_
                refine kx_gov (va_runV (As := [.int (nI (mn9 (me (24 * i + 2 * e9)))), .int (nI (mn9 (me (24 * i + 2 * e9 + 1))))]) (rest := []) ⟨hx, hb, hml, hown, hts⟩ (m_lay l D k0 w1 _ q am mv mc mo me mw (md_d S (fun e => mn9 (mA me i e)) (fun e => mn9 (mB me i e)) mm e9) (lv_c S e9) mn9 fb sb ⟨F42_0, F42_1, F42_2, F42_3, F42_4, F42_5, F42_6, F42_7, F42_8, F42_9⟩ (mn9 (me (24 * i + 2 * e9))) (mn9 (me (24 * i + 2 * e9 + 1))) (by have := lv_c_le S e9; omega)) ⟨(kg_B (k := 2) hts tw_321 tw_318 tw_22 (by decide +kernel) rfl rfl ⟨Nat.le_of_ble_eq_true rfl, Nat.le_of_ble_eq_true rfl⟩), hts _ tw_320, hts _ tw_12⟩ (kx_preV hN hK hP hD rfl F42_0) rfl rfl hl.1 rfl (lv_room (Nat.le_of_ble_eq_true rfl)) dX3_leave_103 ⟨Nat.le_of_ble_eq_true rfl, Nat.le_of_ble_eq_true rfl⟩) hD hS hA (fun u_104 H locs hp_102 hP hD hS => ?_)
                obtain ⟨⟨hN0, _, _, _, _, _, hN6, _, _, _⟩, hq⟩ := hp_102
                have f_105 : u_104[q]? = some (am 0, .inr (3, [.ref (am 1), .ref (am 2), .ref (am 3), .ref (am 4), .ref (am 5), .ref (am 6), .int (nI (lv_c S e9 + 1)), .ref (am 7), .ref (am 8), .ref (am 9)])) := hN0
                have f_106 : u_104[q + 1]? = some (am 1, .inl (k0 0, 8, .inl (fun y9 => nI (mv y9)))) := by rw [hq _ (by omega)]; exact F42_1
                have f_107 : u_104[q + 2]? = some (am 2, .inl (k0 0, 8, .inl (fun y9 => nI (mc y9)))) := by rw [hq _ (by omega)]; exact F42_2
                have f_108 : u_104[q + 3]? = some (am 3, .inl (k0 2, 8, .inl (fun y9 => nI (mo y9)))) := by rw [hq _ (by omega)]; exact F42_3
                have f_109 : u_104[q + 4]? = some (am 4, .inl (k0 0, 192, .inl (fun y9 => nI (me y9)))) := by rw [hq _ (by omega)]; exact F42_4
                have f_110 : u_104[q + 5]? = some (am 5, .inl (k0 0, 96, .inl mw)) := by rw [hq _ (by omega)]; exact F42_5
                have f_111 : u_104[q + 6]? = some (am 6, .inl (k0 0, 24, .inl (fun y9 => nI ((fo_up (fo_up (md_d S (fun e => mn9 (mA me i e)) (fun e => mn9 (mB me i e)) mm e9) (2 * lv_c S e9) (mn9 (me (24 * i + 2 * e9)))) (2 * lv_c S e9 + 1) (mn9 (me (24 * i + 2 * e9 + 1)))) y9)))) := hN6
                have f_112 : u_104[q + 7]? = some (am 7, .inl (k0 0, 32, .inl (fun y9 => nI (mn9 y9)))) := by rw [hq _ (by omega)]; exact F42_7
                have f_113 : u_104[q + 8]? = some (am 8, .inl (k0 3, 4096, .inl (fun y9 => nI (fb y9)))) := by rw [hq _ (by omega)]; exact F42_8
                have f_114 : u_104[q + 9]? = some (am 9, .inl (k0 3, 4096, .inl (fun y9 => nI (sb y9)))) := by rw [hq _ (by omega)]; exact F42_9
                have hfr : kx_fr w0 u_104 (fun j => q ≤ j ∧ j < q + 10) := kx_fr_tr hfr (kx_fr_mono hq (fun j h => by omega))
                have f_115 : u_104[q + 6]? = some (am 6, .inl (k0 0, 24, .inl (fun y9 => nI ((md_d S (fun e => mn9 (mA me i e)) (fun e => mn9 (mB me i e)) mm (e9 + 1)) y9)))) := by rw [md_out hS1]; exact f_111
                have f_116 : u_104[q]? = some (am 0, .inr (3, [.ref (am 1), .ref (am 2), .ref (am 3), .ref (am 4), .ref (am 5), .ref (am 6), .int (nI (lv_c S (e9 + 1))), .ref (am 7), .ref (am 8), .ref (am 9)])) := by rw [lv_c_out hS1]; exact f_105
                refine lv_iinc (v := nI (e9 + 1)) (lv' := [(5, .int (nI (e9 + 1))), (0, .ref (am 0)), (1, .int (nI t)), (2, .int (nI i)), (3, .int (nI S)), (4, .int jn9)]) hx hb dX3_leave_106 hl (k := 0) rfl (nI_1 _) (by decide) rfl (fun ls hl => ?_)
                refine lv_goto (tgt := 42) hx hb dX3_leave_109 (by decide) ?_
                exact ih42 (e9 + 1) (by omega) (by omega) u_104 f_116 f_106 f_107 f_108 f_109 f_110 f_115 f_112 f_113 f_114 hfr _ _ hP hD hS _ (lv_sub hl [0, 1, 2, 3, 4, 5] rfl)
        exact loop_42 (mc i + 1) 0 (Nat.zero_le _) (by omega) w_76 f_77 f_78 f_79 f_80 f_81 f_82 f_83 f_84 f_85 f_86 hfr _ _ hP hD hS _ (lv_sub hl [0, 1, 2, 3, 4, 5] rfl)
    · skip
      have hno0 := kg_0 hy_ c_13
      have hno : ¬ (∃ t i S, t < 8 ∧ i < 8 ∧ S ≤ cf_full (mc i) ∧ x = nI t ∧ y = nI i ∧ z = nI S) := fun ⟨_, i, S, _, h1, h2, _, h3, h4⟩ => hno0 ⟨i, S, h1, h2, h3, h4⟩
      refine lv_iconst (v := -1) hx hb dX3_leave_16 (by decide +kernel) ?_
      exact kx_iret (v := -1) hx hb hr rfl hlocks hK hP hD hS dX3_leave_17 (⟨Or.inr ⟨hno, rfl, rfl⟩, kx_fr_rf _ _⟩)

set_option maxHeartbeats 4000000 in
set_option maxRecDepth 100000 in
/-- the model: number -/
theorem m_number (l : Launch) (D : va_G) (k0 : Nat → ClassId)  (w0 : va_W) (sz : Nat) (q : Nat) (am mv mc mo me : Nat → Nat) (mw : Nat → Int32) (mm : Nat → Nat) (mk : Nat) (mn fb sb : Nat → Nat) (hM : atM w0 q k0 am mv mc mo me mw mm mk mn fb sb) (hI : minv mv mc mo me mw) (i fr : Nat) (h8i : i < 8) (hmk : mk + mc i ≤ 12) (hfr9 : fr ≤ 24) : kx_i l yX3_number wsX3_number ({ frames := 1, cells := 0, slots := 0, locals := 24 } : Room) D (tyL k0) w0 sz [.ref (am 0), .int (nI i), .int (nI fr)] (fun (r : Int32) (u : va_W) => ∃ (mn9 : Nat → Nat) (c9 : Nat), r = nI c9 ∧ nu_ok (mE me i) mn9 (2 * mc i) fr c9 ∧ atM u q k0 am mv mc mo me mw (nm_d mn9 mm mk (mc i)) (mk + mc i) mn9 fb sb ∧ kx_fr w0 u (fun j => j = q ∨ j = q + 6 ∨ j = q + 7)) 0 0 := by
  refine kx_of (Qf := fun A => va_Qi (fun (r : Int32) (u : va_W) => ∃ (mn9 : Nat → Nat) (c9 : Nat), r = nI c9 ∧ nu_ok (mE me i) mn9 (2 * mc i) fr c9 ∧ atM u q k0 am mv mc mo me mw (nm_d mn9 mm mk (mc i)) (mk + mc i) mn9 fb sb ∧ kx_fr w0 u (fun j => j = q ∨ j = q + 6 ∨ j = q + 7)) (kx_B D (tyL k0) A) A) (cc := cX3_number) (maxL := 6) (ret := (some .int)) (by decide +kernel) (Nat.le_of_ble_eq_true rfl) ?_
  intro p e s m below meth c A ls hx hb hml hown hts hr hlocks hnm hN hK hP hD hS hA hl
  have hown : s.vm.findClass RX3 = some m.cls := hown
  have hl : lv_has ls 6 [(0, .ref (am 0)), (1, .int (nI i)), (2, .int (nI fr))] := hl
  have hfr : kx_fr w0 w0 (fun j => j = q ∨ j = q + 6 ∨ j = q + 7) := kx_fr_rf _ _
  obtain ⟨hM0, hM1, hM2, hM3, hM4, hM5, hM6, hM7, hM8, hM9⟩ := id hM
  obtain ⟨hni, hvi, hoi, he2i, hw2i⟩ := hI i h8i
  refine lv_iload_n hx hb dX3_number_0 rfl (lv_at hl 2 rfl) ?_
  refine lv_istore_n (lv' := [(3, .int (nI fr)), (0, .ref (am 0)), (1, .int (nI i)), (2, .int (nI fr))]) hx hb dX3_number_1 rfl hl (by decide) rfl (fun ls hl => ?_)
  refine lv_iconst (v := nI 0) hx hb dX3_number_2 (by decide +kernel) ?_
  refine lv_istore (lv' := [(4, .int (nI 0)), (3, .int (nI fr)), (0, .ref (am 0)), (1, .int (nI i)), (2, .int (nI fr))]) hx hb dX3_number_3 hl (by decide) rfl (fun ls hl => ?_)
  have loop_5 : ∀ (n5 : Nat) (k9 : Nat) (c9 : Nat) (mn1 : Nat → Nat), (k9 ≤ 2 * mc i) → (nu_ok (mE me i) mn1 k9 fr c9) → (2 * mc i + 1 ≤ k9 + n5) → ∀ (w1 : va_W), w1[q]? = some (am 0, .inr (3, [.ref (am 1), .ref (am 2), .ref (am 3), .ref (am 4), .ref (am 5), .ref (am 6), .int (nI mk), .ref (am 7), .ref (am 8), .ref (am 9)])) → w1[q + 1]? = some (am 1, .inl (k0 0, 8, .inl (fun y9 => nI (mv y9)))) → w1[q + 2]? = some (am 2, .inl (k0 0, 8, .inl (fun y9 => nI (mc y9)))) → w1[q + 3]? = some (am 3, .inl (k0 2, 8, .inl (fun y9 => nI (mo y9)))) → w1[q + 4]? = some (am 4, .inl (k0 0, 192, .inl (fun y9 => nI (me y9)))) → w1[q + 5]? = some (am 5, .inl (k0 0, 96, .inl mw)) → w1[q + 6]? = some (am 6, .inl (k0 0, 24, .inl (fun y9 => nI (mm y9)))) → w1[q + 7]? = some (am 7, .inl (k0 0, 32, .inl (fun y9 => nI (mn1 y9)))) → w1[q + 8]? = some (am 8, .inl (k0 3, 4096, .inl (fun y9 => nI (fb y9)))) → w1[q + 9]? = some (am 9, .inl (k0 3, 4096, .inl (fun y9 => nI (sb y9)))) → kx_fr w0 w1 (fun j => j = q ∨ j = q + 6 ∨ j = q + 7) → ∀ (H : Heap) (locs : List Loc), va_P D vwCl w1 H → va_D A w1 → va_S A s.heap H locs → ∀ (ls : Array Slot), lv_has ls 6 [(4, .int (nI k9)), (3, .int (nI c9)), (0, .ref (am 0)), (1, .int (nI i)), (2, .int (nI fr))] → W p l e ({ frames := 1, cells := 0, slots := 0, locals := 24 } : Room) s m ([.ref (am 0), .int (nI i), .int (nI fr)] : List Value).toArray below meth c H locs 0 0 (MQ below (va_Qi (fun (r : Int32) (u : va_W) => ∃ (mn9 : Nat → Nat) (c9 : Nat), r = nI c9 ∧ nu_ok (mE me i) mn9 (2 * mc i) fr c9 ∧ atM u q k0 am mv mc mo me mw (nm_d mn9 mm mk (mc i)) (mk + mc i) mn9 fb sb ∧ kx_fr w0 u (fun j => j = q ∨ j = q + 6 ∨ j = q + 7)) (kx_B D (tyL k0) A) A) ([.ref (am 0), .int (nI i), .int (nI fr)] : List Value).toArray s 0 0 A) (F0 m 5 ls []) := by
    intro n5
    induction n5 with
    | zero =>
      intro k9 c9 mn1 hk9 hnu hme
      exact absurd hme (by omega)
    | succ n5 ih5 =>
      intro k9 c9 mn1 hk9 hnu hme w1 F5_0 F5_1 F5_2 F5_3 F5_4 F5_5 F5_6 F5_7 F5_8 F5_9 hfr H locs hP hD hS ls hl
      refine lv_iload hx hb dX3_number_5 (lv_at hl 0 rfl) ?_
      refine lv_iconst (v := nI 2) hx hb dX3_number_7 (by decide +kernel) ?_
      refine lv_aload_n hx hb dX3_number_8 rfl (lv_at hl 2 rfl) ?_
      refine va_get (D := D) (ci := 3) (v := .ref (am 2)) (C := RX3) (T := TX3) (N := 10) hx hb hts inX3 hown hK hP q F5_0 rfl 1 (by decide) (hts _ tw_251) (fun _ h9 => h9) rfl dX3_number_9 ?_
      refine lv_iload_n hx hb dX3_number_12 rfl (lv_at hl 3 rfl) ?_
      refine kx_nald hx hb hK hP (q + 2) F5_2 rfl (i := i) (by omega) (by decide) dX3_number_13 ?_
      refine lv_imul hx hb dX3_number_14 ?_
      refine lv_topi (fun z_1 ez_1 => ?_)
      have ez_1 : z_1 = nI (2 * mc i) := by rw [ez_1]; exact pk_mul _ _
      subst ez_1
      refine lv_icmp_ge (tgt := 100) hx hb dX3_number_15 (by decide) (fun c_15 => ?_) (fun c_15 => ?_)
      · skip
        have hik : k9 = 2 * mc i := by
          have := (nI_leI (by omega) (by omega)).mp c_15
          omega
        rw [hik] at hnu
        refine lv_iconst (v := nI 0) hx hb dX3_number_100 (by decide +kernel) ?_
        refine lv_istore (lv' := [(4, .int (nI 0)), (3, .int (nI c9)), (0, .ref (am 0)), (1, .int (nI i)), (2, .int (nI fr))]) hx hb dX3_number_101 hl (by decide) rfl (fun ls hl => ?_)
        have loop_103 : ∀ (n103 : Nat) (e9 : Nat), (e9 ≤ mc i) → (mc i + 1 ≤ e9 + n103) → ∀ (w2 : va_W), w2[q]? = some (am 0, .inr (3, [.ref (am 1), .ref (am 2), .ref (am 3), .ref (am 4), .ref (am 5), .ref (am 6), .int (nI (mk + e9)), .ref (am 7), .ref (am 8), .ref (am 9)])) → w2[q + 1]? = some (am 1, .inl (k0 0, 8, .inl (fun y9 => nI (mv y9)))) → w2[q + 2]? = some (am 2, .inl (k0 0, 8, .inl (fun y9 => nI (mc y9)))) → w2[q + 3]? = some (am 3, .inl (k0 2, 8, .inl (fun y9 => nI (mo y9)))) → w2[q + 4]? = some (am 4, .inl (k0 0, 192, .inl (fun y9 => nI (me y9)))) → w2[q + 5]? = some (am 5, .inl (k0 0, 96, .inl mw)) → w2[q + 6]? = some (am 6, .inl (k0 0, 24, .inl (fun y9 => nI ((nm_d mn1 mm mk e9) y9)))) → w2[q + 7]? = some (am 7, .inl (k0 0, 32, .inl (fun y9 => nI (mn1 y9)))) → w2[q + 8]? = some (am 8, .inl (k0 3, 4096, .inl (fun y9 => nI (fb y9)))) → w2[q + 9]? = some (am 9, .inl (k0 3, 4096, .inl (fun y9 => nI (sb y9)))) → kx_fr w0 w2 (fun j => j = q ∨ j = q + 6 ∨ j = q + 7) → ∀ (H : Heap) (locs : List Loc), va_P D vwCl w2 H → va_D A w2 → va_S A s.heap H locs → ∀ (ls : Array Slot), lv_has ls 6 [(4, .int (nI e9)), (3, .int (nI c9)), (0, .ref (am 0)), (1, .int (nI i)), (2, .int (nI fr))] → W p l e ({ frames := 1, cells := 0, slots := 0, locals := 24 } : Room) s m ([.ref (am 0), .int (nI i), .int (nI fr)] : List Value).toArray below meth c H locs 0 0 (MQ below (va_Qi (fun (r : Int32) (u : va_W) => ∃ (mn9 : Nat → Nat) (c9 : Nat), r = nI c9 ∧ nu_ok (mE me i) mn9 (2 * mc i) fr c9 ∧ atM u q k0 am mv mc mo me mw (nm_d mn9 mm mk (mc i)) (mk + mc i) mn9 fb sb ∧ kx_fr w0 u (fun j => j = q ∨ j = q + 6 ∨ j = q + 7)) (kx_B D (tyL k0) A) A) ([.ref (am 0), .int (nI i), .int (nI fr)] : List Value).toArray s 0 0 A) (F0 m 103 ls []) := by
          intro n103
          induction n103 with
          | zero =>
            intro e9 he hme
            exact absurd hme (by omega)
          | succ n103 ih103 =>
            intro e9 he hme w2 F103_0 F103_1 F103_2 F103_3 F103_4 F103_5 F103_6 F103_7 F103_8 F103_9 hfr H locs hP hD hS ls hl
            refine lv_iload hx hb dX3_number_103 (lv_at hl 0 rfl) ?_
            refine lv_aload_n hx hb dX3_number_105 rfl (lv_at hl 2 rfl) ?_
            refine va_get (D := D) (ci := 3) (v := .ref (am 2)) (C := RX3) (T := TX3) (N := 10) hx hb hts inX3 hown hK hP q F103_0 rfl 1 (by decide) (hts _ tw_251) (fun _ h9 => h9) rfl dX3_number_106 ?_
            refine lv_iload_n hx hb dX3_number_109 rfl (lv_at hl 3 rfl) ?_
            refine kx_nald hx hb hK hP (q + 2) F103_2 rfl (i := i) (by omega) (by decide) dX3_number_110 ?_
            refine lv_icmp_ge (tgt := 144) hx hb dX3_number_111 (by decide) (fun c_111 => ?_) (fun c_111 => ?_)
            · skip
              have hik2 : e9 = mc i := by
                have := (nI_leI (by omega) (by omega)).mp c_111
                omega
              have f_2 : w2[q + 6]? = some (am 6, .inl (k0 0, 24, .inl (fun y9 => nI ((nm_d mn1 mm mk (mc i)) y9)))) := by rw [← hik2]; exact F103_6
              have f_3 : w2[q]? = some (am 0, .inr (3, [.ref (am 1), .ref (am 2), .ref (am 3), .ref (am 4), .ref (am 5), .ref (am 6), .int (nI (mk + mc i)), .ref (am 7), .ref (am 8), .ref (am 9)])) := by rw [← hik2]; exact F103_0
              refine lv_iload_n hx hb dX3_number_144 rfl (lv_at hl 1 rfl) ?_
              exact kx_iret (v := nI c9) hx hb hr rfl hlocks hK hP hD hS dX3_number_145 (⟨mn1, c9, rfl, hnu, ⟨f_3, F103_1, F103_2, F103_3, F103_4, F103_5, f_2, F103_7, F103_8, F103_9⟩, hfr⟩)
            · skip
              have hik2 : e9 < mc i := by
                rcases Nat.lt_or_ge (e9) (mc i) with h | h
                · exact h
                · exact absurd ((nI_leI (by omega) (by omega)).mpr h) c_111
              refine lv_aload_n hx hb dX3_number_114 rfl (lv_at hl 2 rfl) ?_
              refine lv_aload_n hx hb dX3_number_115 rfl (lv_at hl 2 rfl) ?_
              refine va_get (D := D) (ci := 3) (v := .ref (am 7)) (C := RX3) (T := TX3) (N := 10) hx hb hts inX3 hown hK hP q F103_0 rfl 7 (by decide) (hts _ tw_257) (fun _ h9 => h9) rfl dX3_number_116 ?_
              refine lv_iconst (v := nI 2) hx hb dX3_number_119 (by decide +kernel) ?_
              refine lv_iload hx hb dX3_number_120 (lv_at hl 0 rfl) ?_
              refine lv_imul hx hb dX3_number_122 ?_
              refine lv_topi (fun z_4 ez_4 => ?_)
              have ez_4 : z_4 = nI (2 * e9) := by rw [ez_4]; exact pk_mul _ _
              subst ez_4
              refine kx_nald hx hb hK hP (q + 7) F103_7 rfl (i := (2 * e9)) (by omega) (by decide) dX3_number_123 ?_
              refine lv_aload_n hx hb dX3_number_124 rfl (lv_at hl 2 rfl) ?_
              refine va_get (D := D) (ci := 3) (v := .ref (am 7)) (C := RX3) (T := TX3) (N := 10) hx hb hts inX3 hown hK hP q F103_0 rfl 7 (by decide) (hts _ tw_257) (fun _ h9 => h9) rfl dX3_number_125 ?_
              refine lv_iconst (v := nI 2) hx hb dX3_number_128 (by decide +kernel) ?_
              refine lv_iload hx hb dX3_number_129 (lv_at hl 0 rfl) ?_
              refine lv_imul hx hb dX3_number_131 ?_
              refine lv_topi (fun z_5 ez_5 => ?_)
              have ez_5 : z_5 = nI (2 * e9) := by rw [ez_5]; exact pk_mul _ _
              subst ez_5
              refine lv_iconst (v := nI 1) hx hb dX3_number_132 (by decide +kernel) ?_
              refine lv_iadd hx hb dX3_number_133 ?_
              refine lv_topi (fun z_6 ez_6 => ?_)
              have ez_6 : z_6 = nI (2 * e9 + 1) := by rw [ez_6]; exact nI_add _ _
              subst ez_6
              refine kx_nald hx hb hK hP (q + 7) F103_7 rfl (i := (2 * e9 + 1)) (by omega) (by decide) dX3_number_134 ?_
              refine kx_gov (va_runV (As := [.int (nI (mn1 (2 * e9))), .int (nI (mn1 (2 * e9 + 1)))]) (rest := []) ⟨hx, hb, hml, hown, hts⟩ (m_lay l D k0 w2 _ q am mv mc mo me mw (nm_d mn1 mm mk e9) (mk + e9) mn1 fb sb ⟨F103_0, F103_1, F103_2, F103_3, F103_4, F103_5, F103_6, F103_7, F103_8, F103_9⟩ (mn1 (2 * e9)) (mn1 (2 * e9 + 1)) (by omega)) ⟨(kg_B (k := 2) hts tw_321 tw_318 tw_22 (by decide +kernel) rfl rfl ⟨Nat.le_of_ble_eq_true rfl, Nat.le_of_ble_eq_true rfl⟩), hts _ tw_320, hts _ tw_12⟩ (kx_preV hN hK hP hD rfl F103_0) rfl rfl hl.1 rfl (lv_room (Nat.le_of_ble_eq_true rfl)) dX3_number_135 ⟨Nat.le_of_ble_eq_true rfl, Nat.le_of_ble_eq_true rfl⟩) hD hS hA (fun u_9 H locs hp_7 hP hD hS => ?_)
              obtain ⟨⟨hN0, _, _, _, _, _, hN6, _, _, _⟩, hq⟩ := hp_7
              have f_10 : u_9[q]? = some (am 0, .inr (3, [.ref (am 1), .ref (am 2), .ref (am 3), .ref (am 4), .ref (am 5), .ref (am 6), .int (nI (mk + e9 + 1)), .ref (am 7), .ref (am 8), .ref (am 9)])) := hN0
              have f_11 : u_9[q + 1]? = some (am 1, .inl (k0 0, 8, .inl (fun y9 => nI (mv y9)))) := by rw [hq _ (by omega)]; exact F103_1
              have f_12 : u_9[q + 2]? = some (am 2, .inl (k0 0, 8, .inl (fun y9 => nI (mc y9)))) := by rw [hq _ (by omega)]; exact F103_2
              have f_13 : u_9[q + 3]? = some (am 3, .inl (k0 2, 8, .inl (fun y9 => nI (mo y9)))) := by rw [hq _ (by omega)]; exact F103_3
              have f_14 : u_9[q + 4]? = some (am 4, .inl (k0 0, 192, .inl (fun y9 => nI (me y9)))) := by rw [hq _ (by omega)]; exact F103_4
              have f_15 : u_9[q + 5]? = some (am 5, .inl (k0 0, 96, .inl mw)) := by rw [hq _ (by omega)]; exact F103_5
              have f_16 : u_9[q + 6]? = some (am 6, .inl (k0 0, 24, .inl (fun y9 => nI ((fo_up (fo_up (nm_d mn1 mm mk e9) (2 * (mk + e9)) (mn1 (2 * e9))) (2 * (mk + e9) + 1) (mn1 (2 * e9 + 1))) y9)))) := hN6
              have f_17 : u_9[q + 7]? = some (am 7, .inl (k0 0, 32, .inl (fun y9 => nI (mn1 y9)))) := by rw [hq _ (by omega)]; exact F103_7
              have f_18 : u_9[q + 8]? = some (am 8, .inl (k0 3, 4096, .inl (fun y9 => nI (fb y9)))) := by rw [hq _ (by omega)]; exact F103_8
              have f_19 : u_9[q + 9]? = some (am 9, .inl (k0 3, 4096, .inl (fun y9 => nI (sb y9)))) := by rw [hq _ (by omega)]; exact F103_9
              have hfr : kx_fr w0 u_9 (fun j => j = q ∨ j = q + 6 ∨ j = q + 7) := kx_fr_tr hfr (kx_fr_mono hq (fun j h => by omega))
              have f_20 : u_9[q + 6]? = some (am 6, .inl (k0 0, 24, .inl (fun y9 => nI ((nm_d mn1 mm mk (e9 + 1)) y9)))) := by skip; exact f_16
              have f_21 : u_9[q]? = some (am 0, .inr (3, [.ref (am 1), .ref (am 2), .ref (am 3), .ref (am 4), .ref (am 5), .ref (am 6), .int (nI (mk + (e9 + 1))), .ref (am 7), .ref (am 8), .ref (am 9)])) := by skip; exact f_10
              refine lv_iinc (v := nI (e9 + 1)) (lv' := [(4, .int (nI (e9 + 1))), (3, .int (nI c9)), (0, .ref (am 0)), (1, .int (nI i)), (2, .int (nI fr))]) hx hb dX3_number_138 hl (k := 0) rfl (nI_1 _) (by decide) rfl (fun ls hl => ?_)
              refine lv_goto (tgt := 103) hx hb dX3_number_141 (by decide) ?_
              exact ih103 (e9 + 1) (by omega) (by omega) u_9 f_21 f_11 f_12 f_13 f_14 f_15 f_20 f_17 f_18 f_19 hfr _ _ hP hD hS _ (lv_sub hl [0, 1, 2, 3, 4] rfl)
        exact loop_103 (mc i + 1) 0 (Nat.zero_le _) (by omega) w1 F5_0 F5_1 F5_2 F5_3 F5_4 F5_5 F5_6 F5_7 F5_8 F5_9 hfr _ _ hP hD hS _ (lv_sub hl [0, 1, 2, 3, 4] rfl)
      · skip
        have hik : k9 < 2 * mc i := by
          rcases Nat.lt_or_ge (k9) (2 * mc i) with h | h
          · exact h
          · exact absurd ((nI_leI (by omega) (by omega)).mpr h) c_15
        have hcb := hnu.2.2
        have hEk := mE_lt he2i hik
        refine lv_iconst (v := nI 0) hx hb dX3_number_18 (by decide +kernel) ?_
        refine lv_istore (lv' := [(5, .int (nI 0)), (4, .int (nI k9)), (3, .int (nI c9)), (0, .ref (am 0)), (1, .int (nI i)), (2, .int (nI fr))]) hx hb dX3_number_19 hl (by decide) rfl (fun ls hl => ?_)
        have loop_21 : ∀ (n21 : Nat) (a9 : Nat), (a9 ≤ k9) → (∀ j, j < a9 → mE me i j ≠ mE me i k9) → (k9 + 1 ≤ a9 + n21) → ∀ (H : Heap) (locs : List Loc), va_P D vwCl w1 H → va_D A w1 → va_S A s.heap H locs → ∀ (ls : Array Slot), lv_has ls 6 [(5, .int (nI a9)), (4, .int (nI k9)), (3, .int (nI c9)), (0, .ref (am 0)), (1, .int (nI i)), (2, .int (nI fr))] → W p l e ({ frames := 1, cells := 0, slots := 0, locals := 24 } : Room) s m ([.ref (am 0), .int (nI i), .int (nI fr)] : List Value).toArray below meth c H locs 0 0 (MQ below (va_Qi (fun (r : Int32) (u : va_W) => ∃ (mn9 : Nat → Nat) (c9 : Nat), r = nI c9 ∧ nu_ok (mE me i) mn9 (2 * mc i) fr c9 ∧ atM u q k0 am mv mc mo me mw (nm_d mn9 mm mk (mc i)) (mk + mc i) mn9 fb sb ∧ kx_fr w0 u (fun j => j = q ∨ j = q + 6 ∨ j = q + 7)) (kx_B D (tyL k0) A) A) ([.ref (am 0), .int (nI i), .int (nI fr)] : List Value).toArray s 0 0 A) (F0 m 21 ls []) := by
          intro n21
          induction n21 with
          | zero =>
            intro a9 hak9 ha9 hme
            exact absurd hme (by omega)
          | succ n21 ih21 =>
            intro a9 hak9 ha9 hme  H locs hP hD hS ls hl
            refine lv_aload_n hx hb dX3_number_21 rfl (lv_at hl 3 rfl) ?_
            refine va_get (D := D) (ci := 3) (v := .ref (am 4)) (C := RX3) (T := TX3) (N := 10) hx hb hts inX3 hown hK hP q F5_0 rfl 3 (by decide) (hts _ tw_253) (fun _ h9 => h9) rfl dX3_number_22 ?_
            refine lv_bipush (v := nI 24) hx hb dX3_number_25 (by decide +kernel) ?_
            refine lv_iload_n hx hb dX3_number_27 rfl (lv_at hl 4 rfl) ?_
            refine lv_imul hx hb dX3_number_28 ?_
            refine lv_topi (fun z_22 ez_22 => ?_)
            have ez_22 : z_22 = nI (24 * i) := by rw [ez_22]; exact pk_mul _ _
            subst ez_22
            refine lv_iload hx hb dX3_number_29 (lv_at hl 0 rfl) ?_
            refine lv_iadd hx hb dX3_number_31 ?_
            refine lv_topi (fun z_23 ez_23 => ?_)
            have ez_23 : z_23 = nI (24 * i + a9) := by rw [ez_23]; exact nI_add _ _
            subst ez_23
            refine kx_nald hx hb hK hP (q + 4) F5_4 rfl (i := (24 * i + a9)) (by omega) (by decide) dX3_number_32 ?_
            refine lv_aload_n hx hb dX3_number_33 rfl (lv_at hl 3 rfl) ?_
            refine va_get (D := D) (ci := 3) (v := .ref (am 4)) (C := RX3) (T := TX3) (N := 10) hx hb hts inX3 hown hK hP q F5_0 rfl 3 (by decide) (hts _ tw_253) (fun _ h9 => h9) rfl dX3_number_34 ?_
            refine lv_bipush (v := nI 24) hx hb dX3_number_37 (by decide +kernel) ?_
            refine lv_iload_n hx hb dX3_number_39 rfl (lv_at hl 4 rfl) ?_
            refine lv_imul hx hb dX3_number_40 ?_
            refine lv_topi (fun z_24 ez_24 => ?_)
            have ez_24 : z_24 = nI (24 * i) := by rw [ez_24]; exact pk_mul _ _
            subst ez_24
            refine lv_iload hx hb dX3_number_41 (lv_at hl 1 rfl) ?_
            refine lv_iadd hx hb dX3_number_43 ?_
            refine lv_topi (fun z_25 ez_25 => ?_)
            have ez_25 : z_25 = nI (24 * i + k9) := by rw [ez_25]; exact nI_add _ _
            subst ez_25
            refine kx_nald hx hb hK hP (q + 4) F5_4 rfl (i := (24 * i + k9)) (by omega) (by decide) dX3_number_44 ?_
            refine lv_icmp_eq (tgt := 54) hx hb dX3_number_45 (by decide) (fun c_45 => ?_) (fun c_45 => ?_)
            · skip
              have hEa : mE me i a9 = mE me i k9 := (nI_eq (by have := mE_lt he2i (j := a9) (by omega); unfold mE; omega) (by unfold mE; omega)).mp c_45
              refine lv_aload_n hx hb dX3_number_54 rfl (lv_at hl 3 rfl) ?_
              refine va_get (D := D) (ci := 3) (v := .ref (am 7)) (C := RX3) (T := TX3) (N := 10) hx hb hts inX3 hown hK hP q F5_0 rfl 7 (by decide) (hts _ tw_257) (fun _ h9 => h9) rfl dX3_number_55 ?_
              refine lv_iload hx hb dX3_number_58 (lv_at hl 1 rfl) ?_
              refine lv_iload hx hb dX3_number_60 (lv_at hl 0 rfl) ?_
              refine lv_iload hx hb dX3_number_62 (lv_at hl 1 rfl) ?_
              refine lv_icmp_ne (tgt := 71) hx hb dX3_number_64 (by decide) (fun c_64 => ?_) (fun c_64 => ?_)
              · skip
                have hak : a9 < k9 := by
                  rcases Nat.lt_or_ge a9 k9 with h | h
                  · exact h
                  · exact absurd (show nI a9 = nI k9 by rw [show a9 = k9 by omega]) c_64
                refine lv_aload_n hx hb dX3_number_71 rfl (lv_at hl 3 rfl) ?_
                refine va_get (D := D) (ci := 3) (v := .ref (am 7)) (C := RX3) (T := TX3) (N := 10) hx hb hts inX3 hown hK hP q F5_0 rfl 7 (by decide) (hts _ tw_257) (fun _ h9 => h9) rfl dX3_number_72 ?_
                refine lv_iload hx hb dX3_number_75 (lv_at hl 0 rfl) ?_
                refine kx_nald hx hb hK hP (q + 7) F5_7 rfl (i := a9) (by omega) (by decide) dX3_number_77 ?_
                refine kx_nast hx hb hK hP hD hS (q + 7) F5_7 rfl (i := k9) (x := (mn1 a9)) (by omega) (by decide) dX3_number_78 (fun H locs hP hD hS => ?_)
                obtain ⟨w_26, ew_26⟩ : ∃ w, w = w1.set (q + 7) (am 7, .inl (k0 0, 32, .inl (fun y9 => nI ((fo_up mn1 k9 (mn1 a9)) y9)))) := ⟨_, rfl⟩
                have hP : va_P D vwCl w_26 H := by rw [ew_26]; exact hP
                have hD : va_D A w_26 := by rw [ew_26]; exact hD
                have f_27 : w_26[q]? = some (am 0, .inr (3, [.ref (am 1), .ref (am 2), .ref (am 3), .ref (am 4), .ref (am 5), .ref (am 6), .int (nI mk), .ref (am 7), .ref (am 8), .ref (am 9)])) := by rw [ew_26]; exact kx_set_ne F5_0 (by omega)
                have f_28 : w_26[q + 1]? = some (am 1, .inl (k0 0, 8, .inl (fun y9 => nI (mv y9)))) := by rw [ew_26]; exact kx_set_ne F5_1 (by omega)
                have f_29 : w_26[q + 2]? = some (am 2, .inl (k0 0, 8, .inl (fun y9 => nI (mc y9)))) := by rw [ew_26]; exact kx_set_ne F5_2 (by omega)
                have f_30 : w_26[q + 3]? = some (am 3, .inl (k0 2, 8, .inl (fun y9 => nI (mo y9)))) := by rw [ew_26]; exact kx_set_ne F5_3 (by omega)
                have f_31 : w_26[q + 4]? = some (am 4, .inl (k0 0, 192, .inl (fun y9 => nI (me y9)))) := by rw [ew_26]; exact kx_set_ne F5_4 (by omega)
                have f_32 : w_26[q + 5]? = some (am 5, .inl (k0 0, 96, .inl mw)) := by rw [ew_26]; exact kx_set_ne F5_5 (by omega)
                have f_33 : w_26[q + 6]? = some (am 6, .inl (k0 0, 24, .inl (fun y9 => nI (mm y9)))) := by rw [ew_26]; exact kx_set_ne F5_6 (by omega)
                have f_34 : w_26[q + 7]? = some (am 7, .inl (k0 0, 32, .inl (fun y9 => nI ((fo_up mn1 k9 (mn1 a9)) y9)))) := by rw [ew_26]; exact kx_set_self F5_7
                have f_35 : w_26[q + 8]? = some (am 8, .inl (k0 3, 4096, .inl (fun y9 => nI (fb y9)))) := by rw [ew_26]; exact kx_set_ne F5_8 (by omega)
                have f_36 : w_26[q + 9]? = some (am 9, .inl (k0 3, 4096, .inl (fun y9 => nI (sb y9)))) := by rw [ew_26]; exact kx_set_ne F5_9 (by omega)
                have hfr : kx_fr w0 w_26 (fun j => j = q ∨ j = q + 6 ∨ j = q + 7) := kx_fr_tr hfr (by rw [ew_26]; exact kx_fr_set (by omega))
                refine lv_iload hx hb dX3_number_79 (lv_at hl 0 rfl) ?_
                refine lv_iload hx hb dX3_number_81 (lv_at hl 1 rfl) ?_
                refine lv_icmp_ne (tgt := 92) hx hb dX3_number_83 (by decide) (fun c_83 => ?_) (fun c_83 => ?_)
                · skip
                  refine lv_iload_n hx hb dX3_number_92 rfl (lv_at hl 2 rfl) ?_
                  refine lv_istore_n (lv' := [(3, .int (nI c9)), (5, .int (nI a9)), (4, .int (nI k9)), (0, .ref (am 0)), (1, .int (nI i)), (2, .int (nI fr))]) hx hb dX3_number_93 rfl hl (by decide) rfl (fun ls hl => ?_)
                  refine lv_iinc (v := nI (k9 + 1)) (lv' := [(4, .int (nI (k9 + 1))), (3, .int (nI c9)), (5, .int (nI a9)), (0, .ref (am 0)), (1, .int (nI i)), (2, .int (nI fr))]) hx hb dX3_number_94 hl (k := 2) rfl (nI_1 _) (by decide) rfl (fun ls hl => ?_)
                  refine lv_goto (tgt := 5) hx hb dX3_number_97 (by decide) ?_
                  exact ih5 (k9 + 1) c9 (fo_up mn1 k9 (mn1 a9)) (by omega) (nu_old hnu hak hEa) (by omega) w_26 f_27 f_28 f_29 f_30 f_31 f_32 f_33 f_34 f_35 f_36 hfr _ _ hP hD hS _ (lv_sub hl [0, 1, 3, 4, 5] rfl)
                · skip
                  exact absurd ((nI_eq (by omega) (by omega)).mp c_83) (by omega)
              · skip
                have hak : a9 = k9 := (nI_eq (by omega) (by omega)).mp c_64
                refine lv_iload_n hx hb dX3_number_67 rfl (lv_at hl 2 rfl) ?_
                refine lv_goto (tgt := 78) hx hb dX3_number_68 (by decide) ?_
                refine kx_nast hx hb hK hP hD hS (q + 7) F5_7 rfl (i := k9) (x := c9) (by omega) (by decide) dX3_number_78 (fun H locs hP hD hS => ?_)
                obtain ⟨w_37, ew_37⟩ : ∃ w, w = w1.set (q + 7) (am 7, .inl (k0 0, 32, .inl (fun y9 => nI ((fo_up mn1 k9 c9) y9)))) := ⟨_, rfl⟩
                have hP : va_P D vwCl w_37 H := by rw [ew_37]; exact hP
                have hD : va_D A w_37 := by rw [ew_37]; exact hD
                have f_38 : w_37[q]? = some (am 0, .inr (3, [.ref (am 1), .ref (am 2), .ref (am 3), .ref (am 4), .ref (am 5), .ref (am 6), .int (nI mk), .ref (am 7), .ref (am 8), .ref (am 9)])) := by rw [ew_37]; exact kx_set_ne F5_0 (by omega)
                have f_39 : w_37[q + 1]? = some (am 1, .inl (k0 0, 8, .inl (fun y9 => nI (mv y9)))) := by rw [ew_37]; exact kx_set_ne F5_1 (by omega)
                have f_40 : w_37[q + 2]? = some (am 2, .inl (k0 0, 8, .inl (fun y9 => nI (mc y9)))) := by rw [ew_37]; exact kx_set_ne F5_2 (by omega)
                have f_41 : w_37[q + 3]? = some (am 3, .inl (k0 2, 8, .inl (fun y9 => nI (mo y9)))) := by rw [ew_37]; exact kx_set_ne F5_3 (by omega)
                have f_42 : w_37[q + 4]? = some (am 4, .inl (k0 0, 192, .inl (fun y9 => nI (me y9)))) := by rw [ew_37]; exact kx_set_ne F5_4 (by omega)
                have f_43 : w_37[q + 5]? = some (am 5, .inl (k0 0, 96, .inl mw)) := by rw [ew_37]; exact kx_set_ne F5_5 (by omega)
                have f_44 : w_37[q + 6]? = some (am 6, .inl (k0 0, 24, .inl (fun y9 => nI (mm y9)))) := by rw [ew_37]; exact kx_set_ne F5_6 (by omega)
                have f_45 : w_37[q + 7]? = some (am 7, .inl (k0 0, 32, .inl (fun y9 => nI ((fo_up mn1 k9 c9) y9)))) := by rw [ew_37]; exact kx_set_self F5_7
                have f_46 : w_37[q + 8]? = some (am 8, .inl (k0 3, 4096, .inl (fun y9 => nI (fb y9)))) := by rw [ew_37]; exact kx_set_ne F5_8 (by omega)
                have f_47 : w_37[q + 9]? = some (am 9, .inl (k0 3, 4096, .inl (fun y9 => nI (sb y9)))) := by rw [ew_37]; exact kx_set_ne F5_9 (by omega)
                have hfr : kx_fr w0 w_37 (fun j => j = q ∨ j = q + 6 ∨ j = q + 7) := kx_fr_tr hfr (by rw [ew_37]; exact kx_fr_set (by omega))
                refine lv_iload hx hb dX3_number_79 (lv_at hl 0 rfl) ?_
                refine lv_iload hx hb dX3_number_81 (lv_at hl 1 rfl) ?_
                refine lv_icmp_ne (tgt := 92) hx hb dX3_number_83 (by decide) (fun c_83 => ?_) (fun c_83 => ?_)
                · skip
                  exact absurd (show nI a9 = nI k9 by rw [hak]) c_83
                · skip
                  refine lv_iload_n hx hb dX3_number_86 rfl (lv_at hl 2 rfl) ?_
                  refine lv_iconst (v := nI 1) hx hb dX3_number_87 (by decide +kernel) ?_
                  refine lv_iadd hx hb dX3_number_88 ?_
                  refine lv_topi (fun z_48 ez_48 => ?_)
                  have ez_48 : z_48 = nI (c9 + 1) := by rw [ez_48]; exact nI_add _ _
                  subst ez_48
                  refine lv_goto (tgt := 93) hx hb dX3_number_89 (by decide) ?_
                  refine lv_istore_n (lv' := [(3, .int (nI (c9 + 1))), (5, .int (nI a9)), (4, .int (nI k9)), (0, .ref (am 0)), (1, .int (nI i)), (2, .int (nI fr))]) hx hb dX3_number_93 rfl hl (by decide) rfl (fun ls hl => ?_)
                  refine lv_iinc (v := nI (k9 + 1)) (lv' := [(4, .int (nI (k9 + 1))), (3, .int (nI (c9 + 1))), (5, .int (nI a9)), (0, .ref (am 0)), (1, .int (nI i)), (2, .int (nI fr))]) hx hb dX3_number_94 hl (k := 2) rfl (nI_1 _) (by decide) rfl (fun ls hl => ?_)
                  refine lv_goto (tgt := 5) hx hb dX3_number_97 (by decide) ?_
                  exact ih5 (k9 + 1) (c9 + 1) (fo_up mn1 k9 c9) (by omega) (nu_new hnu (fun j hj => ha9 j (by omega))) (by omega) w_37 f_38 f_39 f_40 f_41 f_42 f_43 f_44 f_45 f_46 f_47 hfr _ _ hP hD hS _ (lv_sub hl [0, 1, 3, 4, 5] rfl)
            · skip
              have hEn : mE me i a9 ≠ mE me i k9 := fun h => c_45 (by show nI (mE me i a9) = nI (mE me i k9); rw [h])
              have hlt : a9 ≠ k9 := fun h => hEn (by rw [h])
              refine lv_iinc (v := nI (a9 + 1)) (lv' := [(5, .int (nI (a9 + 1))), (4, .int (nI k9)), (3, .int (nI c9)), (0, .ref (am 0)), (1, .int (nI i)), (2, .int (nI fr))]) hx hb dX3_number_48 hl (k := 0) rfl (nI_1 _) (by decide) rfl (fun ls hl => ?_)
              refine lv_goto (tgt := 21) hx hb dX3_number_51 (by decide) ?_
              exact ih21 (a9 + 1) (by omega) (fun j h => by
                  rcases Nat.lt_or_ge j a9 with h2 | h2
                  · exact ha9 j h2
                  · rw [show j = a9 by omega]; exact hEn) (by omega) _ _ hP hD hS _ (lv_sub hl [0, 1, 2, 3, 4, 5] rfl)
        exact loop_21 (k9 + 1) 0 (Nat.zero_le _) (fun j h => absurd h (Nat.not_lt_zero j)) (by omega) _ _ hP hD hS _ (lv_sub hl [0, 1, 2, 3, 4, 5] rfl)
  exact loop_5 (2 * mc i + 1) 0 fr mn (Nat.zero_le _) (nu_0 _ _ _) (by omega) w0 hM0 hM1 hM2 hM3 hM4 hM5 hM6 hM7 hM8 hM9 hfr _ _ hP hD hS _ (lv_sub hl [0, 1, 2, 3, 4] rfl)

set_option maxHeartbeats 4000000 in
set_option maxRecDepth 100000 in
/-- the model: beside -/
theorem m_beside (l : Launch) (D : va_G) (k0 : Nat → ClassId)  (w0 : va_W) (sz : Nat) (q : Nat) (am mv mc mo me : Nat → Nat) (mw : Nat → Int32) (mm : Nat → Nat) (mk : Nat) (mn fb sb : Nat → Nat) (hM : atM w0 q k0 am mv mc mo me mw mm mk mn fb sb) (hI : minv mv mc mo me mw) (x y z : Int32) : kx_i l yX3_beside wsX3_beside ({ frames := 2, cells := 0, slots := 0, locals := 64 } : Room) D (tyL k0) w0 sz [.ref (am 0), .int x, .int y, .int z] (fun (r : Int32) (u : va_W) => ((∃ t i j, t < 8 ∧ i < 8 ∧ j < 8 ∧ mc i + mc j ≤ 12 ∧ x = nI t ∧ y = nI i ∧ z = nI j ∧ r = nI (mc i + mc j) ∧ ∃ (me9 : Nat → Nat) (mw9 : Nat → Int32) (mm9 : Nat → Nat) (mk9 : Nat) (mn9 na nb : Nat → Nat) (ca cb : Nat), atM u q k0 am (fo_up mv t cb) (fo_up mc t (mc i + mc j)) (fo_up mo t 0) me9 mw9 mm9 mk9 mn9 fb sb ∧ nu_ok (mE me i) na (2 * mc i) 0 ca ∧ nu_ok (mE me j) nb (2 * mc j) ca cb ∧ (∀ e, e < mc i → me9 (24 * t + 2 * e) = na (2 * e) ∧ me9 (24 * t + 2 * e + 1) = na (2 * e + 1)) ∧ (∀ e, e < mc j → me9 (24 * t + 2 * (mc i + e)) = nb (2 * e) ∧ me9 (24 * t + 2 * (mc i + e) + 1) = nb (2 * e + 1)) ∧ (∀ k, k < mc i + mc j → mw9 (12 * t + k) = 0) ∧ (∀ k, k < 24 * t ∨ 24 * t + 24 ≤ k → me9 k = me k) ∧ (∀ k, k < 12 * t ∨ 12 * t + 12 ≤ k → mw9 k = mw k)) ∨ (¬ (∃ t i j, t < 8 ∧ i < 8 ∧ j < 8 ∧ mc i + mc j ≤ 12 ∧ x = nI t ∧ y = nI i ∧ z = nI j) ∧ r = -1 ∧ u = w0)) ∧ kx_fr w0 u (fun j => q ≤ j ∧ j < q + 10)) 0 0 := by
  refine kx_of (Qf := fun A => va_Qi (fun (r : Int32) (u : va_W) => ((∃ t i j, t < 8 ∧ i < 8 ∧ j < 8 ∧ mc i + mc j ≤ 12 ∧ x = nI t ∧ y = nI i ∧ z = nI j ∧ r = nI (mc i + mc j) ∧ ∃ (me9 : Nat → Nat) (mw9 : Nat → Int32) (mm9 : Nat → Nat) (mk9 : Nat) (mn9 na nb : Nat → Nat) (ca cb : Nat), atM u q k0 am (fo_up mv t cb) (fo_up mc t (mc i + mc j)) (fo_up mo t 0) me9 mw9 mm9 mk9 mn9 fb sb ∧ nu_ok (mE me i) na (2 * mc i) 0 ca ∧ nu_ok (mE me j) nb (2 * mc j) ca cb ∧ (∀ e, e < mc i → me9 (24 * t + 2 * e) = na (2 * e) ∧ me9 (24 * t + 2 * e + 1) = na (2 * e + 1)) ∧ (∀ e, e < mc j → me9 (24 * t + 2 * (mc i + e)) = nb (2 * e) ∧ me9 (24 * t + 2 * (mc i + e) + 1) = nb (2 * e + 1)) ∧ (∀ k, k < mc i + mc j → mw9 (12 * t + k) = 0) ∧ (∀ k, k < 24 * t ∨ 24 * t + 24 ≤ k → me9 k = me k) ∧ (∀ k, k < 12 * t ∨ 12 * t + 12 ≤ k → mw9 k = mw k)) ∨ (¬ (∃ t i j, t < 8 ∧ i < 8 ∧ j < 8 ∧ mc i + mc j ≤ 12 ∧ x = nI t ∧ y = nI i ∧ z = nI j) ∧ r = -1 ∧ u = w0)) ∧ kx_fr w0 u (fun j => q ≤ j ∧ j < q + 10)) (kx_B D (tyL k0) A) A) (cc := cX3_beside) (maxL := 5) (ret := (some .int)) (by decide +kernel) (Nat.le_of_ble_eq_true rfl) ?_
  intro p e s m below meth c A ls hx hb hml hown hts hr hlocks hnm hN hK hP hD hS hA hl
  have hown : s.vm.findClass RX3 = some m.cls := hown
  have hl : lv_has ls 5 [(0, .ref (am 0)), (1, .int x), (2, .int y), (3, .int z)] := hl
  have hfr : kx_fr w0 w0 (fun j => q ≤ j ∧ j < q + 10) := kx_fr_rf _ _
  obtain ⟨hM0, hM1, hM2, hM3, hM4, hM5, hM6, hM7, hM8, hM9⟩ := id hM
  refine lv_iload_n hx hb dX3_beside_0 rfl (lv_at hl 1 rfl) ?_
  refine kx_goi (va_runS (As := [.int x]) (rest := []) ⟨hx, hb, hml, hown, hts⟩ (m_isGraph l D k0 w0 _ x) ⟨(kg_B (k := 1) hts tw_289 tw_287 tw_22 (by decide +kernel) rfl rfl ⟨Nat.le_of_ble_eq_true rfl, Nat.le_of_ble_eq_true rfl⟩), hts _ tw_288⟩ (kx_preS hN hK hP hD) rfl rfl hl.1 rfl (lv_room (Nat.le_of_ble_eq_true rfl)) dX3_beside_1 ⟨Nat.le_of_ble_eq_true rfl, Nat.le_of_ble_eq_true rfl⟩) hD hS hA (fun r_2 u_3 H locs hp_1 hP hD hS => ?_)
  obtain ⟨hy_x, eu⟩ := hp_1
  rw [eu] at hP hD
  refine lv_if_eq (tgt := 39) hx hb dX3_beside_4 (by decide) (fun c_4 => ?_) (fun c_4 => ?_)
  · skip
    have hno0 := kg_0 hy_x c_4
    have hno : ¬ (∃ t i j, t < 8 ∧ i < 8 ∧ j < 8 ∧ mc i + mc j ≤ 12 ∧ x = nI t ∧ y = nI i ∧ z = nI j) := fun ⟨t, _, _, h1, _, _, _, h2, _⟩ => hno0 ⟨t, h1, h2⟩
    refine lv_iconst (v := -1) hx hb dX3_beside_39 (by decide +kernel) ?_
    exact kx_iret (v := -1) hx hb hr rfl hlocks hK hP hD hS dX3_beside_40 (⟨Or.inr ⟨hno, rfl, rfl⟩, kx_fr_rf _ _⟩)
  · skip
    obtain ⟨t, h8t, e_x⟩ := kg_1 hy_x c_4
    rw [e_x] at hl
    refine lv_iload_n hx hb dX3_beside_7 rfl (lv_at hl 2 rfl) ?_
    refine kx_goi (va_runS (As := [.int y]) (rest := []) ⟨hx, hb, hml, hown, hts⟩ (m_isGraph l D k0 w0 _ y) ⟨(kg_B (k := 1) hts tw_289 tw_287 tw_22 (by decide +kernel) rfl rfl ⟨Nat.le_of_ble_eq_true rfl, Nat.le_of_ble_eq_true rfl⟩), hts _ tw_288⟩ (kx_preS hN hK hP hD) rfl rfl hl.1 rfl (lv_room (Nat.le_of_ble_eq_true rfl)) dX3_beside_8 ⟨Nat.le_of_ble_eq_true rfl, Nat.le_of_ble_eq_true rfl⟩) hD hS hA (fun r_5 u_6 H locs hp_4 hP hD hS => ?_)
    obtain ⟨hy_y, eu⟩ := hp_4
    rw [eu] at hP hD
    refine lv_if_eq (tgt := 39) hx hb dX3_beside_11 (by decide) (fun c_11 => ?_) (fun c_11 => ?_)
    · skip
      have hno0 := kg_0 hy_y c_11
      have hno : ¬ (∃ t i j, t < 8 ∧ i < 8 ∧ j < 8 ∧ mc i + mc j ≤ 12 ∧ x = nI t ∧ y = nI i ∧ z = nI j) := fun ⟨_, i, _, _, h1, _, _, _, h2, _⟩ => hno0 ⟨i, h1, h2⟩
      refine lv_iconst (v := -1) hx hb dX3_beside_39 (by decide +kernel) ?_
      exact kx_iret (v := -1) hx hb hr rfl hlocks hK hP hD hS dX3_beside_40 (⟨Or.inr ⟨hno, rfl, rfl⟩, kx_fr_rf _ _⟩)
    · skip
      obtain ⟨i, h8i, e_y⟩ := kg_1 hy_y c_11
      rw [e_y] at hl
      obtain ⟨hni, hvi, hoi, he2i, hw2i⟩ := hI i h8i
      refine lv_iload_n hx hb dX3_beside_14 rfl (lv_at hl 3 rfl) ?_
      refine kx_goi (va_runS (As := [.int z]) (rest := []) ⟨hx, hb, hml, hown, hts⟩ (m_isGraph l D k0 w0 _ z) ⟨(kg_B (k := 1) hts tw_289 tw_287 tw_22 (by decide +kernel) rfl rfl ⟨Nat.le_of_ble_eq_true rfl, Nat.le_of_ble_eq_true rfl⟩), hts _ tw_288⟩ (kx_preS hN hK hP hD) rfl rfl hl.1 rfl (lv_room (Nat.le_of_ble_eq_true rfl)) dX3_beside_15 ⟨Nat.le_of_ble_eq_true rfl, Nat.le_of_ble_eq_true rfl⟩) hD hS hA (fun r_8 u_9 H locs hp_7 hP hD hS => ?_)
      obtain ⟨hy_z, eu⟩ := hp_7
      rw [eu] at hP hD
      refine lv_if_eq (tgt := 39) hx hb dX3_beside_18 (by decide) (fun c_18 => ?_) (fun c_18 => ?_)
      · skip
        have hno0 := kg_0 hy_z c_18
        have hno : ¬ (∃ t i j, t < 8 ∧ i < 8 ∧ j < 8 ∧ mc i + mc j ≤ 12 ∧ x = nI t ∧ y = nI i ∧ z = nI j) := fun ⟨_, _, j, _, _, h1, _, _, _, h2⟩ => hno0 ⟨j, h1, h2⟩
        refine lv_iconst (v := -1) hx hb dX3_beside_39 (by decide +kernel) ?_
        exact kx_iret (v := -1) hx hb hr rfl hlocks hK hP hD hS dX3_beside_40 (⟨Or.inr ⟨hno, rfl, rfl⟩, kx_fr_rf _ _⟩)
      · skip
        obtain ⟨j, h8j, e_z⟩ := kg_1 hy_z c_18
        rw [e_z] at hl
        obtain ⟨hnj, hvj, hoj, he2j, hw2j⟩ := hI j h8j
        refine lv_aload_n hx hb dX3_beside_21 rfl (lv_at hl 0 rfl) ?_
        refine va_get (D := D) (ci := 3) (v := .ref (am 2)) (C := RX3) (T := TX3) (N := 10) hx hb hts inX3 hown hK hP q hM0 rfl 1 (by decide) (hts _ tw_251) (fun _ h9 => h9) rfl dX3_beside_22 ?_
        refine lv_iload_n hx hb dX3_beside_25 rfl (lv_at hl 2 rfl) ?_
        refine kx_nald hx hb hK hP (q + 2) hM2 rfl (i := i) (by omega) (by decide) dX3_beside_26 ?_
        refine lv_aload_n hx hb dX3_beside_27 rfl (lv_at hl 0 rfl) ?_
        refine va_get (D := D) (ci := 3) (v := .ref (am 2)) (C := RX3) (T := TX3) (N := 10) hx hb hts inX3 hown hK hP q hM0 rfl 1 (by decide) (hts _ tw_251) (fun _ h9 => h9) rfl dX3_beside_28 ?_
        refine lv_iload_n hx hb dX3_beside_31 rfl (lv_at hl 3 rfl) ?_
        refine kx_nald hx hb hK hP (q + 2) hM2 rfl (i := j) (by omega) (by decide) dX3_beside_32 ?_
        refine lv_iadd hx hb dX3_beside_33 ?_
        refine lv_topi (fun z_10 ez_10 => ?_)
        have ez_10 : z_10 = nI (mc i + mc j) := by rw [ez_10]; exact nI_add _ _
        subst ez_10
        refine lv_bipush (v := nI 12) hx hb dX3_beside_34 (by decide +kernel) ?_
        refine lv_icmp_le (tgt := 41) hx hb dX3_beside_36 (by decide) (fun c_36 => ?_) (fun c_36 => ?_)
        · skip
          have h12 : mc i + mc j ≤ 12 := (nI_leI (by omega) (by omega)).mp c_36
          refine lv_aload_n hx hb dX3_beside_41 rfl (lv_at hl 0 rfl) ?_
          refine lv_iconst (v := nI 0) hx hb dX3_beside_42 (by decide +kernel) ?_
          refine va_put (D := D) (ci := 3) (v := .int (nI 0)) (ty := .int) (C := RX3) (T := TX3) (N := 10) hx hb hts inX3 tyX3 tyX3_ok nmX3 hown hK hP hD hS q hM0 rfl 6 (by decide) (hts _ tw_256) (fun _ h9 => h9) rfl (by decide +kernel) rfl rfl (Nat.le_of_ble_eq_true rfl) dX3_beside_43 (fun H locs hP hD hS => ?_)
          obtain ⟨w_11, ew_11⟩ : ∃ w, w = w0.set q (am 0, .inr (3, [.ref (am 1), .ref (am 2), .ref (am 3), .ref (am 4), .ref (am 5), .ref (am 6), .int (nI 0), .ref (am 7), .ref (am 8), .ref (am 9)])) := ⟨_, rfl⟩
          have hP : va_P D vwCl w_11 H := by rw [ew_11]; exact hP
          have hD : va_D A w_11 := by rw [ew_11]; exact hD
          have f_12 : w_11[q]? = some (am 0, .inr (3, [.ref (am 1), .ref (am 2), .ref (am 3), .ref (am 4), .ref (am 5), .ref (am 6), .int (nI 0), .ref (am 7), .ref (am 8), .ref (am 9)])) := by rw [ew_11]; exact kx_set_self hM0
          have f_13 : w_11[q + 1]? = some (am 1, .inl (k0 0, 8, .inl (fun y9 => nI (mv y9)))) := by rw [ew_11]; exact kx_set_ne hM1 (by omega)
          have f_14 : w_11[q + 2]? = some (am 2, .inl (k0 0, 8, .inl (fun y9 => nI (mc y9)))) := by rw [ew_11]; exact kx_set_ne hM2 (by omega)
          have f_15 : w_11[q + 3]? = some (am 3, .inl (k0 2, 8, .inl (fun y9 => nI (mo y9)))) := by rw [ew_11]; exact kx_set_ne hM3 (by omega)
          have f_16 : w_11[q + 4]? = some (am 4, .inl (k0 0, 192, .inl (fun y9 => nI (me y9)))) := by rw [ew_11]; exact kx_set_ne hM4 (by omega)
          have f_17 : w_11[q + 5]? = some (am 5, .inl (k0 0, 96, .inl mw)) := by rw [ew_11]; exact kx_set_ne hM5 (by omega)
          have f_18 : w_11[q + 6]? = some (am 6, .inl (k0 0, 24, .inl (fun y9 => nI (mm y9)))) := by rw [ew_11]; exact kx_set_ne hM6 (by omega)
          have f_19 : w_11[q + 7]? = some (am 7, .inl (k0 0, 32, .inl (fun y9 => nI (mn y9)))) := by rw [ew_11]; exact kx_set_ne hM7 (by omega)
          have f_20 : w_11[q + 8]? = some (am 8, .inl (k0 3, 4096, .inl (fun y9 => nI (fb y9)))) := by rw [ew_11]; exact kx_set_ne hM8 (by omega)
          have f_21 : w_11[q + 9]? = some (am 9, .inl (k0 3, 4096, .inl (fun y9 => nI (sb y9)))) := by rw [ew_11]; exact kx_set_ne hM9 (by omega)
          have hfr : kx_fr w0 w_11 (fun j => q ≤ j ∧ j < q + 10) := kx_fr_tr hfr (by rw [ew_11]; exact kx_fr_set (by omega))
          refine lv_aload_n hx hb dX3_beside_46 rfl (lv_at hl 0 rfl) ?_
          refine lv_iload_n hx hb dX3_beside_47 rfl (lv_at hl 2 rfl) ?_
          refine lv_iconst (v := nI 0) hx hb dX3_beside_48 (by decide +kernel) ?_
          refine kx_goi (va_runV (As := [.int (nI i), .int (nI 0)]) (rest := []) ⟨hx, hb, hml, hown, hts⟩ (m_number l D k0 w_11 _ q am mv mc mo me mw mm 0 mn fb sb ⟨f_12, f_13, f_14, f_15, f_16, f_17, f_18, f_19, f_20, f_21⟩ hI i 0 h8i (by omega) (by omega)) ⟨(kg_B (k := 2) hts tw_333 tw_330 tw_22 (by decide +kernel) rfl rfl ⟨Nat.le_of_ble_eq_true rfl, Nat.le_of_ble_eq_true rfl⟩), hts _ tw_332, hts _ tw_14⟩ (kx_preV hN hK hP hD rfl f_12) rfl rfl hl.1 rfl (lv_room (Nat.le_of_ble_eq_true rfl)) dX3_beside_49 ⟨Nat.le_of_ble_eq_true rfl, Nat.le_of_ble_eq_true rfl⟩) hD hS hA (fun r_23 u_24 H locs hp_22 hP hD hS => ?_)
          obtain ⟨na, ca, er_na, hnu_na, ⟨hN0, _, _, _, _, _, hN6, hN7, _, _⟩, hq⟩ := hp_22
          have f_25 : u_24[q]? = some (am 0, .inr (3, [.ref (am 1), .ref (am 2), .ref (am 3), .ref (am 4), .ref (am 5), .ref (am 6), .int (nI (0 + mc i)), .ref (am 7), .ref (am 8), .ref (am 9)])) := hN0
          have f_26 : u_24[q + 1]? = some (am 1, .inl (k0 0, 8, .inl (fun y9 => nI (mv y9)))) := by rw [hq _ (by omega)]; exact f_13
          have f_27 : u_24[q + 2]? = some (am 2, .inl (k0 0, 8, .inl (fun y9 => nI (mc y9)))) := by rw [hq _ (by omega)]; exact f_14
          have f_28 : u_24[q + 3]? = some (am 3, .inl (k0 2, 8, .inl (fun y9 => nI (mo y9)))) := by rw [hq _ (by omega)]; exact f_15
          have f_29 : u_24[q + 4]? = some (am 4, .inl (k0 0, 192, .inl (fun y9 => nI (me y9)))) := by rw [hq _ (by omega)]; exact f_16
          have f_30 : u_24[q + 5]? = some (am 5, .inl (k0 0, 96, .inl mw)) := by rw [hq _ (by omega)]; exact f_17
          have f_31 : u_24[q + 6]? = some (am 6, .inl (k0 0, 24, .inl (fun y9 => nI ((nm_d na mm 0 (mc i)) y9)))) := hN6
          have f_32 : u_24[q + 7]? = some (am 7, .inl (k0 0, 32, .inl (fun y9 => nI (na y9)))) := hN7
          have f_33 : u_24[q + 8]? = some (am 8, .inl (k0 3, 4096, .inl (fun y9 => nI (fb y9)))) := by rw [hq _ (by omega)]; exact f_20
          have f_34 : u_24[q + 9]? = some (am 9, .inl (k0 3, 4096, .inl (fun y9 => nI (sb y9)))) := by rw [hq _ (by omega)]; exact f_21
          have hfr : kx_fr w0 u_24 (fun j => q ≤ j ∧ j < q + 10) := kx_fr_tr hfr (kx_fr_mono hq (fun j h => by omega))
          subst er_na
          have hcb_na := hnu_na.2.2
          refine lv_istore (lv' := [(4, .int (nI ca)), (0, .ref (am 0)), (1, .int (nI t)), (2, .int (nI i)), (3, .int (nI j))]) hx hb dX3_beside_52 hl (by decide) rfl (fun ls hl => ?_)
          refine lv_aload_n hx hb dX3_beside_54 rfl (lv_at hl 1 rfl) ?_
          refine lv_iload_n hx hb dX3_beside_55 rfl (lv_at hl 4 rfl) ?_
          refine lv_iload hx hb dX3_beside_56 (lv_at hl 0 rfl) ?_
          refine kx_goi (va_runV (As := [.int (nI j), .int (nI ca)]) (rest := []) ⟨hx, hb, hml, hown, hts⟩ (m_number l D k0 u_24 _ q am mv mc mo me mw (nm_d na mm 0 (mc i)) (0 + mc i) na fb sb ⟨f_25, f_26, f_27, f_28, f_29, f_30, f_31, f_32, f_33, f_34⟩ hI j ca h8j (by omega) (by omega)) ⟨(kg_B (k := 2) hts tw_333 tw_330 tw_22 (by decide +kernel) rfl rfl ⟨Nat.le_of_ble_eq_true rfl, Nat.le_of_ble_eq_true rfl⟩), hts _ tw_332, hts _ tw_14⟩ (kx_preV hN hK hP hD rfl f_25) rfl rfl hl.1 rfl (lv_room (Nat.le_of_ble_eq_true rfl)) dX3_beside_58 ⟨Nat.le_of_ble_eq_true rfl, Nat.le_of_ble_eq_true rfl⟩) hD hS hA (fun r_36 u_37 H locs hp_35 hP hD hS => ?_)
          obtain ⟨nb, cb, er_nb, hnu_nb, ⟨hN0, _, _, _, _, _, hN6, hN7, _, _⟩, hq⟩ := hp_35
          have f_38 : u_37[q]? = some (am 0, .inr (3, [.ref (am 1), .ref (am 2), .ref (am 3), .ref (am 4), .ref (am 5), .ref (am 6), .int (nI (0 + mc i + mc j)), .ref (am 7), .ref (am 8), .ref (am 9)])) := hN0
          have f_39 : u_37[q + 1]? = some (am 1, .inl (k0 0, 8, .inl (fun y9 => nI (mv y9)))) := by rw [hq _ (by omega)]; exact f_26
          have f_40 : u_37[q + 2]? = some (am 2, .inl (k0 0, 8, .inl (fun y9 => nI (mc y9)))) := by rw [hq _ (by omega)]; exact f_27
          have f_41 : u_37[q + 3]? = some (am 3, .inl (k0 2, 8, .inl (fun y9 => nI (mo y9)))) := by rw [hq _ (by omega)]; exact f_28
          have f_42 : u_37[q + 4]? = some (am 4, .inl (k0 0, 192, .inl (fun y9 => nI (me y9)))) := by rw [hq _ (by omega)]; exact f_29
          have f_43 : u_37[q + 5]? = some (am 5, .inl (k0 0, 96, .inl mw)) := by rw [hq _ (by omega)]; exact f_30
          have f_44 : u_37[q + 6]? = some (am 6, .inl (k0 0, 24, .inl (fun y9 => nI ((nm_d nb (nm_d na mm 0 (mc i)) (0 + mc i) (mc j)) y9)))) := hN6
          have f_45 : u_37[q + 7]? = some (am 7, .inl (k0 0, 32, .inl (fun y9 => nI (nb y9)))) := hN7
          have f_46 : u_37[q + 8]? = some (am 8, .inl (k0 3, 4096, .inl (fun y9 => nI (fb y9)))) := by rw [hq _ (by omega)]; exact f_33
          have f_47 : u_37[q + 9]? = some (am 9, .inl (k0 3, 4096, .inl (fun y9 => nI (sb y9)))) := by rw [hq _ (by omega)]; exact f_34
          have hfr : kx_fr w0 u_37 (fun j => q ≤ j ∧ j < q + 10) := kx_fr_tr hfr (kx_fr_mono hq (fun j h => by omega))
          subst er_nb
          have hcb_nb := hnu_nb.2.2
          refine lv_istore (lv' := [(4, .int (nI cb)), (0, .ref (am 0)), (1, .int (nI t)), (2, .int (nI i)), (3, .int (nI j))]) hx hb dX3_beside_61 hl (by decide) rfl (fun ls hl => ?_)
          refine lv_aload_n hx hb dX3_beside_63 rfl (lv_at hl 1 rfl) ?_
          refine lv_iload_n hx hb dX3_beside_64 rfl (lv_at hl 2 rfl) ?_
          refine lv_iload hx hb dX3_beside_65 (lv_at hl 0 rfl) ?_
          refine kx_goi (va_runV (As := [.int (nI t), .int (nI cb)]) (rest := []) ⟨hx, hb, hml, hown, hts⟩ (m_keep l D k0 u_37 _ q am mv mc mo me mw (nm_d nb (nm_d na mm 0 (mc i)) (0 + mc i) (mc j)) (0 + mc i + mc j) nb fb sb ⟨f_38, f_39, f_40, f_41, f_42, f_43, f_44, f_45, f_46, f_47⟩ t cb h8t (by omega)) ⟨(kg_B (k := 2) hts tw_325 tw_322 tw_22 (by decide +kernel) rfl rfl ⟨Nat.le_of_ble_eq_true rfl, Nat.le_of_ble_eq_true rfl⟩), hts _ tw_324, hts _ tw_13⟩ (kx_preV hN hK hP hD rfl f_38) rfl rfl hl.1 rfl (lv_room (Nat.le_of_ble_eq_true rfl)) dX3_beside_67 ⟨Nat.le_of_ble_eq_true rfl, Nat.le_of_ble_eq_true rfl⟩) hD hS hA (fun r_49 u_50 H locs hp_48 hP hD hS => ?_)
          obtain ⟨er, ⟨me9, mw9, hat, hki, hko⟩, hq9⟩ := hp_48
          subst er
          exact kx_iret (v := nI (0 + mc i + mc j)) hx hb hr rfl hlocks hK hP hD hS dX3_beside_70 (⟨Or.inl ⟨t, i, j, h8t, h8i, h8j, h12, e_x, e_y, e_z, by rw [Nat.zero_add], me9, mw9, _, _, _, na, nb, ca, cb, by rw [Nat.zero_add] at hat; exact hat, hnu_na, hnu_nb, fun e he => by
                  have h1 := hki e (by omega)
                  have h2 := nm_at (N := na) (d := mm) (k := 0) he
                  rw [Nat.zero_add] at h2
                  rw [nm_old (N := nb) (d := nm_d na mm 0 (mc i)) (k := 0 + mc i) (n := mc j) (j := 2 * e) (by omega), nm_old (N := nb) (d := nm_d na mm 0 (mc i)) (k := 0 + mc i) (n := mc j) (j := 2 * e + 1) (by omega), h2.1, h2.2] at h1
                  exact ⟨h1.1, h1.2.1⟩, fun e he => by
                  have h1 := hki (mc i + e) (by omega)
                  have h2 := nm_at (N := nb) (d := nm_d na mm 0 (mc i)) (k := 0 + mc i) he
                  rw [Nat.zero_add] at h2 h1
                  rw [h2.1, h2.2] at h1
                  exact ⟨h1.1, h1.2.1⟩, fun k hk => (hki k (by omega)).2.2, hko⟩, kx_fr_tr hfr hq9⟩)
        · skip
          have hno : ¬ (∃ t i j, t < 8 ∧ i < 8 ∧ j < 8 ∧ mc i + mc j ≤ 12 ∧ x = nI t ∧ y = nI i ∧ z = nI j) := fun ⟨_, i2, j2, _, h1, h2, h3, _, h4, h5⟩ => by
            have hi2 : i2 = i := ((nI_eq (by omega) (by omega)).mp (h4.symm.trans e_y))
            subst hi2
            have hj2 : j2 = j := ((nI_eq (by omega) (by omega)).mp (h5.symm.trans e_z))
            subst hj2
            exact c_36 ((nI_leI (by omega) (by omega)).mpr h3)
          refine lv_iconst (v := -1) hx hb dX3_beside_39 (by decide +kernel) ?_
          exact kx_iret (v := -1) hx hb hr rfl hlocks hK hP hD hS dX3_beside_40 (⟨Or.inr ⟨hno, rfl, rfl⟩, kx_fr_rf _ _⟩)
