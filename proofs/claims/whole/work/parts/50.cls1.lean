theorem kg_0 {P : Prop} {r : Int32} (h : (r = 1 ∧ P) ∨ (r = 0 ∧ ¬ P)) (c : r = 0) : ¬ P := by
  rcases h with ⟨h1, _⟩ | ⟨_, h2⟩
  · rw [h1] at c; exact absurd c (by decide)
  · exact h2
theorem kg_1 {P : Prop} {r : Int32} (h : (r = 1 ∧ P) ∨ (r = 0 ∧ ¬ P)) (c : ¬ r = 0) : P := by
  rcases h with ⟨_, h2⟩ | ⟨h1, _⟩
  · exact h2
  · exact absurd h1 c
def cinv (nE nV : Nat → Nat) (LL : Nat → Nat → Nat) (ww : Nat → Nat → Int32) : Prop := ∀ i, i < 8 → nE i ≤ 12 ∧ nV i ≤ 13 ∧ (∀ e, e < nE i → gl_two (LL i e)) ∧ gw_in (ww i) (nE i)
theorem kb_full_lt {n : Nat} (h : n ≤ 12) : cf_full n < 2 ^ 12 := by
  have : 2 ^ n ≤ 2 ^ 12 := Nat.pow_le_pow_right (by omega) h
  have := Nat.one_le_two_pow (n := n)
  unfold cf_full; omega
theorem kb_sub_full {S n : Nat} (h : S ≤ cf_full n) : cf_sub S (cf_full n) := fun i hi => by
  rw [cf_full_bit]
  refine decide_eq_true ?_
  have h1 := Nat.ge_two_pow_of_testBit hi
  have h2 := Nat.one_le_two_pow (n := n)
  unfold cf_full at h
  exact (Nat.pow_lt_pow_iff_right (by omega : 1 < 2)).mp (show 2 ^ i < 2 ^ n by omega)
theorem kb_le_full {S n : Nat} (h : cf_sub S (cf_full n)) : S ≤ cf_full n := Nat.le_of_testBit h

set_option maxHeartbeats 4000000 in
set_option maxRecDepth 100000 in
/-- isEdge(g, e) -/
theorem c_isEdge (l : Launch) (D : va_G) (k0 : Nat → ClassId)  (w0 : va_W) (sz : Nat) (b : Nat) (ad nE nV : Nat → Nat) (op : Nat → Int32) (LL : Nat → Nat → Nat) (ww : Nat → Nat → Int32) (hC : atC w0 b k0 ad nE nV op LL ww) (hI : cinv nE nV LL ww) (x y : Int32) : kx_i l yX2_isEdge wsX2_isEdge ({ frames := 1, cells := 0, slots := 0, locals := 24 } : Room) D (tyL k0) w0 sz [.ref (ad 0), .int x, .int y] (fun (r : Int32) (u : va_W) => ((r = 1 ∧ (∃ i e9, i < 8 ∧ e9 < nE i ∧ x = nI i ∧ y = nI e9)) ∨ (r = 0 ∧ ¬ (∃ i e9, i < 8 ∧ e9 < nE i ∧ x = nI i ∧ y = nI e9))) ∧ u = w0) 0 0 := by
  refine kx_of (Qf := fun A => va_Qi (fun (r : Int32) (u : va_W) => ((r = 1 ∧ (∃ i e9, i < 8 ∧ e9 < nE i ∧ x = nI i ∧ y = nI e9)) ∨ (r = 0 ∧ ¬ (∃ i e9, i < 8 ∧ e9 < nE i ∧ x = nI i ∧ y = nI e9))) ∧ u = w0) (kx_B D (tyL k0) A) A) (cc := cX2_isEdge) (maxL := 3) (ret := (some .boolean)) (by decide +kernel) (Nat.le_of_ble_eq_true rfl) ?_
  intro p e s m below meth c A ls hx hb hml hown hts hr hlocks hnm hN hK hP hD hS hA hl
  have hown : s.vm.findClass RX2 = some m.cls := hown
  have hl : lv_has ls 3 [(0, .ref (ad 0)), (1, .int x), (2, .int y)] := hl
  skip
  obtain ⟨hO, ⟨fq, hQ, hfq⟩, ⟨r1, p1, k1, hF1, hR1, hT1⟩, ⟨r2, p2, k2, hF2, hR2, hT2⟩, ⟨dr, hd⟩, hgs⟩ := id hC
  refine lv_iload_n hx hb dX2_isEdge_0 rfl (lv_at hl 1 rfl) ?_
  refine kx_goi (va_runS (As := [.int x]) (rest := []) ⟨hx, hb, hml, hown, hts⟩ (c_isGraph l D k0 w0 _ x) ⟨(kg_B (k := 1) hts tw_97 tw_95 tw_19 (by decide +kernel) rfl rfl ⟨Nat.le_of_ble_eq_true rfl, Nat.le_of_ble_eq_true rfl⟩), hts _ tw_96⟩ (kx_preS hN hK hP hD) rfl rfl hl.1 rfl (lv_room (Nat.le_of_ble_eq_true rfl)) dX2_isEdge_1 ⟨Nat.le_of_ble_eq_true rfl, Nat.le_of_ble_eq_true rfl⟩) hD hS hA (fun r_2 u_3 H locs hp_1 hP hD hS => ?_)
  obtain ⟨hy_x, eu⟩ := hp_1
  rw [eu] at hP hD
  refine lv_if_eq (tgt := 28) hx hb dX2_isEdge_4 (by decide) (fun c_4 => ?_) (fun c_4 => ?_)
  · skip
    have hno0 := kg_0 hy_x c_4
    have hno : ¬ (∃ i e9, i < 8 ∧ e9 < nE i ∧ x = nI i ∧ y = nI e9) := fun ⟨i, _, h1, _, h2, _⟩ => hno0 ⟨i, h1, h2⟩
    refine lv_iconst (v := 0) hx hb dX2_isEdge_28 (by decide +kernel) ?_
    exact kx_iret (v := 0) hx hb hr rfl hlocks hK hP hD hS dX2_isEdge_29 (⟨by first | exact Or.inl ⟨rfl, hyes⟩ | exact Or.inr ⟨rfl, hno⟩, rfl⟩)
  · skip
    obtain ⟨i, h8i, e_x⟩ := kg_1 hy_x c_4
    rw [e_x] at hl
    obtain ⟨hGi, hLi, hWi⟩ := hgs i h8i
    obtain ⟨hni, hvi, hl2i, hw2i⟩ := hI i h8i
    refine lv_iload_n hx hb dX2_isEdge_7 rfl (lv_at hl 2 rfl) ?_
    refine lv_if_lt (tgt := 28) hx hb dX2_isEdge_8 (by decide) (fun c_8 => ?_) (fun c_8 => ?_)
    · skip
      have hno : ¬ (∃ i e9, i < 8 ∧ e9 < nE i ∧ x = nI i ∧ y = nI e9) := fun ⟨_, e9, _, h1, _, h2⟩ => nI_pos (n := e9) (by have := hI; have := (hI _ (by assumption)).1; omega) (by rw [← h2]; exact c_8)
      refine lv_iconst (v := 0) hx hb dX2_isEdge_28 (by decide +kernel) ?_
      exact kx_iret (v := 0) hx hb hr rfl hlocks hK hP hD hS dX2_isEdge_29 (⟨by first | exact Or.inl ⟨rfl, hyes⟩ | exact Or.inr ⟨rfl, hno⟩, rfl⟩)
    · skip
      refine lv_iload_n hx hb dX2_isEdge_11 rfl (lv_at hl 2 rfl) ?_
      refine lv_aload_n hx hb dX2_isEdge_12 rfl (lv_at hl 0 rfl) ?_
      refine va_get (D := D) (ci := 2) (v := .ref (ad 1)) (C := RX2) (T := TX2) (N := 4) hx hb hts inX2 hown hK hP b hO rfl 0 (by decide) (hts _ tw_78) (fun _ h9 => h9) rfl dX2_isEdge_13 ?_
      refine lv_iload_n hx hb dX2_isEdge_16 rfl (lv_at hl 1 rfl) ?_
      refine kx_qald hx hb hK hP (b + 1) 1 hQ rfl (i := i) (r := (ad (9 + 3 * i))) (by omega) (by decide) (hfq _ (by omega)) dX2_isEdge_17 ?_
      refine va_get (D := D) (ci := 1) (v := .int (nI (nE i))) (C := RX1) (T := TX1) (N := 5) hx hb hts inX1 hown hK hP (b + 9 + 3 * i) hGi rfl 2 (by decide) (hts _ tw_64) (fun _ h9 => h9) rfl dX2_isEdge_18 ?_
      refine lv_icmp_ge (tgt := 28) hx hb dX2_isEdge_21 (by decide) (fun c_21 => ?_) (fun c_21 => ?_)
      · skip
        have hno : ¬ (∃ i e9, i < 8 ∧ e9 < nE i ∧ x = nI i ∧ y = nI e9) := fun ⟨i2, e9, h0, h1, h2, h3⟩ => by
          have hi2 : i2 = i := ((nI_eq (by omega) (by omega)).mp (h2.symm.trans e_x))
          subst hi2
          exact nI_ge (a := e9) (b := nE i2) h1 (by omega) (by rw [← h3]; exact c_21)
        refine lv_iconst (v := 0) hx hb dX2_isEdge_28 (by decide +kernel) ?_
        exact kx_iret (v := 0) hx hb hr rfl hlocks hK hP hD hS dX2_isEdge_29 (⟨by first | exact Or.inl ⟨rfl, hyes⟩ | exact Or.inr ⟨rfl, hno⟩, rfl⟩)
      · skip
        have hyes : (∃ i e9, i < 8 ∧ e9 < nE i ∧ x = nI i ∧ y = nI e9) := by
          rcases pk_ix y (n := nE i) (by omega) with h | h | ⟨e9, h1, h2⟩
          · exact absurd h c_8
          · exact absurd h c_21
          · exact ⟨i, e9, h8i, h1, e_x, h2⟩
        refine lv_iconst (v := 1) hx hb dX2_isEdge_24 (by decide +kernel) ?_
        refine lv_goto (tgt := 29) hx hb dX2_isEdge_25 (by decide) ?_
        exact kx_iret (v := 1) hx hb hr rfl hlocks hK hP hD hS dX2_isEdge_29 (⟨by first | exact Or.inl ⟨rfl, hyes⟩ | exact Or.inr ⟨rfl, hno⟩, rfl⟩)

set_option maxHeartbeats 4000000 in
set_option maxRecDepth 100000 in
/-- isSet(g, set) -/
theorem c_isSet (l : Launch) (D : va_G) (k0 : Nat → ClassId)  (w0 : va_W) (sz : Nat) (b : Nat) (ad nE nV : Nat → Nat) (op : Nat → Int32) (LL : Nat → Nat → Nat) (ww : Nat → Nat → Int32) (hC : atC w0 b k0 ad nE nV op LL ww) (hI : cinv nE nV LL ww) (x y : Int32) : kx_i l yX2_isSet wsX2_isSet ({ frames := 1, cells := 0, slots := 0, locals := 24 } : Room) D (tyL k0) w0 sz [.ref (ad 0), .int x, .int y] (fun (r : Int32) (u : va_W) => ((r = 1 ∧ (∃ i S, i < 8 ∧ S ≤ cf_full (nE i) ∧ x = nI i ∧ y = nI S)) ∨ (r = 0 ∧ ¬ (∃ i S, i < 8 ∧ S ≤ cf_full (nE i) ∧ x = nI i ∧ y = nI S))) ∧ u = w0) 0 0 := by
  refine kx_of (Qf := fun A => va_Qi (fun (r : Int32) (u : va_W) => ((r = 1 ∧ (∃ i S, i < 8 ∧ S ≤ cf_full (nE i) ∧ x = nI i ∧ y = nI S)) ∨ (r = 0 ∧ ¬ (∃ i S, i < 8 ∧ S ≤ cf_full (nE i) ∧ x = nI i ∧ y = nI S))) ∧ u = w0) (kx_B D (tyL k0) A) A) (cc := cX2_isSet) (maxL := 3) (ret := (some .boolean)) (by decide +kernel) (Nat.le_of_ble_eq_true rfl) ?_
  intro p e s m below meth c A ls hx hb hml hown hts hr hlocks hnm hN hK hP hD hS hA hl
  have hown : s.vm.findClass RX2 = some m.cls := hown
  have hl : lv_has ls 3 [(0, .ref (ad 0)), (1, .int x), (2, .int y)] := hl
  skip
  obtain ⟨hO, ⟨fq, hQ, hfq⟩, ⟨r1, p1, k1, hF1, hR1, hT1⟩, ⟨r2, p2, k2, hF2, hR2, hT2⟩, ⟨dr, hd⟩, hgs⟩ := id hC
  refine lv_iload_n hx hb dX2_isSet_0 rfl (lv_at hl 1 rfl) ?_
  refine kx_goi (va_runS (As := [.int x]) (rest := []) ⟨hx, hb, hml, hown, hts⟩ (c_isGraph l D k0 w0 _ x) ⟨(kg_B (k := 1) hts tw_97 tw_95 tw_19 (by decide +kernel) rfl rfl ⟨Nat.le_of_ble_eq_true rfl, Nat.le_of_ble_eq_true rfl⟩), hts _ tw_96⟩ (kx_preS hN hK hP hD) rfl rfl hl.1 rfl (lv_room (Nat.le_of_ble_eq_true rfl)) dX2_isSet_1 ⟨Nat.le_of_ble_eq_true rfl, Nat.le_of_ble_eq_true rfl⟩) hD hS hA (fun r_2 u_3 H locs hp_1 hP hD hS => ?_)
  obtain ⟨hy_x, eu⟩ := hp_1
  rw [eu] at hP hD
  refine lv_if_eq (tgt := 31) hx hb dX2_isSet_4 (by decide) (fun c_4 => ?_) (fun c_4 => ?_)
  · skip
    have hno0 := kg_0 hy_x c_4
    have hno : ¬ (∃ i S, i < 8 ∧ S ≤ cf_full (nE i) ∧ x = nI i ∧ y = nI S) := fun ⟨i, _, h1, _, h2, _⟩ => hno0 ⟨i, h1, h2⟩
    refine lv_iconst (v := 0) hx hb dX2_isSet_31 (by decide +kernel) ?_
    exact kx_iret (v := 0) hx hb hr rfl hlocks hK hP hD hS dX2_isSet_32 (⟨by first | exact Or.inl ⟨rfl, hyes⟩ | exact Or.inr ⟨rfl, hno⟩, rfl⟩)
  · skip
    obtain ⟨i, h8i, e_x⟩ := kg_1 hy_x c_4
    rw [e_x] at hl
    obtain ⟨hGi, hLi, hWi⟩ := hgs i h8i
    obtain ⟨hni, hvi, hl2i, hw2i⟩ := hI i h8i
    have hfl := kb_full_lt hni
    refine lv_iload_n hx hb dX2_isSet_7 rfl (lv_at hl 2 rfl) ?_
    refine lv_if_lt (tgt := 31) hx hb dX2_isSet_8 (by decide) (fun c_8 => ?_) (fun c_8 => ?_)
    · skip
      have hno : ¬ (∃ i S, i < 8 ∧ S ≤ cf_full (nE i) ∧ x = nI i ∧ y = nI S) := fun ⟨i2, e9, h0, h1, _, h2⟩ => nI_pos (n := e9) (by have := kb_full_lt (hI i2 h0).1; omega) (by rw [← h2]; exact c_8)
      refine lv_iconst (v := 0) hx hb dX2_isSet_31 (by decide +kernel) ?_
      exact kx_iret (v := 0) hx hb hr rfl hlocks hK hP hD hS dX2_isSet_32 (⟨by first | exact Or.inl ⟨rfl, hyes⟩ | exact Or.inr ⟨rfl, hno⟩, rfl⟩)
    · skip
      refine lv_iload_n hx hb dX2_isSet_11 rfl (lv_at hl 2 rfl) ?_
      refine lv_aload_n hx hb dX2_isSet_12 rfl (lv_at hl 0 rfl) ?_
      refine va_get (D := D) (ci := 2) (v := .ref (ad 1)) (C := RX2) (T := TX2) (N := 4) hx hb hts inX2 hown hK hP b hO rfl 0 (by decide) (hts _ tw_78) (fun _ h9 => h9) rfl dX2_isSet_13 ?_
      refine lv_iload_n hx hb dX2_isSet_16 rfl (lv_at hl 1 rfl) ?_
      refine kx_qald hx hb hK hP (b + 1) 1 hQ rfl (i := i) (r := (ad (9 + 3 * i))) (by omega) (by decide) (hfq _ (by omega)) dX2_isSet_17 ?_
      refine va_get (D := D) (ci := 1) (v := .int (nI (nE i))) (C := RX1) (T := TX1) (N := 5) hx hb hts inX1 hown hK hP (b + 9 + 3 * i) hGi rfl 2 (by decide) (hts _ tw_64) (fun _ h9 => h9) rfl dX2_isSet_18 ?_
      refine kx_goi (va_runS (As := [.int (nI (nE i))]) (rest := [.int y]) ⟨hx, hb, hml, hown, hts⟩ (c_all l D k0 w0 _ (nE i) hni) ⟨(kg_B (k := 1) hts tw_132 tw_130 tw_19 (by decide +kernel) rfl rfl ⟨Nat.le_of_ble_eq_true rfl, Nat.le_of_ble_eq_true rfl⟩), hts _ tw_131⟩ (kx_preS hN hK hP hD) rfl rfl hl.1 rfl (lv_room (Nat.le_of_ble_eq_true rfl)) dX2_isSet_21 ⟨Nat.le_of_ble_eq_true rfl, Nat.le_of_ble_eq_true rfl⟩) hD hS hA (fun r_5 u_6 H locs hp_4 hP hD hS => ?_)
      obtain ⟨er_5, eu_6⟩ := hp_4
      rw [eu_6] at hP hD; subst er_5
      refine lv_icmp_gt (tgt := 31) hx hb dX2_isSet_24 (by decide) (fun c_24 => ?_) (fun c_24 => ?_)
      · skip
        have hno : ¬ (∃ i S, i < 8 ∧ S ≤ cf_full (nE i) ∧ x = nI i ∧ y = nI S) := fun ⟨i2, e9, h0, h1, h2, h3⟩ => by
          have hi2 : i2 = i := ((nI_eq (by omega) (by omega)).mp (h2.symm.trans e_x))
          subst hi2
          rw [h3] at c_24
          have := (nI_ltI (by omega) (by omega)).mp c_24
          omega
        refine lv_iconst (v := 0) hx hb dX2_isSet_31 (by decide +kernel) ?_
        exact kx_iret (v := 0) hx hb hr rfl hlocks hK hP hD hS dX2_isSet_32 (⟨by first | exact Or.inl ⟨rfl, hyes⟩ | exact Or.inr ⟨rfl, hno⟩, rfl⟩)
      · skip
        have hyes : (∃ i S, i < 8 ∧ S ≤ cf_full (nE i) ∧ x = nI i ∧ y = nI S) := by
          obtain ⟨S, h1, h2⟩ := nI_of c_8
          refine ⟨i, S, h8i, ?_, e_x, h2⟩
          rw [h2] at c_24
          rcases Nat.lt_or_ge (cf_full (nE i)) S with h | h
          · exact absurd ((nI_ltI (by omega) (by omega)).mpr h) c_24
          · exact h
        refine lv_iconst (v := 1) hx hb dX2_isSet_27 (by decide +kernel) ?_
        refine lv_goto (tgt := 32) hx hb dX2_isSet_28 (by decide) ?_
        exact kx_iret (v := 1) hx hb hr rfl hlocks hK hP hD hS dX2_isSet_32 (⟨by first | exact Or.inl ⟨rfl, hyes⟩ | exact Or.inr ⟨rfl, hno⟩, rfl⟩)

set_option maxHeartbeats 4000000 in
set_option maxRecDepth 100000 in
/-- areAlike(g, h) -/
theorem c_areAlike (l : Launch) (D : va_G) (k0 : Nat → ClassId)  (w0 : va_W) (sz : Nat) (b : Nat) (ad nE nV : Nat → Nat) (op : Nat → Int32) (LL : Nat → Nat → Nat) (ww : Nat → Nat → Int32) (hC : atC w0 b k0 ad nE nV op LL ww) (hI : cinv nE nV LL ww) (x y : Int32) : kx_i l yX2_areAlike wsX2_areAlike ({ frames := 1, cells := 0, slots := 0, locals := 24 } : Room) D (tyL k0) w0 sz [.ref (ad 0), .int x, .int y] (fun (r : Int32) (u : va_W) => ((r = 1 ∧ (∃ i j, i < 8 ∧ j < 8 ∧ nE i = nE j ∧ x = nI i ∧ y = nI j)) ∨ (r = 0 ∧ ¬ (∃ i j, i < 8 ∧ j < 8 ∧ nE i = nE j ∧ x = nI i ∧ y = nI j))) ∧ u = w0) 0 0 := by
  refine kx_of (Qf := fun A => va_Qi (fun (r : Int32) (u : va_W) => ((r = 1 ∧ (∃ i j, i < 8 ∧ j < 8 ∧ nE i = nE j ∧ x = nI i ∧ y = nI j)) ∨ (r = 0 ∧ ¬ (∃ i j, i < 8 ∧ j < 8 ∧ nE i = nE j ∧ x = nI i ∧ y = nI j))) ∧ u = w0) (kx_B D (tyL k0) A) A) (cc := cX2_areAlike) (maxL := 3) (ret := (some .boolean)) (by decide +kernel) (Nat.le_of_ble_eq_true rfl) ?_
  intro p e s m below meth c A ls hx hb hml hown hts hr hlocks hnm hN hK hP hD hS hA hl
  have hown : s.vm.findClass RX2 = some m.cls := hown
  have hl : lv_has ls 3 [(0, .ref (ad 0)), (1, .int x), (2, .int y)] := hl
  skip
  obtain ⟨hO, ⟨fq, hQ, hfq⟩, ⟨r1, p1, k1, hF1, hR1, hT1⟩, ⟨r2, p2, k2, hF2, hR2, hT2⟩, ⟨dr, hd⟩, hgs⟩ := id hC
  refine lv_iload_n hx hb dX2_areAlike_0 rfl (lv_at hl 1 rfl) ?_
  refine kx_goi (va_runS (As := [.int x]) (rest := []) ⟨hx, hb, hml, hown, hts⟩ (c_isGraph l D k0 w0 _ x) ⟨(kg_B (k := 1) hts tw_97 tw_95 tw_19 (by decide +kernel) rfl rfl ⟨Nat.le_of_ble_eq_true rfl, Nat.le_of_ble_eq_true rfl⟩), hts _ tw_96⟩ (kx_preS hN hK hP hD) rfl rfl hl.1 rfl (lv_room (Nat.le_of_ble_eq_true rfl)) dX2_areAlike_1 ⟨Nat.le_of_ble_eq_true rfl, Nat.le_of_ble_eq_true rfl⟩) hD hS hA (fun r_2 u_3 H locs hp_1 hP hD hS => ?_)
  obtain ⟨hy_x, eu⟩ := hp_1
  rw [eu] at hP hD
  refine lv_if_eq (tgt := 39) hx hb dX2_areAlike_4 (by decide) (fun c_4 => ?_) (fun c_4 => ?_)
  · skip
    have hno0 := kg_0 hy_x c_4
    have hno : ¬ (∃ i j, i < 8 ∧ j < 8 ∧ nE i = nE j ∧ x = nI i ∧ y = nI j) := fun ⟨i, _, h1, _, _, h2, _⟩ => hno0 ⟨i, h1, h2⟩
    refine lv_iconst (v := 0) hx hb dX2_areAlike_39 (by decide +kernel) ?_
    exact kx_iret (v := 0) hx hb hr rfl hlocks hK hP hD hS dX2_areAlike_40 (⟨by first | exact Or.inl ⟨rfl, hyes⟩ | exact Or.inr ⟨rfl, hno⟩, rfl⟩)
  · skip
    obtain ⟨i, h8i, e_x⟩ := kg_1 hy_x c_4
    rw [e_x] at hl
    obtain ⟨hGi, hLi, hWi⟩ := hgs i h8i
    obtain ⟨hni, hvi, hl2i, hw2i⟩ := hI i h8i
    refine lv_iload_n hx hb dX2_areAlike_7 rfl (lv_at hl 2 rfl) ?_
    refine kx_goi (va_runS (As := [.int y]) (rest := []) ⟨hx, hb, hml, hown, hts⟩ (c_isGraph l D k0 w0 _ y) ⟨(kg_B (k := 1) hts tw_97 tw_95 tw_19 (by decide +kernel) rfl rfl ⟨Nat.le_of_ble_eq_true rfl, Nat.le_of_ble_eq_true rfl⟩), hts _ tw_96⟩ (kx_preS hN hK hP hD) rfl rfl hl.1 rfl (lv_room (Nat.le_of_ble_eq_true rfl)) dX2_areAlike_8 ⟨Nat.le_of_ble_eq_true rfl, Nat.le_of_ble_eq_true rfl⟩) hD hS hA (fun r_5 u_6 H locs hp_4 hP hD hS => ?_)
    obtain ⟨hy_y, eu⟩ := hp_4
    rw [eu] at hP hD
    refine lv_if_eq (tgt := 39) hx hb dX2_areAlike_11 (by decide) (fun c_11 => ?_) (fun c_11 => ?_)
    · skip
      have hno0 := kg_0 hy_y c_11
      have hno : ¬ (∃ i j, i < 8 ∧ j < 8 ∧ nE i = nE j ∧ x = nI i ∧ y = nI j) := fun ⟨_, j, _, h1, _, _, h2⟩ => hno0 ⟨j, h1, h2⟩
      refine lv_iconst (v := 0) hx hb dX2_areAlike_39 (by decide +kernel) ?_
      exact kx_iret (v := 0) hx hb hr rfl hlocks hK hP hD hS dX2_areAlike_40 (⟨by first | exact Or.inl ⟨rfl, hyes⟩ | exact Or.inr ⟨rfl, hno⟩, rfl⟩)
    · skip
      obtain ⟨j, h8j, e_y⟩ := kg_1 hy_y c_11
      rw [e_y] at hl
      obtain ⟨hGj, hLj, hWj⟩ := hgs j h8j
      obtain ⟨hnj, hvj, hl2j, hw2j⟩ := hI j h8j
      refine lv_aload_n hx hb dX2_areAlike_14 rfl (lv_at hl 0 rfl) ?_
      refine va_get (D := D) (ci := 2) (v := .ref (ad 1)) (C := RX2) (T := TX2) (N := 4) hx hb hts inX2 hown hK hP b hO rfl 0 (by decide) (hts _ tw_78) (fun _ h9 => h9) rfl dX2_areAlike_15 ?_
      refine lv_iload_n hx hb dX2_areAlike_18 rfl (lv_at hl 1 rfl) ?_
      refine kx_qald hx hb hK hP (b + 1) 1 hQ rfl (i := i) (r := (ad (9 + 3 * i))) (by omega) (by decide) (hfq _ (by omega)) dX2_areAlike_19 ?_
      refine va_get (D := D) (ci := 1) (v := .int (nI (nE i))) (C := RX1) (T := TX1) (N := 5) hx hb hts inX1 hown hK hP (b + 9 + 3 * i) hGi rfl 2 (by decide) (hts _ tw_64) (fun _ h9 => h9) rfl dX2_areAlike_20 ?_
      refine lv_aload_n hx hb dX2_areAlike_23 rfl (lv_at hl 0 rfl) ?_
      refine va_get (D := D) (ci := 2) (v := .ref (ad 1)) (C := RX2) (T := TX2) (N := 4) hx hb hts inX2 hown hK hP b hO rfl 0 (by decide) (hts _ tw_78) (fun _ h9 => h9) rfl dX2_areAlike_24 ?_
      refine lv_iload_n hx hb dX2_areAlike_27 rfl (lv_at hl 2 rfl) ?_
      refine kx_qald hx hb hK hP (b + 1) 1 hQ rfl (i := j) (r := (ad (9 + 3 * j))) (by omega) (by decide) (hfq _ (by omega)) dX2_areAlike_28 ?_
      refine va_get (D := D) (ci := 1) (v := .int (nI (nE j))) (C := RX1) (T := TX1) (N := 5) hx hb hts inX1 hown hK hP (b + 9 + 3 * j) hGj rfl 2 (by decide) (hts _ tw_64) (fun _ h9 => h9) rfl dX2_areAlike_29 ?_
      refine lv_icmp_ne (tgt := 39) hx hb dX2_areAlike_32 (by decide) (fun c_32 => ?_) (fun c_32 => ?_)
      · skip
        have hno : ¬ (∃ i j, i < 8 ∧ j < 8 ∧ nE i = nE j ∧ x = nI i ∧ y = nI j) := fun ⟨i2, j2, h0, h1, h2, h3, h4⟩ => by
          have hi2 : i2 = i := ((nI_eq (by omega) (by omega)).mp (h3.symm.trans e_x))
          have hj2 : j2 = j := ((nI_eq (by omega) (by omega)).mp (h4.symm.trans e_y))
          subst hi2; subst hj2
          exact c_32 (by rw [h2])
        refine lv_iconst (v := 0) hx hb dX2_areAlike_39 (by decide +kernel) ?_
        exact kx_iret (v := 0) hx hb hr rfl hlocks hK hP hD hS dX2_areAlike_40 (⟨by first | exact Or.inl ⟨rfl, hyes⟩ | exact Or.inr ⟨rfl, hno⟩, rfl⟩)
      · skip
        have hyes : (∃ i j, i < 8 ∧ j < 8 ∧ nE i = nE j ∧ x = nI i ∧ y = nI j) := ⟨i, j, h8i, h8j, by
          have h9 : nI (nE i) = nI (nE j) := c_32
          exact (nI_eq (by omega) (by omega)).mp h9, e_x, e_y⟩
        refine lv_iconst (v := 1) hx hb dX2_areAlike_35 (by decide +kernel) ?_
        refine lv_goto (tgt := 40) hx hb dX2_areAlike_36 (by decide) ?_
        exact kx_iret (v := 1) hx hb hr rfl hlocks hK hP hD hS dX2_areAlike_40 (⟨by first | exact Or.inl ⟨rfl, hyes⟩ | exact Or.inr ⟨rfl, hno⟩, rfl⟩)

set_option maxHeartbeats 4000000 in
set_option maxRecDepth 100000 in
/-- edges(g) -/
theorem c_edges (l : Launch) (D : va_G) (k0 : Nat → ClassId)  (w0 : va_W) (sz : Nat) (b : Nat) (ad nE nV : Nat → Nat) (op : Nat → Int32) (LL : Nat → Nat → Nat) (ww : Nat → Nat → Int32) (hC : atC w0 b k0 ad nE nV op LL ww) (hI : cinv nE nV LL ww) (x : Int32) : kx_i l yX2_edges wsX2_edges ({ frames := 1, cells := 0, slots := 0, locals := 24 } : Room) D (tyL k0) w0 sz [.ref (ad 0), .int x] (fun (r : Int32) (u : va_W) => ((∃ i, i < 8 ∧ x = nI i ∧ r = nI (nE i)) ∨ ((¬ ∃ i, i < 8 ∧ x = nI i) ∧ r = -1)) ∧ u = w0) 0 0 := by
  refine kx_of (Qf := fun A => va_Qi (fun (r : Int32) (u : va_W) => ((∃ i, i < 8 ∧ x = nI i ∧ r = nI (nE i)) ∨ ((¬ ∃ i, i < 8 ∧ x = nI i) ∧ r = -1)) ∧ u = w0) (kx_B D (tyL k0) A) A) (cc := cX2_edges) (maxL := 2) (ret := (some .int)) (by decide +kernel) (Nat.le_of_ble_eq_true rfl) ?_
  intro p e s m below meth c A ls hx hb hml hown hts hr hlocks hnm hN hK hP hD hS hA hl
  have hown : s.vm.findClass RX2 = some m.cls := hown
  have hl : lv_has ls 2 [(0, .ref (ad 0)), (1, .int x)] := hl
  skip
  obtain ⟨hO, ⟨fq, hQ, hfq⟩, ⟨r1, p1, k1, hF1, hR1, hT1⟩, ⟨r2, p2, k2, hF2, hR2, hT2⟩, ⟨dr, hd⟩, hgs⟩ := id hC
  refine lv_iload_n hx hb dX2_edges_0 rfl (lv_at hl 1 rfl) ?_
  refine kx_goi (va_runS (As := [.int x]) (rest := []) ⟨hx, hb, hml, hown, hts⟩ (c_isGraph l D k0 w0 _ x) ⟨(kg_B (k := 1) hts tw_97 tw_95 tw_19 (by decide +kernel) rfl rfl ⟨Nat.le_of_ble_eq_true rfl, Nat.le_of_ble_eq_true rfl⟩), hts _ tw_96⟩ (kx_preS hN hK hP hD) rfl rfl hl.1 rfl (lv_room (Nat.le_of_ble_eq_true rfl)) dX2_edges_1 ⟨Nat.le_of_ble_eq_true rfl, Nat.le_of_ble_eq_true rfl⟩) hD hS hA (fun r_2 u_3 H locs hp_1 hP hD hS => ?_)
  obtain ⟨hy_x, eu⟩ := hp_1
  rw [eu] at hP hD
  refine lv_if_eq (tgt := 19) hx hb dX2_edges_4 (by decide) (fun c_4 => ?_) (fun c_4 => ?_)
  · skip
    have hno := kg_0 hy_x c_4
    refine lv_iconst (v := -1) hx hb dX2_edges_19 (by decide +kernel) ?_
    exact kx_iret (v := -1) hx hb hr rfl hlocks hK hP hD hS dX2_edges_20 (⟨by first | exact Or.inl ⟨i, h8i, e_x, rfl⟩ | exact Or.inr ⟨hno, rfl⟩, rfl⟩)
  · skip
    obtain ⟨i, h8i, e_x⟩ := kg_1 hy_x c_4
    rw [e_x] at hl
    obtain ⟨hGi, hLi, hWi⟩ := hgs i h8i
    obtain ⟨hni, hvi, hl2i, hw2i⟩ := hI i h8i
    refine lv_aload_n hx hb dX2_edges_7 rfl (lv_at hl 0 rfl) ?_
    refine va_get (D := D) (ci := 2) (v := .ref (ad 1)) (C := RX2) (T := TX2) (N := 4) hx hb hts inX2 hown hK hP b hO rfl 0 (by decide) (hts _ tw_78) (fun _ h9 => h9) rfl dX2_edges_8 ?_
    refine lv_iload_n hx hb dX2_edges_11 rfl (lv_at hl 1 rfl) ?_
    refine kx_qald hx hb hK hP (b + 1) 1 hQ rfl (i := i) (r := (ad (9 + 3 * i))) (by omega) (by decide) (hfq _ (by omega)) dX2_edges_12 ?_
    refine va_get (D := D) (ci := 1) (v := .int (nI (nE i))) (C := RX1) (T := TX1) (N := 5) hx hb hts inX1 hown hK hP (b + 9 + 3 * i) hGi rfl 2 (by decide) (hts _ tw_64) (fun _ h9 => h9) rfl dX2_edges_13 ?_
    refine lv_goto (tgt := 20) hx hb dX2_edges_16 (by decide) ?_
    exact kx_iret (v := nI (nE i)) hx hb hr rfl hlocks hK hP hD hS dX2_edges_20 (⟨by first | exact Or.inl ⟨i, h8i, e_x, rfl⟩ | exact Or.inr ⟨hno, rfl⟩, rfl⟩)

set_option maxHeartbeats 4000000 in
set_option maxRecDepth 100000 in
/-- weight(g, e) -/
theorem c_weight (l : Launch) (D : va_G) (k0 : Nat → ClassId)  (w0 : va_W) (sz : Nat) (b : Nat) (ad nE nV : Nat → Nat) (op : Nat → Int32) (LL : Nat → Nat → Nat) (ww : Nat → Nat → Int32) (hC : atC w0 b k0 ad nE nV op LL ww) (hI : cinv nE nV LL ww) (x y : Int32) : kx_i l yX2_weight wsX2_weight ({ frames := 2, cells := 0, slots := 0, locals := 48 } : Room) D (tyL k0) w0 sz [.ref (ad 0), .int x, .int y] (fun (r : Int32) (u : va_W) => ((∃ i e9, i < 8 ∧ e9 < nE i ∧ x = nI i ∧ y = nI e9 ∧ r = ww i e9) ∨ (¬ (∃ i e9, i < 8 ∧ e9 < nE i ∧ x = nI i ∧ y = nI e9) ∧ r = 0)) ∧ u = w0) 0 0 := by
  refine kx_of (Qf := fun A => va_Qi (fun (r : Int32) (u : va_W) => ((∃ i e9, i < 8 ∧ e9 < nE i ∧ x = nI i ∧ y = nI e9 ∧ r = ww i e9) ∨ (¬ (∃ i e9, i < 8 ∧ e9 < nE i ∧ x = nI i ∧ y = nI e9) ∧ r = 0)) ∧ u = w0) (kx_B D (tyL k0) A) A) (cc := cX2_weight) (maxL := 3) (ret := (some .int)) (by decide +kernel) (Nat.le_of_ble_eq_true rfl) ?_
  intro p e s m below meth c A ls hx hb hml hown hts hr hlocks hnm hN hK hP hD hS hA hl
  have hown : s.vm.findClass RX2 = some m.cls := hown
  have hl : lv_has ls 3 [(0, .ref (ad 0)), (1, .int x), (2, .int y)] := hl
  skip
  obtain ⟨hO, ⟨fq, hQ, hfq⟩, ⟨r1, p1, k1, hF1, hR1, hT1⟩, ⟨r2, p2, k2, hF2, hR2, hT2⟩, ⟨dr, hd⟩, hgs⟩ := id hC
  refine lv_aload_n hx hb dX2_weight_0 rfl (lv_at hl 0 rfl) ?_
  refine lv_iload_n hx hb dX2_weight_1 rfl (lv_at hl 1 rfl) ?_
  refine lv_iload_n hx hb dX2_weight_2 rfl (lv_at hl 2 rfl) ?_
  refine kx_goi (va_runV (As := [.int x, .int y]) (rest := []) ⟨hx, hb, hml, hown, hts⟩ (c_isEdge l D k0 w0 _ b ad nE nV op LL ww hC hI x y) ⟨(kg_B (k := 2) hts tw_121 tw_118 tw_19 (by decide +kernel) rfl rfl ⟨Nat.le_of_ble_eq_true rfl, Nat.le_of_ble_eq_true rfl⟩), hts _ tw_120, hts _ tw_0⟩ (kx_preV hN hK hP hD rfl hO) rfl rfl hl.1 rfl (lv_room (Nat.le_of_ble_eq_true rfl)) dX2_weight_3 ⟨Nat.le_of_ble_eq_true rfl, Nat.le_of_ble_eq_true rfl⟩) hD hS hA (fun r_2 u_3 H locs hp_1 hP hD hS => ?_)
  obtain ⟨hy_, eu⟩ := hp_1
  rw [eu] at hP hD
  refine lv_if_eq (tgt := 23) hx hb dX2_weight_6 (by decide) (fun c_6 => ?_) (fun c_6 => ?_)
  · skip
    have hno := kg_0 hy_ c_6
    refine lv_iconst (v := 0) hx hb dX2_weight_23 (by decide +kernel) ?_
    exact kx_iret (v := 0) hx hb hr rfl hlocks hK hP hD hS dX2_weight_24 (⟨by first | exact Or.inl ⟨i, e9, h8i, he9, e_x, e_y, rfl⟩ | exact Or.inr ⟨hno, rfl⟩, rfl⟩)
  · skip
    obtain ⟨i, e9, h8i, he9, e_x, e_y⟩ := kg_1 hy_ c_6
    rw [e_x, e_y] at hl
    obtain ⟨hGi, hLi, hWi⟩ := hgs i h8i
    obtain ⟨hni, hvi, hl2i, hw2i⟩ := hI i h8i
    refine lv_aload_n hx hb dX2_weight_9 rfl (lv_at hl 0 rfl) ?_
    refine va_get (D := D) (ci := 2) (v := .ref (ad 1)) (C := RX2) (T := TX2) (N := 4) hx hb hts inX2 hown hK hP b hO rfl 0 (by decide) (hts _ tw_78) (fun _ h9 => h9) rfl dX2_weight_10 ?_
    refine lv_iload_n hx hb dX2_weight_13 rfl (lv_at hl 1 rfl) ?_
    refine kx_qald hx hb hK hP (b + 1) 1 hQ rfl (i := i) (r := (ad (9 + 3 * i))) (by omega) (by decide) (hfq _ (by omega)) dX2_weight_14 ?_
    refine va_get (D := D) (ci := 1) (v := .ref (ad (11 + 3 * i))) (C := RX1) (T := TX1) (N := 5) hx hb hts inX1 hown hK hP (b + 9 + 3 * i) hGi rfl 1 (by decide) (hts _ tw_61) (fun _ h9 => h9) rfl dX2_weight_15 ?_
    refine lv_iload_n hx hb dX2_weight_18 rfl (lv_at hl 2 rfl) ?_
    refine kx_iald hx hb hK hP (b + 9 + 3 * i + 2) hWi rfl (i := e9) (by omega) (by decide) dX2_weight_19 ?_
    refine lv_goto (tgt := 24) hx hb dX2_weight_20 (by decide) ?_
    exact kx_iret (v := (ww i) e9) hx hb hr rfl hlocks hK hP hD hS dX2_weight_24 (⟨by first | exact Or.inl ⟨i, e9, h8i, he9, e_x, e_y, rfl⟩ | exact Or.inr ⟨hno, rfl⟩, rfl⟩)
