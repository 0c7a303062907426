set_option maxHeartbeats 4000000 in
set_option maxRecDepth 100000 in
/-- begin(g, vertices) -/
theorem c_begin (l : Launch) (D : va_G) (k0 : Nat → ClassId)  (w0 : va_W) (sz : Nat) (b : Nat) (ad nE nV : Nat → Nat) (op : Nat → Int32) (LL : Nat → Nat → Nat) (ww : Nat → Nat → Int32) (hC : atC w0 b k0 ad nE nV op LL ww) (hI : cinv nE nV LL ww) (x y : Int32) : kx_i l yX2_begin wsX2_begin ({ frames := 1, cells := 0, slots := 0, locals := 24 } : Room) D (tyL k0) w0 sz [.ref (ad 0), .int x, .int y] (fun (r : Int32) (u : va_W) => ((∃ i v, i < 8 ∧ 1 ≤ v ∧ v ≤ 13 ∧ x = nI i ∧ y = nI v ∧ r = 1 ∧ atC u b k0 ad (va_up nE i 0) (va_up nV i v) (va_up op i 1) (va_up LL i (LL i)) (va_up ww i (ww i))) ∨ (¬ (∃ i v, i < 8 ∧ 1 ≤ v ∧ v ≤ 13 ∧ x = nI i ∧ y = nI v) ∧ r = 0 ∧ u = w0)) ∧ kx_fr w0 u (fun j => b ≤ j ∧ j < b + 33)) 0 0 := by
  refine kx_of (Qf := fun A => va_Qi (fun (r : Int32) (u : va_W) => ((∃ i v, i < 8 ∧ 1 ≤ v ∧ v ≤ 13 ∧ x = nI i ∧ y = nI v ∧ r = 1 ∧ atC u b k0 ad (va_up nE i 0) (va_up nV i v) (va_up op i 1) (va_up LL i (LL i)) (va_up ww i (ww i))) ∨ (¬ (∃ i v, i < 8 ∧ 1 ≤ v ∧ v ≤ 13 ∧ x = nI i ∧ y = nI v) ∧ r = 0 ∧ u = w0)) ∧ kx_fr w0 u (fun j => b ≤ j ∧ j < b + 33)) (kx_B D (tyL k0) A) A) (cc := cX2_begin) (maxL := 3) (ret := (some .boolean)) (by decide +kernel) (Nat.le_of_ble_eq_true rfl) ?_
  intro p e s m below meth c A ls hx hb hml hown hts hr hlocks hnm hN hK hP hD hS hA hl
  have hown : s.vm.findClass RX2 = some m.cls := hown
  have hl : lv_has ls 3 [(0, .ref (ad 0)), (1, .int x), (2, .int y)] := hl
  skip
  obtain ⟨hO, ⟨fq, hQ, hfq⟩, ⟨r1, p1, k1, hF1, hR1, hT1⟩, ⟨r2, p2, k2, hF2, hR2, hT2⟩, ⟨dr, hd⟩, hgs⟩ := id hC
  refine lv_iload_n hx hb dX2_begin_0 rfl (lv_at hl 1 rfl) ?_
  refine kx_goi (va_runS (As := [.int x]) (rest := []) ⟨hx, hb, hml, hown, hts⟩ (c_isGraph l D k0 w0 _ x) ⟨(kg_B (k := 1) hts tw_97 tw_95 tw_19 (by decide +kernel) rfl rfl ⟨Nat.le_of_ble_eq_true rfl, Nat.le_of_ble_eq_true rfl⟩), hts _ tw_96⟩ (kx_preS hN hK hP hD) rfl rfl hl.1 rfl (lv_room (Nat.le_of_ble_eq_true rfl)) dX2_begin_1 ⟨Nat.le_of_ble_eq_true rfl, Nat.le_of_ble_eq_true rfl⟩) hD hS hA (fun r_2 u_3 H locs hp_1 hP hD hS => ?_)
  obtain ⟨hy_x, eu⟩ := hp_1
  rw [eu] at hP hD
  refine lv_if_eq (tgt := 18) hx hb dX2_begin_4 (by decide) (fun c_4 => ?_) (fun c_4 => ?_)
  · skip
    have hno0 := kg_0 hy_x c_4
    have hno : ¬ (∃ i v, i < 8 ∧ 1 ≤ v ∧ v ≤ 13 ∧ x = nI i ∧ y = nI v) := fun ⟨i, _, h1, _, _, h2, _⟩ => hno0 ⟨i, h1, h2⟩
    refine lv_iconst (v := 0) hx hb dX2_begin_18 (by decide +kernel) ?_
    exact kx_iret (v := 0) hx hb hr rfl hlocks hK hP hD hS dX2_begin_19 (⟨Or.inr ⟨hno, rfl, rfl⟩, kx_fr_rf _ _⟩)
  · skip
    obtain ⟨i, h8i, e_x⟩ := kg_1 hy_x c_4
    rw [e_x] at hl
    obtain ⟨hGi, hLi, hWi⟩ := hgs i h8i
    obtain ⟨hni, hvi, hl2i, hw2i⟩ := hI i h8i
    refine lv_iload_n hx hb dX2_begin_7 rfl (lv_at hl 2 rfl) ?_
    refine lv_iconst (v := nI 1) hx hb dX2_begin_8 (by decide +kernel) ?_
    refine lv_icmp_lt (tgt := 18) hx hb dX2_begin_9 (by decide) (fun c_9 => ?_) (fun c_9 => ?_)
    · skip
      have hno : ¬ (∃ i v, i < 8 ∧ 1 ≤ v ∧ v ≤ 13 ∧ x = nI i ∧ y = nI v) := fun ⟨_, v, _, h1, h2, _, h3⟩ => by
        rw [h3] at c_9
        have := (nI_ltI (by omega) (by omega)).mp c_9
        omega
      refine lv_iconst (v := 0) hx hb dX2_begin_18 (by decide +kernel) ?_
      exact kx_iret (v := 0) hx hb hr rfl hlocks hK hP hD hS dX2_begin_19 (⟨Or.inr ⟨hno, rfl, rfl⟩, kx_fr_rf _ _⟩)
    · skip
      refine lv_iload_n hx hb dX2_begin_12 rfl (lv_at hl 2 rfl) ?_
      refine lv_bipush (v := nI 13) hx hb dX2_begin_13 (by decide +kernel) ?_
      refine lv_icmp_le (tgt := 20) hx hb dX2_begin_15 (by decide) (fun c_15 => ?_) (fun c_15 => ?_)
      · skip
        obtain ⟨v, hv1, hv2, e_y⟩ : ∃ v : Nat, 1 ≤ v ∧ v ≤ 13 ∧ y = nI v := by
          have hp : ¬ y < 0 := fun h => c_9 (Int32.lt_trans h (by decide))
          obtain ⟨v, h1, h2⟩ := nI_of hp
          rw [h2] at c_9 c_15
          have h3 := (nI_leI (by omega) (by omega)).mp c_15
          refine ⟨v, ?_, h3, h2⟩
          rcases Nat.lt_or_ge v 1 with h | h
          · exact absurd ((nI_ltI (by omega) (by omega)).mpr h) c_9
          · exact h
        rw [e_y] at hl
        refine lv_aload_n hx hb dX2_begin_20 rfl (lv_at hl 0 rfl) ?_
        refine va_get (D := D) (ci := 2) (v := .ref (ad 1)) (C := RX2) (T := TX2) (N := 4) hx hb hts inX2 hown hK hP b hO rfl 0 (by decide) (hts _ tw_78) (fun _ h9 => h9) rfl dX2_begin_21 ?_
        refine lv_iload_n hx hb dX2_begin_24 rfl (lv_at hl 1 rfl) ?_
        refine kx_qald hx hb hK hP (b + 1) 1 hQ rfl (i := i) (r := (ad (9 + 3 * i))) (by omega) (by decide) (hfq _ (by omega)) dX2_begin_25 ?_
        refine lv_iload_n hx hb dX2_begin_26 rfl (lv_at hl 2 rfl) ?_
        refine kx_gov (va_runV (As := [.int (nI v)]) (rest := []) ⟨hx, hb, hml, hown, hts⟩ (c_restart l D k0 w0 _ (b + 9 + 3 * i) (ad (9 + 3 * i)) (ad (10 + 3 * i)) (ad (11 + 3 * i)) (LL i) (ww i) (nE i) (nI (nV i)) (op i) hGi hLi hWi (nI v)) ⟨(kg_B (k := 1) hts tw_101 tw_98 tw_21 (by decide +kernel) rfl rfl ⟨Nat.le_of_ble_eq_true rfl, Nat.le_of_ble_eq_true rfl⟩), hts _ tw_99, hts _ tw_100⟩ (kx_preV hN hK hP hD rfl hGi) rfl rfl hl.1 rfl (lv_room (Nat.le_of_ble_eq_true rfl)) dX2_begin_27 ⟨Nat.le_of_ble_eq_true rfl, Nat.le_of_ble_eq_true rfl⟩) hD hS hA (fun u_6 H locs hp_4 hP hD hS => ?_)
        obtain ⟨hg, hq⟩ := hp_4
        refine lv_iconst (v := 1) hx hb dX2_begin_30 (by decide +kernel) ?_
        exact kx_iret (v := 1) hx hb hr rfl hlocks hK hP hD hS dX2_begin_31 (⟨Or.inl ⟨i, v, h8i, hv1, hv2, e_x, e_y, rfl, atC_put hC hq hg⟩, kx_fr_mono hq (fun j h => by omega)⟩)
      · skip
        have hno : ¬ (∃ i v, i < 8 ∧ 1 ≤ v ∧ v ≤ 13 ∧ x = nI i ∧ y = nI v) := fun ⟨_, v, _, h1, h2, _, h3⟩ => by
          rw [h3] at c_15
          exact c_15 ((nI_leI (by omega) (by omega)).mpr h2)
        refine lv_iconst (v := 0) hx hb dX2_begin_18 (by decide +kernel) ?_
        exact kx_iret (v := 0) hx hb hr rfl hlocks hK hP hD hS dX2_begin_19 (⟨Or.inr ⟨hno, rfl, rfl⟩, kx_fr_rf _ _⟩)

set_option maxHeartbeats 4000000 in
set_option maxRecDepth 100000 in
/-- add(g, a, b) -/
theorem c_add (l : Launch) (D : va_G) (k0 : Nat → ClassId)  (w0 : va_W) (sz : Nat) (b : Nat) (ad nE nV : Nat → Nat) (op : Nat → Int32) (LL : Nat → Nat → Nat) (ww : Nat → Nat → Int32) (hC : atC w0 b k0 ad nE nV op LL ww) (hI : cinv nE nV LL ww) (x y z : Int32) : kx_i l yX2_add wsX2_add ({ frames := 1, cells := 0, slots := 0, locals := 24 } : Room) D (tyL k0) w0 sz [.ref (ad 0), .int x, .int y, .int z] (fun (r : Int32) (u : va_W) => ((∃ i a c9, i < 8 ∧ op i ≠ 0 ∧ a < nV i ∧ c9 < nV i ∧ nE i < 12 ∧ x = nI i ∧ y = nI a ∧ z = nI c9 ∧ r = nI (nE i) ∧ atC u b k0 ad (va_up nE i (nE i + 1)) (va_up nV i (nV i)) (va_up op i (op i)) (va_up LL i (fo_up (LL i) (nE i) (2 ^ a ^^^ 2 ^ c9))) (va_up ww i (upd (ww i) (nE i) 0))) ∨ (¬ (∃ i a c9, i < 8 ∧ op i ≠ 0 ∧ a < nV i ∧ c9 < nV i ∧ nE i < 12 ∧ x = nI i ∧ y = nI a ∧ z = nI c9) ∧ r = -1 ∧ u = w0)) ∧ kx_fr w0 u (fun j => b ≤ j ∧ j < b + 33)) 0 0 := by
  refine kx_of (Qf := fun A => va_Qi (fun (r : Int32) (u : va_W) => ((∃ i a c9, i < 8 ∧ op i ≠ 0 ∧ a < nV i ∧ c9 < nV i ∧ nE i < 12 ∧ x = nI i ∧ y = nI a ∧ z = nI c9 ∧ r = nI (nE i) ∧ atC u b k0 ad (va_up nE i (nE i + 1)) (va_up nV i (nV i)) (va_up op i (op i)) (va_up LL i (fo_up (LL i) (nE i) (2 ^ a ^^^ 2 ^ c9))) (va_up ww i (upd (ww i) (nE i) 0))) ∨ (¬ (∃ i a c9, i < 8 ∧ op i ≠ 0 ∧ a < nV i ∧ c9 < nV i ∧ nE i < 12 ∧ x = nI i ∧ y = nI a ∧ z = nI c9) ∧ r = -1 ∧ u = w0)) ∧ kx_fr w0 u (fun j => b ≤ j ∧ j < b + 33)) (kx_B D (tyL k0) A) A) (cc := cX2_add) (maxL := 6) (ret := (some .int)) (by decide +kernel) (Nat.le_of_ble_eq_true rfl) ?_
  intro p e s m below meth c A ls hx hb hml hown hts hr hlocks hnm hN hK hP hD hS hA hl
  have hown : s.vm.findClass RX2 = some m.cls := hown
  have hl : lv_has ls 6 [(0, .ref (ad 0)), (1, .int x), (2, .int y), (3, .int z)] := hl
  skip
  obtain ⟨hO, ⟨fq, hQ, hfq⟩, ⟨r1, p1, k1, hF1, hR1, hT1⟩, ⟨r2, p2, k2, hF2, hR2, hT2⟩, ⟨dr, hd⟩, hgs⟩ := id hC
  refine lv_iload_n hx hb dX2_add_0 rfl (lv_at hl 1 rfl) ?_
  refine kx_goi (va_runS (As := [.int x]) (rest := []) ⟨hx, hb, hml, hown, hts⟩ (c_isGraph l D k0 w0 _ x) ⟨(kg_B (k := 1) hts tw_97 tw_95 tw_19 (by decide +kernel) rfl rfl ⟨Nat.le_of_ble_eq_true rfl, Nat.le_of_ble_eq_true rfl⟩), hts _ tw_96⟩ (kx_preS hN hK hP hD) rfl rfl hl.1 rfl (lv_room (Nat.le_of_ble_eq_true rfl)) dX2_add_1 ⟨Nat.le_of_ble_eq_true rfl, Nat.le_of_ble_eq_true rfl⟩) hD hS hA (fun r_2 u_3 H locs hp_1 hP hD hS => ?_)
  obtain ⟨hy_x, eu⟩ := hp_1
  rw [eu] at hP hD
  refine lv_if_ne (tgt := 9) hx hb dX2_add_4 (by decide) (fun c_4 => ?_) (fun c_4 => ?_)
  · skip
    obtain ⟨i, h8i, e_x⟩ := kg_1 hy_x c_4
    rw [e_x] at hl
    obtain ⟨hGi, hLi, hWi⟩ := hgs i h8i
    obtain ⟨hni, hvi, hl2i, hw2i⟩ := hI i h8i
    refine lv_aload_n hx hb dX2_add_9 rfl (lv_at hl 0 rfl) ?_
    refine va_get (D := D) (ci := 2) (v := .ref (ad 1)) (C := RX2) (T := TX2) (N := 4) hx hb hts inX2 hown hK hP b hO rfl 0 (by decide) (hts _ tw_78) (fun _ h9 => h9) rfl dX2_add_10 ?_
    refine lv_iload_n hx hb dX2_add_13 rfl (lv_at hl 1 rfl) ?_
    refine kx_qald hx hb hK hP (b + 1) 1 hQ rfl (i := i) (r := (ad (9 + 3 * i))) (by omega) (by decide) (hfq _ (by omega)) dX2_add_14 ?_
    refine lv_astore (lv' := [(4, .ref (ad (9 + 3 * i))), (0, .ref (ad 0)), (1, .int (nI i)), (2, .int y), (3, .int z)]) hx hb dX2_add_15 hl (by decide) rfl (fun ls hl => ?_)
    refine lv_aload hx hb dX2_add_17 (lv_at hl 0 rfl) ?_
    refine lv_iload_n hx hb dX2_add_19 rfl (lv_at hl 3 rfl) ?_
    refine kx_goi (va_runV (As := [.int y]) (rest := []) ⟨hx, hb, hml, hown, hts⟩ (c_canMeet l D k0 w0 _ (b + 9 + 3 * i) (ad (9 + 3 * i)) (ad (10 + 3 * i)) (ad (11 + 3 * i)) (LL i) (ww i) (nE i) (nV i) (op i) hGi hLi hWi (by omega) y) ⟨(kg_B (k := 1) hts tw_109 tw_106 tw_21 (by decide +kernel) rfl rfl ⟨Nat.le_of_ble_eq_true rfl, Nat.le_of_ble_eq_true rfl⟩), hts _ tw_107, hts _ tw_108⟩ (kx_preV hN hK hP hD rfl hGi) rfl rfl hl.1 rfl (lv_room (Nat.le_of_ble_eq_true rfl)) dX2_add_20 ⟨Nat.le_of_ble_eq_true rfl, Nat.le_of_ble_eq_true rfl⟩) hD hS hA (fun r_5 u_6 H locs hp_4 hP hD hS => ?_)
    obtain ⟨hm1, eu⟩ := hp_4
    rw [eu] at hP hD
    refine lv_if_eq (tgt := 39) hx hb dX2_add_23 (by decide) (fun c_23 => ?_) (fun c_23 => ?_)
    · skip
      have hno1 := kg_0 hm1 c_23
      have hno : ¬ (∃ i a c9, i < 8 ∧ op i ≠ 0 ∧ a < nV i ∧ c9 < nV i ∧ nE i < 12 ∧ x = nI i ∧ y = nI a ∧ z = nI c9) := fun ⟨i2, a, _, h1, h2, h3, _, _, h5, h6, _⟩ => by
        have hi2 : i2 = i := ((nI_eq (by omega) (by omega)).mp (h5.symm.trans e_x))
        subst hi2
        exact hno1 ⟨h2, a, h3, h6⟩
      refine lv_iconst (v := 0) hx hb dX2_add_39 (by decide +kernel) ?_
      refine lv_istore (lv' := [(5, .int 0), (4, .ref (ad (9 + 3 * i))), (0, .ref (ad 0)), (1, .int (nI i)), (2, .int y), (3, .int z)]) hx hb dX2_add_40 hl (by decide) rfl (fun ls hl => ?_)
      refine lv_iload hx hb dX2_add_42 (lv_at hl 0 rfl) ?_
      refine lv_if_eq (tgt := 62) hx hb dX2_add_44 (by decide) (fun c_44 => ?_) (fun c_44 => ?_)
      · skip
        refine lv_iconst (v := -1) hx hb dX2_add_62 (by decide +kernel) ?_
        exact kx_iret (v := -1) hx hb hr rfl hlocks hK hP hD hS dX2_add_63 (⟨Or.inr ⟨hno, rfl, rfl⟩, kx_fr_rf _ _⟩)
      · skip
        exact absurd rfl c_44
    · skip
      obtain ⟨hop, a, h_a, e_y⟩ := kg_1 hm1 c_23
      rw [e_y] at hl
      refine lv_aload hx hb dX2_add_26 (lv_at hl 0 rfl) ?_
      refine lv_iload_n hx hb dX2_add_28 rfl (lv_at hl 4 rfl) ?_
      refine kx_goi (va_runV (As := [.int z]) (rest := []) ⟨hx, hb, hml, hown, hts⟩ (c_canMeet l D k0 w0 _ (b + 9 + 3 * i) (ad (9 + 3 * i)) (ad (10 + 3 * i)) (ad (11 + 3 * i)) (LL i) (ww i) (nE i) (nV i) (op i) hGi hLi hWi (by omega) z) ⟨(kg_B (k := 1) hts tw_109 tw_106 tw_21 (by decide +kernel) rfl rfl ⟨Nat.le_of_ble_eq_true rfl, Nat.le_of_ble_eq_true rfl⟩), hts _ tw_107, hts _ tw_108⟩ (kx_preV hN hK hP hD rfl hGi) rfl rfl hl.1 rfl (lv_room (Nat.le_of_ble_eq_true rfl)) dX2_add_29 ⟨Nat.le_of_ble_eq_true rfl, Nat.le_of_ble_eq_true rfl⟩) hD hS hA (fun r_8 u_9 H locs hp_7 hP hD hS => ?_)
      obtain ⟨hm2, eu⟩ := hp_7
      rw [eu] at hP hD
      refine lv_if_eq (tgt := 39) hx hb dX2_add_32 (by decide) (fun c_32 => ?_) (fun c_32 => ?_)
      · skip
        have hno1 := kg_0 hm2 c_32
        have hno : ¬ (∃ i a c9, i < 8 ∧ op i ≠ 0 ∧ a < nV i ∧ c9 < nV i ∧ nE i < 12 ∧ x = nI i ∧ y = nI a ∧ z = nI c9) := fun ⟨i2, _, c9, h1, h2, _, h3, _, h5, _, h6⟩ => by
          have hi2 : i2 = i := ((nI_eq (by omega) (by omega)).mp (h5.symm.trans e_x))
          subst hi2
          exact hno1 ⟨h2, c9, h3, h6⟩
        refine lv_iconst (v := 0) hx hb dX2_add_39 (by decide +kernel) ?_
        refine lv_istore (lv' := [(5, .int 0), (4, .ref (ad (9 + 3 * i))), (0, .ref (ad 0)), (1, .int (nI i)), (2, .int (nI a)), (3, .int z)]) hx hb dX2_add_40 hl (by decide) rfl (fun ls hl => ?_)
        refine lv_iload hx hb dX2_add_42 (lv_at hl 0 rfl) ?_
        refine lv_if_eq (tgt := 62) hx hb dX2_add_44 (by decide) (fun c_44 => ?_) (fun c_44 => ?_)
        · skip
          refine lv_iconst (v := -1) hx hb dX2_add_62 (by decide +kernel) ?_
          exact kx_iret (v := -1) hx hb hr rfl hlocks hK hP hD hS dX2_add_63 (⟨Or.inr ⟨hno, rfl, rfl⟩, kx_fr_rf _ _⟩)
        · skip
          exact absurd rfl c_44
      · skip
        obtain ⟨hop, c9, h_c9, e_z⟩ := kg_1 hm2 c_32
        rw [e_z] at hl
        refine lv_iconst (v := 1) hx hb dX2_add_35 (by decide +kernel) ?_
        refine lv_goto (tgt := 40) hx hb dX2_add_36 (by decide) ?_
        refine lv_istore (lv' := [(5, .int 1), (4, .ref (ad (9 + 3 * i))), (0, .ref (ad 0)), (1, .int (nI i)), (2, .int (nI a)), (3, .int (nI c9))]) hx hb dX2_add_40 hl (by decide) rfl (fun ls hl => ?_)
        refine lv_iload hx hb dX2_add_42 (lv_at hl 0 rfl) ?_
        refine lv_if_eq (tgt := 62) hx hb dX2_add_44 (by decide) (fun c_44 => ?_) (fun c_44 => ?_)
        · skip
          exact absurd c_44 (by decide)
        · skip
          refine lv_aload hx hb dX2_add_47 (lv_at hl 1 rfl) ?_
          refine lv_iconst (v := 1) hx hb dX2_add_49 (by decide +kernel) ?_
          refine lv_iload_n hx hb dX2_add_50 rfl (lv_at hl 4 rfl) ?_
          refine lv_ishl hx hb dX2_add_51 ?_
          refine lv_topi (fun z_10 ez_10 => ?_)
          have ez_10 : z_10 = nI (2 ^ a) := by rw [ez_10]; exact kb_one (by omega)
          subst ez_10
          refine lv_iconst (v := 1) hx hb dX2_add_52 (by decide +kernel) ?_
          refine lv_iload_n hx hb dX2_add_53 rfl (lv_at hl 5 rfl) ?_
          refine lv_ishl hx hb dX2_add_54 ?_
          refine lv_topi (fun z_11 ez_11 => ?_)
          have ez_11 : z_11 = nI (2 ^ c9) := by rw [ez_11]; exact kb_one (by omega)
          subst ez_11
          refine lv_ixor hx hb dX2_add_55 ?_
          refine lv_topi (fun z_12 ez_12 => ?_)
          have ez_12 : z_12 = nI (2 ^ a ^^^ 2 ^ c9) := by rw [ez_12]; exact kb_xor _ _
          subst ez_12
          refine kx_goi (va_runV (As := [.int (nI (2 ^ a ^^^ 2 ^ c9))]) (rest := []) ⟨hx, hb, hml, hown, hts⟩ (c_append l D k0 w0 _ (b + 9 + 3 * i) (ad (9 + 3 * i)) (ad (10 + 3 * i)) (ad (11 + 3 * i)) (LL i) (ww i) (nE i) (nI (nV i)) (op i) hGi hLi hWi hni (2 ^ a ^^^ 2 ^ c9)) ⟨(kg_B (k := 1) hts tw_113 tw_110 tw_21 (by decide +kernel) rfl rfl ⟨Nat.le_of_ble_eq_true rfl, Nat.le_of_ble_eq_true rfl⟩), hts _ tw_111, hts _ tw_112⟩ (kx_preV hN hK hP hD rfl hGi) rfl rfl hl.1 rfl (lv_room (Nat.le_of_ble_eq_true rfl)) dX2_add_56 ⟨Nat.le_of_ble_eq_true rfl, Nat.le_of_ble_eq_true rfl⟩) hD hS hA (fun r_14 u_15 H locs hp_13 hP hD hS => ?_)
          refine lv_goto (tgt := 63) hx hb dX2_add_59 (by decide) ?_
          rcases hp_13 with ⟨h12, er, eu⟩ | ⟨h12, er, hg, hq⟩
          · subst er
            rw [eu] at hP hD
            exact kx_iret (v := -1) hx hb hr rfl hlocks hK hP hD hS dX2_add_63 ⟨Or.inr ⟨fun ⟨i2, _, _, h1, _, _, _, h4, h5, _⟩ => by
              have hi2 : i2 = i := ((nI_eq (by omega) (by omega)).mp (h5.symm.trans e_x))
              subst hi2
              omega, rfl, rfl⟩, kx_fr_rf _ _⟩
          · exact kx_iret (v := r_14) hx hb hr rfl hlocks hK hP hD hS dX2_add_63 ⟨Or.inl ⟨i, a, c9, h8i, hop, h_a, h_c9, h12, e_x, e_y, e_z, er, atC_put hC hq hg⟩, kx_fr_mono hq (fun j h => by omega)⟩
  · skip
    have hno0 := kg_0 hy_x c_4
    have hno : ¬ (∃ i a c9, i < 8 ∧ op i ≠ 0 ∧ a < nV i ∧ c9 < nV i ∧ nE i < 12 ∧ x = nI i ∧ y = nI a ∧ z = nI c9) := fun ⟨i, _, _, h1, _, _, _, _, h2, _⟩ => hno0 ⟨i, h1, h2⟩
    refine lv_iconst (v := -1) hx hb dX2_add_7 (by decide +kernel) ?_
    exact kx_iret (v := -1) hx hb hr rfl hlocks hK hP hD hS dX2_add_8 (⟨Or.inr ⟨hno, rfl, rfl⟩, kx_fr_rf _ _⟩)

set_option maxHeartbeats 4000000 in
set_option maxRecDepth 100000 in
/-- weigh(g, e, weight) -/
theorem c_weigh (l : Launch) (D : va_G) (k0 : Nat → ClassId)  (w0 : va_W) (sz : Nat) (b : Nat) (ad nE nV : Nat → Nat) (op : Nat → Int32) (LL : Nat → Nat → Nat) (ww : Nat → Nat → Int32) (hC : atC w0 b k0 ad nE nV op LL ww) (hI : cinv nE nV LL ww) (x y z : Int32) : kx_i l yX2_weigh wsX2_weigh ({ frames := 2, cells := 0, slots := 0, locals := 48 } : Room) D (tyL k0) w0 sz [.ref (ad 0), .int x, .int y, .int z] (fun (r : Int32) (u : va_W) => ((∃ i e9, i < 8 ∧ e9 < nE i ∧ x = nI i ∧ y = nI e9 ∧ -999 ≤ z.toInt ∧ z.toInt ≤ 999 ∧ r = 1 ∧ atC u b k0 ad (va_up nE i (nE i)) (va_up nV i (nV i)) (va_up op i (op i)) (va_up LL i (LL i)) (va_up ww i (upd (ww i) e9 z))) ∨ (¬ (∃ i e9, i < 8 ∧ e9 < nE i ∧ x = nI i ∧ y = nI e9 ∧ -999 ≤ z.toInt ∧ z.toInt ≤ 999) ∧ r = 0 ∧ u = w0)) ∧ kx_fr w0 u (fun j => b ≤ j ∧ j < b + 33)) 0 0 := by
  refine kx_of (Qf := fun A => va_Qi (fun (r : Int32) (u : va_W) => ((∃ i e9, i < 8 ∧ e9 < nE i ∧ x = nI i ∧ y = nI e9 ∧ -999 ≤ z.toInt ∧ z.toInt ≤ 999 ∧ r = 1 ∧ atC u b k0 ad (va_up nE i (nE i)) (va_up nV i (nV i)) (va_up op i (op i)) (va_up LL i (LL i)) (va_up ww i (upd (ww i) e9 z))) ∨ (¬ (∃ i e9, i < 8 ∧ e9 < nE i ∧ x = nI i ∧ y = nI e9 ∧ -999 ≤ z.toInt ∧ z.toInt ≤ 999) ∧ r = 0 ∧ u = w0)) ∧ kx_fr w0 u (fun j => b ≤ j ∧ j < b + 33)) (kx_B D (tyL k0) A) A) (cc := cX2_weigh) (maxL := 4) (ret := (some .boolean)) (by decide +kernel) (Nat.le_of_ble_eq_true rfl) ?_
  intro p e s m below meth c A ls hx hb hml hown hts hr hlocks hnm hN hK hP hD hS hA hl
  have hown : s.vm.findClass RX2 = some m.cls := hown
  have hl : lv_has ls 4 [(0, .ref (ad 0)), (1, .int x), (2, .int y), (3, .int z)] := hl
  skip
  obtain ⟨hO, ⟨fq, hQ, hfq⟩, ⟨r1, p1, k1, hF1, hR1, hT1⟩, ⟨r2, p2, k2, hF2, hR2, hT2⟩, ⟨dr, hd⟩, hgs⟩ := id hC
  refine lv_aload_n hx hb dX2_weigh_0 rfl (lv_at hl 0 rfl) ?_
  refine lv_iload_n hx hb dX2_weigh_1 rfl (lv_at hl 1 rfl) ?_
  refine lv_iload_n hx hb dX2_weigh_2 rfl (lv_at hl 2 rfl) ?_
  refine kx_goi (va_runV (As := [.int x, .int y]) (rest := []) ⟨hx, hb, hml, hown, hts⟩ (c_isEdge l D k0 w0 _ b ad nE nV op LL ww hC hI x y) ⟨(kg_B (k := 2) hts tw_121 tw_118 tw_19 (by decide +kernel) rfl rfl ⟨Nat.le_of_ble_eq_true rfl, Nat.le_of_ble_eq_true rfl⟩), hts _ tw_120, hts _ tw_0⟩ (kx_preV hN hK hP hD rfl hO) rfl rfl hl.1 rfl (lv_room (Nat.le_of_ble_eq_true rfl)) dX2_weigh_3 ⟨Nat.le_of_ble_eq_true rfl, Nat.le_of_ble_eq_true rfl⟩) hD hS hA (fun r_2 u_3 H locs hp_1 hP hD hS => ?_)
  obtain ⟨hy_, eu⟩ := hp_1
  rw [eu] at hP hD
  refine lv_if_eq (tgt := 23) hx hb dX2_weigh_6 (by decide) (fun c_6 => ?_) (fun c_6 => ?_)
  · skip
    have hno0 := kg_0 hy_ c_6
    have hno : ¬ (∃ i e9, i < 8 ∧ e9 < nE i ∧ x = nI i ∧ y = nI e9 ∧ -999 ≤ z.toInt ∧ z.toInt ≤ 999) := fun ⟨i, e9, h1, h2, h3, h4, _⟩ => hno0 ⟨i, e9, h1, h2, h3, h4⟩
    refine lv_iconst (v := 0) hx hb dX2_weigh_23 (by decide +kernel) ?_
    exact kx_iret (v := 0) hx hb hr rfl hlocks hK hP hD hS dX2_weigh_24 (⟨Or.inr ⟨hno, rfl, rfl⟩, kx_fr_rf _ _⟩)
  · skip
    obtain ⟨i, e9, h8i, he9, e_x, e_y⟩ := kg_1 hy_ c_6
    rw [e_x, e_y] at hl
    obtain ⟨hGi, hLi, hWi⟩ := hgs i h8i
    obtain ⟨hni, hvi, hl2i, hw2i⟩ := hI i h8i
    refine lv_iload_n hx hb dX2_weigh_9 rfl (lv_at hl 3 rfl) ?_
    refine lv_sipush (v := -999) hx hb dX2_weigh_10 (by decide +kernel) ?_
    refine lv_icmp_lt (tgt := 23) hx hb dX2_weigh_13 (by decide) (fun c_13 => ?_) (fun c_13 => ?_)
    · skip
      have hno : ¬ (∃ i e9, i < 8 ∧ e9 < nE i ∧ x = nI i ∧ y = nI e9 ∧ -999 ≤ z.toInt ∧ z.toInt ≤ 999) := fun ⟨_, _, _, _, _, _, h1, _⟩ => by
        rw [Int32.lt_iff_toInt_lt, show ((-999 : Int32)).toInt = -999 by decide] at c_13
        omega
      refine lv_iconst (v := 0) hx hb dX2_weigh_23 (by decide +kernel) ?_
      exact kx_iret (v := 0) hx hb hr rfl hlocks hK hP hD hS dX2_weigh_24 (⟨Or.inr ⟨hno, rfl, rfl⟩, kx_fr_rf _ _⟩)
    · skip
      have hz1 : -999 ≤ z.toInt := by
        rw [Int32.lt_iff_toInt_lt, show ((-999 : Int32)).toInt = -999 by decide] at c_13
        omega
      refine lv_iload_n hx hb dX2_weigh_16 rfl (lv_at hl 3 rfl) ?_
      refine lv_sipush (v := 999) hx hb dX2_weigh_17 (by decide +kernel) ?_
      refine lv_icmp_le (tgt := 25) hx hb dX2_weigh_20 (by decide) (fun c_20 => ?_) (fun c_20 => ?_)
      · skip
        have hz2 : z.toInt ≤ 999 := by
          rw [Int32.le_iff_toInt_le, show ((999 : Int32)).toInt = 999 by decide] at c_20
          exact c_20
        refine lv_aload_n hx hb dX2_weigh_25 rfl (lv_at hl 0 rfl) ?_
        refine va_get (D := D) (ci := 2) (v := .ref (ad 1)) (C := RX2) (T := TX2) (N := 4) hx hb hts inX2 hown hK hP b hO rfl 0 (by decide) (hts _ tw_78) (fun _ h9 => h9) rfl dX2_weigh_26 ?_
        refine lv_iload_n hx hb dX2_weigh_29 rfl (lv_at hl 1 rfl) ?_
        refine kx_qald hx hb hK hP (b + 1) 1 hQ rfl (i := i) (r := (ad (9 + 3 * i))) (by omega) (by decide) (hfq _ (by omega)) dX2_weigh_30 ?_
        refine va_get (D := D) (ci := 1) (v := .ref (ad (11 + 3 * i))) (C := RX1) (T := TX1) (N := 5) hx hb hts inX1 hown hK hP (b + 9 + 3 * i) hGi rfl 1 (by decide) (hts _ tw_61) (fun _ h9 => h9) rfl dX2_weigh_31 ?_
        refine lv_iload_n hx hb dX2_weigh_34 rfl (lv_at hl 2 rfl) ?_
        refine lv_iload_n hx hb dX2_weigh_35 rfl (lv_at hl 3 rfl) ?_
        refine kx_iast hx hb hK hP hD hS (b + 9 + 3 * i + 2) hWi rfl (i := e9) (x := z) (by omega) (by decide) dX2_weigh_36 (fun H locs hP hD hS => ?_)
        obtain ⟨w_4, ew_4⟩ : ∃ w, w = w0.set (b + 9 + 3 * i + 2) (ad (11 + 3 * i), .inl (k0 0, 12, .inl (upd (ww i) e9 z))) := ⟨_, rfl⟩
        have hP : va_P D vwCl w_4 H := by rw [ew_4]; exact hP
        have hD : va_D A w_4 := by rw [ew_4]; exact hD
        have f_5 : w_4[b]? = some (ad 0, .inr (2, [.ref (ad 1), .ref (ad 2), .ref (ad 5), .ref (ad 8)])) := by rw [ew_4]; exact kx_set_ne hO (by omega)
        have f_6 : w_4[b + 1]? = some (ad 1, .inl (k0 1, 8, .inr (.inr (.inr (.inr fq))))) := by rw [ew_4]; exact kx_set_ne hQ (by omega)
        have f_7 : w_4[b + 9 + 3 * i]? = some (ad (9 + 3 * i), .inr (1, [.ref (ad (10 + 3 * i)), .ref (ad (11 + 3 * i)), .int (nI (nE i)), .int (nI (nV i)), .int (op i)])) := by rw [ew_4]; exact kx_set_ne hGi (by omega)
        have f_8 : w_4[b + 9 + 3 * i + 1]? = some (ad (10 + 3 * i), .inl (k0 0, 12, .inl (fun y9 => nI ((LL i) y9)))) := by rw [ew_4]; exact kx_set_ne hLi (by omega)
        have f_9 : w_4[b + 9 + 3 * i + 2]? = some (ad (11 + 3 * i), .inl (k0 0, 12, .inl (upd (ww i) e9 z))) := by rw [ew_4]; exact kx_set_self hWi
        refine lv_iconst (v := 1) hx hb dX2_weigh_37 (by decide +kernel) ?_
        exact kx_iret (v := 1) hx hb hr rfl hlocks hK hP hD hS dX2_weigh_38 (⟨Or.inl ⟨i, e9, h8i, he9, e_x, e_y, hz1, hz2, rfl, atC_put hC (by rw [ew_4]; exact kx_fr_set (by omega)) ⟨f_7, f_8, f_9⟩⟩, by rw [ew_4]; exact kx_fr_set (by omega)⟩)
      · skip
        have hno : ¬ (∃ i e9, i < 8 ∧ e9 < nE i ∧ x = nI i ∧ y = nI e9 ∧ -999 ≤ z.toInt ∧ z.toInt ≤ 999) := fun ⟨_, _, _, _, _, _, _, h1⟩ => by
          rw [Int32.le_iff_toInt_le, show ((999 : Int32)).toInt = 999 by decide] at c_20
          omega
        refine lv_iconst (v := 0) hx hb dX2_weigh_23 (by decide +kernel) ?_
        exact kx_iret (v := 0) hx hb hr rfl hlocks hK hP hD hS dX2_weigh_24 (⟨Or.inr ⟨hno, rfl, rfl⟩, kx_fr_rf _ _⟩)

set_option maxHeartbeats 4000000 in
set_option maxRecDepth 100000 in
/-- rank(g, set) -/
theorem c_rank (l : Launch) (D : va_G) (k0 : Nat → ClassId)  (w0 : va_W) (sz : Nat) (b : Nat) (ad nE nV : Nat → Nat) (op : Nat → Int32) (LL : Nat → Nat → Nat) (ww : Nat → Nat → Int32) (hC : atC w0 b k0 ad nE nV op LL ww) (hI : cinv nE nV LL ww) (x y : Int32) : kx_i l yX2_rank wsX2_rank ({ frames := 4, cells := 0, slots := 0, locals := 104 } : Room) D (tyL k0) w0 sz [.ref (ad 0), .int x, .int y] (fun (r : Int32) (u : va_W) => ((∃ i S, i < 8 ∧ S ≤ cf_full (nE i) ∧ x = nI i ∧ y = nI S ∧ r = nI (cf_rk (LL i) (nE i) S)) ∨ (¬ (∃ i S, i < 8 ∧ S ≤ cf_full (nE i) ∧ x = nI i ∧ y = nI S) ∧ r = -1)) ∧ atC u b k0 ad nE nV op LL ww ∧ kx_fr w0 u (fun j => b ≤ j ∧ j < b + 33)) 0 0 := by
  refine kx_of (Qf := fun A => va_Qi (fun (r : Int32) (u : va_W) => ((∃ i S, i < 8 ∧ S ≤ cf_full (nE i) ∧ x = nI i ∧ y = nI S ∧ r = nI (cf_rk (LL i) (nE i) S)) ∨ (¬ (∃ i S, i < 8 ∧ S ≤ cf_full (nE i) ∧ x = nI i ∧ y = nI S) ∧ r = -1)) ∧ atC u b k0 ad nE nV op LL ww ∧ kx_fr w0 u (fun j => b ≤ j ∧ j < b + 33)) (kx_B D (tyL k0) A) A) (cc := cX2_rank) (maxL := 3) (ret := (some .int)) (by decide +kernel) (Nat.le_of_ble_eq_true rfl) ?_
  intro p e s m below meth c A ls hx hb hml hown hts hr hlocks hnm hN hK hP hD hS hA hl
  have hown : s.vm.findClass RX2 = some m.cls := hown
  have hl : lv_has ls 3 [(0, .ref (ad 0)), (1, .int x), (2, .int y)] := hl
  skip
  obtain ⟨hO, ⟨fq, hQ, hfq⟩, ⟨r1, p1, k1, hF1, hR1, hT1⟩, ⟨r2, p2, k2, hF2, hR2, hT2⟩, ⟨dr, hd⟩, hgs⟩ := id hC
  refine lv_aload_n hx hb dX2_rank_0 rfl (lv_at hl 0 rfl) ?_
  refine lv_iload_n hx hb dX2_rank_1 rfl (lv_at hl 1 rfl) ?_
  refine lv_iload_n hx hb dX2_rank_2 rfl (lv_at hl 2 rfl) ?_
  refine kx_goi (va_runV (As := [.int x, .int y]) (rest := []) ⟨hx, hb, hml, hown, hts⟩ (c_isSet l D k0 w0 _ b ad nE nV op LL ww hC hI x y) ⟨(kg_B (k := 2) hts tw_129 tw_126 tw_19 (by decide +kernel) rfl rfl ⟨Nat.le_of_ble_eq_true rfl, Nat.le_of_ble_eq_true rfl⟩), hts _ tw_128, hts _ tw_1⟩ (kx_preV hN hK hP hD rfl hO) rfl rfl hl.1 rfl (lv_room (Nat.le_of_ble_eq_true rfl)) dX2_rank_3 ⟨Nat.le_of_ble_eq_true rfl, Nat.le_of_ble_eq_true rfl⟩) hD hS hA (fun r_2 u_3 H locs hp_1 hP hD hS => ?_)
  obtain ⟨hy_, eu⟩ := hp_1
  rw [eu] at hP hD
  refine lv_if_eq (tgt := 26) hx hb dX2_rank_6 (by decide) (fun c_6 => ?_) (fun c_6 => ?_)
  · skip
    have hno := kg_0 hy_ c_6
    refine lv_iconst (v := -1) hx hb dX2_rank_26 (by decide +kernel) ?_
    exact kx_iret (v := -1) hx hb hr rfl hlocks hK hP hD hS dX2_rank_27 (by first | exact ⟨Or.inr ⟨hno, rfl⟩, hC, kx_fr_rf _ _⟩ | exact ⟨Or.inl ⟨i, S, h8i, hSS, e_x, e_y, by rw [er, fo_fill_rk]⟩, atC_rest hC (kx_fr_mono hq (fun j h => by omega)) ⟨_, _, _, hg⟩ ⟨r2, p2, k2, atF_fr ⟨hF2, hR2, hT2⟩ hq ⟨by omega, by omega, by omega⟩⟩ ⟨dr, by rw [hq _ (by omega)]; exact hd⟩, kx_fr_mono hq (fun j h => by omega)⟩)
  · skip
    obtain ⟨i, S, h8i, hSS, e_x, e_y⟩ := kg_1 hy_ c_6
    rw [e_x, e_y] at hl
    obtain ⟨hGi, hLi, hWi⟩ := hgs i h8i
    obtain ⟨hni, hvi, hl2i, hw2i⟩ := hI i h8i
    have hfl := kb_full_lt hni
    refine lv_aload_n hx hb dX2_rank_9 rfl (lv_at hl 0 rfl) ?_
    refine va_get (D := D) (ci := 2) (v := .ref (ad 2)) (C := RX2) (T := TX2) (N := 4) hx hb hts inX2 hown hK hP b hO rfl 1 (by decide) (hts _ tw_79) (fun _ h9 => h9) rfl dX2_rank_10 ?_
    refine lv_aload_n hx hb dX2_rank_13 rfl (lv_at hl 0 rfl) ?_
    refine va_get (D := D) (ci := 2) (v := .ref (ad 1)) (C := RX2) (T := TX2) (N := 4) hx hb hts inX2 hown hK hP b hO rfl 0 (by decide) (hts _ tw_78) (fun _ h9 => h9) rfl dX2_rank_14 ?_
    refine lv_iload_n hx hb dX2_rank_17 rfl (lv_at hl 1 rfl) ?_
    refine kx_qald hx hb hK hP (b + 1) 1 hQ rfl (i := i) (r := (ad (9 + 3 * i))) (by omega) (by decide) (hfq _ (by omega)) dX2_rank_18 ?_
    refine lv_iload_n hx hb dX2_rank_19 rfl (lv_at hl 2 rfl) ?_
    refine kx_goi (va_runV (As := [.ref (ad (9 + 3 * i)), .int (nI S)]) (rest := []) ⟨hx, hb, hml, hown, hts⟩ (c_fill l D k0 w0 _ (b + 2) (ad 2) (ad 3) (ad 4) r1 p1 k1 hF1 hR1 hT1 (b + 9 + 3 * i) (ad (9 + 3 * i)) (ad (10 + 3 * i)) (ad (11 + 3 * i)) (LL i) (ww i) (nE i) (nI (nV i)) (op i) hGi hLi hWi (by omega) hni (fun j h => gl_lt (hl2i j h)) S (by omega)) ⟨(kg_B (k := 2) hts tw_136 tw_133 tw_20 (by decide +kernel) rfl rfl ⟨Nat.le_of_ble_eq_true rfl, Nat.le_of_ble_eq_true rfl⟩), hts _ tw_134, hts _ tw_135⟩ (kx_preV hN hK hP hD rfl hF1) rfl rfl hl.1 rfl (lv_room (Nat.le_of_ble_eq_true rfl)) dX2_rank_20 ⟨Nat.le_of_ble_eq_true rfl, Nat.le_of_ble_eq_true rfl⟩) hD hS hA (fun r_5 u_6 H locs hp_4 hP hD hS => ?_)
    obtain ⟨er, hg, hq⟩ := hp_4
    refine lv_goto (tgt := 27) hx hb dX2_rank_23 (by decide) ?_
    exact kx_iret (v := r_5) hx hb hr rfl hlocks hK hP hD hS dX2_rank_27 (by first | exact ⟨Or.inr ⟨hno, rfl⟩, hC, kx_fr_rf _ _⟩ | exact ⟨Or.inl ⟨i, S, h8i, hSS, e_x, e_y, by rw [er, fo_fill_rk]⟩, atC_rest hC (kx_fr_mono hq (fun j h => by omega)) ⟨_, _, _, hg⟩ ⟨r2, p2, k2, atF_fr ⟨hF2, hR2, hT2⟩ hq ⟨by omega, by omega, by omega⟩⟩ ⟨dr, by rw [hq _ (by omega)]; exact hd⟩, kx_fr_mono hq (fun j h => by omega)⟩)
