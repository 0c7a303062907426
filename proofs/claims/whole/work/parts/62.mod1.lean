set_option maxHeartbeats 4000000 in
set_option maxRecDepth 100000 in
/-- the model: isGraph -/
theorem m_isGraph (l : Launch) (D : va_G) (k0 : Nat → ClassId)  (w0 : va_W) (sz : Nat) (x : Int32) : kx_i l yX3_isGraph wsX3_isGraph ({ frames := 0, cells := 0, slots := 0, locals := 0 } : Room) D (tyL k0) w0 sz [.int x] (fun (r : Int32) (u : va_W) => ((r = 1 ∧ ∃ i, i < 8 ∧ x = nI i) ∨ (r = 0 ∧ ¬ ∃ i, i < 8 ∧ x = nI i)) ∧ u = w0) 0 0 := by
  refine kx_of (Qf := fun A => va_Qi (fun (r : Int32) (u : va_W) => ((r = 1 ∧ ∃ i, i < 8 ∧ x = nI i) ∨ (r = 0 ∧ ¬ ∃ i, i < 8 ∧ x = nI i)) ∧ u = w0) (kx_B D (tyL k0) A) A) (cc := cX3_isGraph) (maxL := 1) (ret := (some .boolean)) (by decide +kernel) (Nat.le_of_ble_eq_true rfl) ?_
  intro p e s m below meth c A ls hx hb hml hown hts hr hlocks hnm hN hK hP hD hS hA hl
  have hown : s.vm.findClass RX3 = some m.cls := hown
  have hl : lv_has ls 1 [(0, .int x)] := hl
  skip
  refine lv_iload_n hx hb dX3_isGraph_0 rfl (lv_at hl 0 rfl) ?_
  refine lv_if_lt (tgt := 14) hx hb dX3_isGraph_1 (by decide) (fun c_1 => ?_) (fun c_1 => ?_)
  · skip
    have hno : ¬ ∃ i, i < 8 ∧ x = nI i := fun ⟨i, h1, h2⟩ => nI_pos (n := i) (by omega) (by rw [← h2]; exact c_1)
    refine lv_iconst (v := 0) hx hb dX3_isGraph_14 (by decide +kernel) ?_
    exact kx_iret (v := 0) hx hb hr rfl hlocks hK hP hD hS dX3_isGraph_15 (⟨by first | exact Or.inl ⟨rfl, hyes⟩ | exact Or.inr ⟨rfl, hno⟩, rfl⟩)
  · skip
    refine lv_iload_n hx hb dX3_isGraph_4 rfl (lv_at hl 0 rfl) ?_
    refine lv_bipush (v := nI 8) hx hb dX3_isGraph_5 (by decide +kernel) ?_
    refine lv_icmp_ge (tgt := 14) hx hb dX3_isGraph_7 (by decide) (fun c_7 => ?_) (fun c_7 => ?_)
    · skip
      have hno : ¬ ∃ i, i < 8 ∧ x = nI i := fun ⟨i, h1, h2⟩ => nI_ge (a := i) (b := 8) (by omega) (by decide) (by rw [← h2]; exact c_7)
      refine lv_iconst (v := 0) hx hb dX3_isGraph_14 (by decide +kernel) ?_
      exact kx_iret (v := 0) hx hb hr rfl hlocks hK hP hD hS dX3_isGraph_15 (⟨by first | exact Or.inl ⟨rfl, hyes⟩ | exact Or.inr ⟨rfl, hno⟩, rfl⟩)
    · skip
      have hyes : ∃ i, i < 8 ∧ x = nI i := by
        rcases pk_ix x (n := 8) (by decide) with h | h | h
        · exact absurd h c_1
        · exact absurd h c_7
        · exact h
      refine lv_iconst (v := 1) hx hb dX3_isGraph_10 (by decide +kernel) ?_
      refine lv_goto (tgt := 15) hx hb dX3_isGraph_11 (by decide) ?_
      exact kx_iret (v := 1) hx hb hr rfl hlocks hK hP hD hS dX3_isGraph_15 (⟨by first | exact Or.inl ⟨rfl, hyes⟩ | exact Or.inr ⟨rfl, hno⟩, rfl⟩)

set_option maxHeartbeats 4000000 in
set_option maxRecDepth 100000 in
/-- the model: whole -/
theorem m_whole (l : Launch) (D : va_G) (k0 : Nat → ClassId)  (w0 : va_W) (sz : Nat) (q : Nat) (am mv mc mo me : Nat → Nat) (mw : Nat → Int32) (mm : Nat → Nat) (mk : Nat) (mn fb sb : Nat → Nat) (hM : atM w0 q k0 am mv mc mo me mw mm mk mn fb sb) (hI : minv mv mc mo me mw) (i : Nat) (h8i : i < 8) : kx_i l yX3_whole wsX3_whole ({ frames := 0, cells := 0, slots := 0, locals := 0 } : Room) D (tyL k0) w0 sz [.ref (am 0), .int (nI i)] (fun (r : Int32) (u : va_W) => r = nI (cf_full (mc i)) ∧ u = w0) 0 0 := by
  refine kx_of (Qf := fun A => va_Qi (fun (r : Int32) (u : va_W) => r = nI (cf_full (mc i)) ∧ u = w0) (kx_B D (tyL k0) A) A) (cc := cX3_whole) (maxL := 2) (ret := (some .int)) (by decide +kernel) (Nat.le_of_ble_eq_true rfl) ?_
  intro p e s m below meth c A ls hx hb hml hown hts hr hlocks hnm hN hK hP hD hS hA hl
  have hown : s.vm.findClass RX3 = some m.cls := hown
  have hl : lv_has ls 2 [(0, .ref (am 0)), (1, .int (nI i))] := hl
  skip
  obtain ⟨hM0, hM1, hM2, hM3, hM4, hM5, hM6, hM7, hM8, hM9⟩ := id hM
  obtain ⟨hni, hvi, hoi, he2i, hw2i⟩ := hI i h8i
  refine lv_iconst (v := 1) hx hb dX3_whole_0 (by decide +kernel) ?_
  refine lv_aload_n hx hb dX3_whole_1 rfl (lv_at hl 0 rfl) ?_
  refine va_get (D := D) (ci := 3) (v := .ref (am 2)) (C := RX3) (T := TX3) (N := 10) hx hb hts inX3 hown hK hP q hM0 rfl 1 (by decide) (hts _ tw_251) (fun _ h9 => h9) rfl dX3_whole_2 ?_
  refine lv_iload_n hx hb dX3_whole_5 rfl (lv_at hl 1 rfl) ?_
  refine kx_nald hx hb hK hP (q + 2) hM2 rfl (i := i) (by omega) (by decide) dX3_whole_6 ?_
  refine lv_ishl hx hb dX3_whole_7 ?_
  refine lv_iconst (v := 1) hx hb dX3_whole_8 (by decide +kernel) ?_
  refine lv_isub hx hb dX3_whole_9 ?_
  refine lv_topi (fun z_1 ez_1 => ?_)
  have ez_1 : z_1 = nI (cf_full (mc i)) := by rw [ez_1]; exact kb_all (by omega)
  subst ez_1
  exact kx_iret (v := nI (cf_full (mc i))) hx hb hr rfl hlocks hK hP hD hS dX3_whole_10 (⟨rfl, rfl⟩)

set_option maxHeartbeats 4000000 in
set_option maxRecDepth 100000 in
/-- the model: isEdge -/
theorem m_isEdge (l : Launch) (D : va_G) (k0 : Nat → ClassId)  (w0 : va_W) (sz : Nat) (q : Nat) (am mv mc mo me : Nat → Nat) (mw : Nat → Int32) (mm : Nat → Nat) (mk : Nat) (mn fb sb : Nat → Nat) (hM : atM w0 q k0 am mv mc mo me mw mm mk mn fb sb) (hI : minv mv mc mo me mw) (x y : Int32) : kx_i l yX3_isEdge wsX3_isEdge ({ frames := 1, cells := 0, slots := 0, locals := 24 } : Room) D (tyL k0) w0 sz [.ref (am 0), .int x, .int y] (fun (r : Int32) (u : va_W) => ((r = 1 ∧ (∃ i e9, i < 8 ∧ e9 < mc i ∧ x = nI i ∧ y = nI e9)) ∨ (r = 0 ∧ ¬ (∃ i e9, i < 8 ∧ e9 < mc i ∧ x = nI i ∧ y = nI e9))) ∧ u = w0) 0 0 := by
  refine kx_of (Qf := fun A => va_Qi (fun (r : Int32) (u : va_W) => ((r = 1 ∧ (∃ i e9, i < 8 ∧ e9 < mc i ∧ x = nI i ∧ y = nI e9)) ∨ (r = 0 ∧ ¬ (∃ i e9, i < 8 ∧ e9 < mc i ∧ x = nI i ∧ y = nI e9))) ∧ u = w0) (kx_B D (tyL k0) A) A) (cc := cX3_isEdge) (maxL := 3) (ret := (some .boolean)) (by decide +kernel) (Nat.le_of_ble_eq_true rfl) ?_
  intro p e s m below meth c A ls hx hb hml hown hts hr hlocks hnm hN hK hP hD hS hA hl
  have hown : s.vm.findClass RX3 = some m.cls := hown
  have hl : lv_has ls 3 [(0, .ref (am 0)), (1, .int x), (2, .int y)] := hl
  skip
  obtain ⟨hM0, hM1, hM2, hM3, hM4, hM5, hM6, hM7, hM8, hM9⟩ := id hM
  refine lv_iload_n hx hb dX3_isEdge_0 rfl (lv_at hl 1 rfl) ?_
  refine kx_goi (va_runS (As := [.int x]) (rest := []) ⟨hx, hb, hml, hown, hts⟩ (m_isGraph l D k0 w0 _ x) ⟨(kg_B (k := 1) hts tw_289 tw_287 tw_22 (by decide +kernel) rfl rfl ⟨Nat.le_of_ble_eq_true rfl, Nat.le_of_ble_eq_true rfl⟩), hts _ tw_288⟩ (kx_preS hN hK hP hD) rfl rfl hl.1 rfl (lv_room (Nat.le_of_ble_eq_true rfl)) dX3_isEdge_1 ⟨Nat.le_of_ble_eq_true rfl, Nat.le_of_ble_eq_true rfl⟩) hD hS hA (fun r_2 u_3 H locs hp_1 hP hD hS => ?_)
  obtain ⟨hy_x, eu⟩ := hp_1
  rw [eu] at hP hD
  refine lv_if_eq (tgt := 25) hx hb dX3_isEdge_4 (by decide) (fun c_4 => ?_) (fun c_4 => ?_)
  · skip
    have hno0 := kg_0 hy_x c_4
    have hno : ¬ (∃ i e9, i < 8 ∧ e9 < mc i ∧ x = nI i ∧ y = nI e9) := fun ⟨i, _, h1, _, h2, _⟩ => hno0 ⟨i, h1, h2⟩
    refine lv_iconst (v := 0) hx hb dX3_isEdge_25 (by decide +kernel) ?_
    exact kx_iret (v := 0) hx hb hr rfl hlocks hK hP hD hS dX3_isEdge_26 (⟨by first | exact Or.inl ⟨rfl, hyes⟩ | exact Or.inr ⟨rfl, hno⟩, rfl⟩)
  · skip
    obtain ⟨i, h8i, e_x⟩ := kg_1 hy_x c_4
    rw [e_x] at hl
    obtain ⟨hni, hvi, hoi, he2i, hw2i⟩ := hI i h8i
    refine lv_iload_n hx hb dX3_isEdge_7 rfl (lv_at hl 2 rfl) ?_
    refine lv_if_lt (tgt := 25) hx hb dX3_isEdge_8 (by decide) (fun c_8 => ?_) (fun c_8 => ?_)
    · skip
      have hno : ¬ (∃ i e9, i < 8 ∧ e9 < mc i ∧ x = nI i ∧ y = nI e9) := fun ⟨i2, e9, h0, h1, _, h2⟩ => nI_pos (n := e9) (by have := (hI i2 h0).1; omega) (by rw [← h2]; exact c_8)
      refine lv_iconst (v := 0) hx hb dX3_isEdge_25 (by decide +kernel) ?_
      exact kx_iret (v := 0) hx hb hr rfl hlocks hK hP hD hS dX3_isEdge_26 (⟨by first | exact Or.inl ⟨rfl, hyes⟩ | exact Or.inr ⟨rfl, hno⟩, rfl⟩)
    · skip
      refine lv_iload_n hx hb dX3_isEdge_11 rfl (lv_at hl 2 rfl) ?_
      refine lv_aload_n hx hb dX3_isEdge_12 rfl (lv_at hl 0 rfl) ?_
      refine va_get (D := D) (ci := 3) (v := .ref (am 2)) (C := RX3) (T := TX3) (N := 10) hx hb hts inX3 hown hK hP q hM0 rfl 1 (by decide) (hts _ tw_251) (fun _ h9 => h9) rfl dX3_isEdge_13 ?_
      refine lv_iload_n hx hb dX3_isEdge_16 rfl (lv_at hl 1 rfl) ?_
      refine kx_nald hx hb hK hP (q + 2) hM2 rfl (i := i) (by omega) (by decide) dX3_isEdge_17 ?_
      refine lv_icmp_ge (tgt := 25) hx hb dX3_isEdge_18 (by decide) (fun c_18 => ?_) (fun c_18 => ?_)
      · skip
        have hno : ¬ (∃ i e9, i < 8 ∧ e9 < mc i ∧ x = nI i ∧ y = nI e9) := fun ⟨i2, e9, h0, h1, h2, h3⟩ => by
          have hi2 : i2 = i := ((nI_eq (by omega) (by omega)).mp (h2.symm.trans e_x))
          subst hi2
          exact nI_ge (a := e9) (b := mc i2) h1 (by omega) (by rw [← h3]; exact c_18)
        refine lv_iconst (v := 0) hx hb dX3_isEdge_25 (by decide +kernel) ?_
        exact kx_iret (v := 0) hx hb hr rfl hlocks hK hP hD hS dX3_isEdge_26 (⟨by first | exact Or.inl ⟨rfl, hyes⟩ | exact Or.inr ⟨rfl, hno⟩, rfl⟩)
      · skip
        have hyes : (∃ i e9, i < 8 ∧ e9 < mc i ∧ x = nI i ∧ y = nI e9) := by
          rcases pk_ix y (n := mc i) (by omega) with h | h | ⟨e9, h1, h2⟩
          · exact absurd h c_8
          · exact absurd h c_18
          · exact ⟨i, e9, h8i, h1, e_x, h2⟩
        refine lv_iconst (v := 1) hx hb dX3_isEdge_21 (by decide +kernel) ?_
        refine lv_goto (tgt := 26) hx hb dX3_isEdge_22 (by decide) ?_
        exact kx_iret (v := 1) hx hb hr rfl hlocks hK hP hD hS dX3_isEdge_26 (⟨by first | exact Or.inl ⟨rfl, hyes⟩ | exact Or.inr ⟨rfl, hno⟩, rfl⟩)

set_option maxHeartbeats 4000000 in
set_option maxRecDepth 100000 in
/-- the model: isSet -/
theorem m_isSet (l : Launch) (D : va_G) (k0 : Nat → ClassId)  (w0 : va_W) (sz : Nat) (q : Nat) (am mv mc mo me : Nat → Nat) (mw : Nat → Int32) (mm : Nat → Nat) (mk : Nat) (mn fb sb : Nat → Nat) (hM : atM w0 q k0 am mv mc mo me mw mm mk mn fb sb) (hI : minv mv mc mo me mw) (x y : Int32) : kx_i l yX3_isSet wsX3_isSet ({ frames := 1, cells := 0, slots := 0, locals := 24 } : Room) D (tyL k0) w0 sz [.ref (am 0), .int x, .int y] (fun (r : Int32) (u : va_W) => ((r = 1 ∧ (∃ i S, i < 8 ∧ S ≤ cf_full (mc i) ∧ x = nI i ∧ y = nI S)) ∨ (r = 0 ∧ ¬ (∃ i S, i < 8 ∧ S ≤ cf_full (mc i) ∧ x = nI i ∧ y = nI S))) ∧ u = w0) 0 0 := by
  refine kx_of (Qf := fun A => va_Qi (fun (r : Int32) (u : va_W) => ((r = 1 ∧ (∃ i S, i < 8 ∧ S ≤ cf_full (mc i) ∧ x = nI i ∧ y = nI S)) ∨ (r = 0 ∧ ¬ (∃ i S, i < 8 ∧ S ≤ cf_full (mc i) ∧ x = nI i ∧ y = nI S))) ∧ u = w0) (kx_B D (tyL k0) A) A) (cc := cX3_isSet) (maxL := 3) (ret := (some .boolean)) (by decide +kernel) (Nat.le_of_ble_eq_true rfl) ?_
  intro p e s m below meth c A ls hx hb hml hown hts hr hlocks hnm hN hK hP hD hS hA hl
  have hown : s.vm.findClass RX3 = some m.cls := hown
  have hl : lv_has ls 3 [(0, .ref (am 0)), (1, .int x), (2, .int y)] := hl
  skip
  obtain ⟨hM0, hM1, hM2, hM3, hM4, hM5, hM6, hM7, hM8, hM9⟩ := id hM
  refine lv_iload_n hx hb dX3_isSet_0 rfl (lv_at hl 1 rfl) ?_
  refine kx_goi (va_runS (As := [.int x]) (rest := []) ⟨hx, hb, hml, hown, hts⟩ (m_isGraph l D k0 w0 _ x) ⟨(kg_B (k := 1) hts tw_289 tw_287 tw_22 (by decide +kernel) rfl rfl ⟨Nat.le_of_ble_eq_true rfl, Nat.le_of_ble_eq_true rfl⟩), hts _ tw_288⟩ (kx_preS hN hK hP hD) rfl rfl hl.1 rfl (lv_room (Nat.le_of_ble_eq_true rfl)) dX3_isSet_1 ⟨Nat.le_of_ble_eq_true rfl, Nat.le_of_ble_eq_true rfl⟩) hD hS hA (fun r_2 u_3 H locs hp_1 hP hD hS => ?_)
  obtain ⟨hy_x, eu⟩ := hp_1
  rw [eu] at hP hD
  refine lv_if_eq (tgt := 24) hx hb dX3_isSet_4 (by decide) (fun c_4 => ?_) (fun c_4 => ?_)
  · skip
    have hno0 := kg_0 hy_x c_4
    have hno : ¬ (∃ i S, i < 8 ∧ S ≤ cf_full (mc i) ∧ x = nI i ∧ y = nI S) := fun ⟨i, _, h1, _, h2, _⟩ => hno0 ⟨i, h1, h2⟩
    refine lv_iconst (v := 0) hx hb dX3_isSet_24 (by decide +kernel) ?_
    exact kx_iret (v := 0) hx hb hr rfl hlocks hK hP hD hS dX3_isSet_25 (⟨by first | exact Or.inl ⟨rfl, hyes⟩ | exact Or.inr ⟨rfl, hno⟩, rfl⟩)
  · skip
    obtain ⟨i, h8i, e_x⟩ := kg_1 hy_x c_4
    rw [e_x] at hl
    obtain ⟨hni, hvi, hoi, he2i, hw2i⟩ := hI i h8i
    have hfl := kb_full_lt hni
    refine lv_iload_n hx hb dX3_isSet_7 rfl (lv_at hl 2 rfl) ?_
    refine lv_if_lt (tgt := 24) hx hb dX3_isSet_8 (by decide) (fun c_8 => ?_) (fun c_8 => ?_)
    · skip
      have hno : ¬ (∃ i S, i < 8 ∧ S ≤ cf_full (mc i) ∧ x = nI i ∧ y = nI S) := fun ⟨i2, e9, h0, h1, _, h2⟩ => nI_pos (n := e9) (by have := kb_full_lt (hI i2 h0).1; omega) (by rw [← h2]; exact c_8)
      refine lv_iconst (v := 0) hx hb dX3_isSet_24 (by decide +kernel) ?_
      exact kx_iret (v := 0) hx hb hr rfl hlocks hK hP hD hS dX3_isSet_25 (⟨by first | exact Or.inl ⟨rfl, hyes⟩ | exact Or.inr ⟨rfl, hno⟩, rfl⟩)
    · skip
      refine lv_iload_n hx hb dX3_isSet_11 rfl (lv_at hl 2 rfl) ?_
      refine lv_aload_n hx hb dX3_isSet_12 rfl (lv_at hl 0 rfl) ?_
      refine lv_iload_n hx hb dX3_isSet_13 rfl (lv_at hl 1 rfl) ?_
      refine kx_goi (va_runV (As := [.int (nI i)]) (rest := [.int y]) ⟨hx, hb, hml, hown, hts⟩ (m_whole l D k0 w0 _ q am mv mc mo me mw mm mk mn fb sb ⟨hM0, hM1, hM2, hM3, hM4, hM5, hM6, hM7, hM8, hM9⟩ hI i h8i) ⟨(kg_B (k := 1) hts tw_313 tw_310 tw_22 (by decide +kernel) rfl rfl ⟨Nat.le_of_ble_eq_true rfl, Nat.le_of_ble_eq_true rfl⟩), hts _ tw_312, hts _ tw_10⟩ (kx_preV hN hK hP hD rfl hM0) rfl rfl hl.1 rfl (lv_room (Nat.le_of_ble_eq_true rfl)) dX3_isSet_14 ⟨Nat.le_of_ble_eq_true rfl, Nat.le_of_ble_eq_true rfl⟩) hD hS hA (fun r_5 u_6 H locs hp_4 hP hD hS => ?_)
      obtain ⟨er_5, eu_6⟩ := hp_4
      rw [eu_6] at hP hD; subst er_5
      refine lv_icmp_gt (tgt := 24) hx hb dX3_isSet_17 (by decide) (fun c_17 => ?_) (fun c_17 => ?_)
      · skip
        have hno : ¬ (∃ i S, i < 8 ∧ S ≤ cf_full (mc i) ∧ x = nI i ∧ y = nI S) := fun ⟨i2, e9, h0, h1, h2, h3⟩ => by
          have hi2 : i2 = i := ((nI_eq (by omega) (by omega)).mp (h2.symm.trans e_x))
          subst hi2
          rw [h3] at c_17
          have := (nI_ltI (by omega) (by omega)).mp c_17
          omega
        refine lv_iconst (v := 0) hx hb dX3_isSet_24 (by decide +kernel) ?_
        exact kx_iret (v := 0) hx hb hr rfl hlocks hK hP hD hS dX3_isSet_25 (⟨by first | exact Or.inl ⟨rfl, hyes⟩ | exact Or.inr ⟨rfl, hno⟩, rfl⟩)
      · skip
        have hyes : (∃ i S, i < 8 ∧ S ≤ cf_full (mc i) ∧ x = nI i ∧ y = nI S) := by
          obtain ⟨S, h1, h2⟩ := nI_of c_8
          refine ⟨i, S, h8i, ?_, e_x, h2⟩
          rw [h2] at c_17
          rcases Nat.lt_or_ge (cf_full (mc i)) S with h | h
          · exact absurd ((nI_ltI (by omega) (by omega)).mpr h) c_17
          · exact h
        refine lv_iconst (v := 1) hx hb dX3_isSet_20 (by decide +kernel) ?_
        refine lv_goto (tgt := 25) hx hb dX3_isSet_21 (by decide) ?_
        exact kx_iret (v := 1) hx hb hr rfl hlocks hK hP hD hS dX3_isSet_25 (⟨by first | exact Or.inl ⟨rfl, hyes⟩ | exact Or.inr ⟨rfl, hno⟩, rfl⟩)

set_option maxHeartbeats 4000000 in
set_option maxRecDepth 100000 in
/-- the model: areAlike -/
theorem m_areAlike (l : Launch) (D : va_G) (k0 : Nat → ClassId)  (w0 : va_W) (sz : Nat) (q : Nat) (am mv mc mo me : Nat → Nat) (mw : Nat → Int32) (mm : Nat → Nat) (mk : Nat) (mn fb sb : Nat → Nat) (hM : atM w0 q k0 am mv mc mo me mw mm mk mn fb sb) (hI : minv mv mc mo me mw) (x y : Int32) : kx_i l yX3_areAlike wsX3_areAlike ({ frames := 1, cells := 0, slots := 0, locals := 24 } : Room) D (tyL k0) w0 sz [.ref (am 0), .int x, .int y] (fun (r : Int32) (u : va_W) => ((r = 1 ∧ (∃ i j, i < 8 ∧ j < 8 ∧ mc i = mc j ∧ x = nI i ∧ y = nI j)) ∨ (r = 0 ∧ ¬ (∃ i j, i < 8 ∧ j < 8 ∧ mc i = mc j ∧ x = nI i ∧ y = nI j))) ∧ u = w0) 0 0 := by
  refine kx_of (Qf := fun A => va_Qi (fun (r : Int32) (u : va_W) => ((r = 1 ∧ (∃ i j, i < 8 ∧ j < 8 ∧ mc i = mc j ∧ x = nI i ∧ y = nI j)) ∨ (r = 0 ∧ ¬ (∃ i j, i < 8 ∧ j < 8 ∧ mc i = mc j ∧ x = nI i ∧ y = nI j))) ∧ u = w0) (kx_B D (tyL k0) A) A) (cc := cX3_areAlike) (maxL := 3) (ret := (some .boolean)) (by decide +kernel) (Nat.le_of_ble_eq_true rfl) ?_
  intro p e s m below meth c A ls hx hb hml hown hts hr hlocks hnm hN hK hP hD hS hA hl
  have hown : s.vm.findClass RX3 = some m.cls := hown
  have hl : lv_has ls 3 [(0, .ref (am 0)), (1, .int x), (2, .int y)] := hl
  skip
  obtain ⟨hM0, hM1, hM2, hM3, hM4, hM5, hM6, hM7, hM8, hM9⟩ := id hM
  refine lv_iload_n hx hb dX3_areAlike_0 rfl (lv_at hl 1 rfl) ?_
  refine kx_goi (va_runS (As := [.int x]) (rest := []) ⟨hx, hb, hml, hown, hts⟩ (m_isGraph l D k0 w0 _ x) ⟨(kg_B (k := 1) hts tw_289 tw_287 tw_22 (by decide +kernel) rfl rfl ⟨Nat.le_of_ble_eq_true rfl, Nat.le_of_ble_eq_true rfl⟩), hts _ tw_288⟩ (kx_preS hN hK hP hD) rfl rfl hl.1 rfl (lv_room (Nat.le_of_ble_eq_true rfl)) dX3_areAlike_1 ⟨Nat.le_of_ble_eq_true rfl, Nat.le_of_ble_eq_true rfl⟩) hD hS hA (fun r_2 u_3 H locs hp_1 hP hD hS => ?_)
  obtain ⟨hy_x, eu⟩ := hp_1
  rw [eu] at hP hD
  refine lv_if_eq (tgt := 33) hx hb dX3_areAlike_4 (by decide) (fun c_4 => ?_) (fun c_4 => ?_)
  · skip
    have hno0 := kg_0 hy_x c_4
    have hno : ¬ (∃ i j, i < 8 ∧ j < 8 ∧ mc i = mc j ∧ x = nI i ∧ y = nI j) := fun ⟨i, _, h1, _, _, h2, _⟩ => hno0 ⟨i, h1, h2⟩
    refine lv_iconst (v := 0) hx hb dX3_areAlike_33 (by decide +kernel) ?_
    exact kx_iret (v := 0) hx hb hr rfl hlocks hK hP hD hS dX3_areAlike_34 (⟨by first | exact Or.inl ⟨rfl, hyes⟩ | exact Or.inr ⟨rfl, hno⟩, rfl⟩)
  · skip
    obtain ⟨i, h8i, e_x⟩ := kg_1 hy_x c_4
    rw [e_x] at hl
    obtain ⟨hni, hvi, hoi, he2i, hw2i⟩ := hI i h8i
    refine lv_iload_n hx hb dX3_areAlike_7 rfl (lv_at hl 2 rfl) ?_
    refine kx_goi (va_runS (As := [.int y]) (rest := []) ⟨hx, hb, hml, hown, hts⟩ (m_isGraph l D k0 w0 _ y) ⟨(kg_B (k := 1) hts tw_289 tw_287 tw_22 (by decide +kernel) rfl rfl ⟨Nat.le_of_ble_eq_true rfl, Nat.le_of_ble_eq_true rfl⟩), hts _ tw_288⟩ (kx_preS hN hK hP hD) rfl rfl hl.1 rfl (lv_room (Nat.le_of_ble_eq_true rfl)) dX3_areAlike_8 ⟨Nat.le_of_ble_eq_true rfl, Nat.le_of_ble_eq_true rfl⟩) hD hS hA (fun r_5 u_6 H locs hp_4 hP hD hS => ?_)
    obtain ⟨hy_y, eu⟩ := hp_4
    rw [eu] at hP hD
    refine lv_if_eq (tgt := 33) hx hb dX3_areAlike_11 (by decide) (fun c_11 => ?_) (fun c_11 => ?_)
    · skip
      have hno0 := kg_0 hy_y c_11
      have hno : ¬ (∃ i j, i < 8 ∧ j < 8 ∧ mc i = mc j ∧ x = nI i ∧ y = nI j) := fun ⟨_, j, _, h1, _, _, h2⟩ => hno0 ⟨j, h1, h2⟩
      refine lv_iconst (v := 0) hx hb dX3_areAlike_33 (by decide +kernel) ?_
      exact kx_iret (v := 0) hx hb hr rfl hlocks hK hP hD hS dX3_areAlike_34 (⟨by first | exact Or.inl ⟨rfl, hyes⟩ | exact Or.inr ⟨rfl, hno⟩, rfl⟩)
    · skip
      obtain ⟨j, h8j, e_y⟩ := kg_1 hy_y c_11
      rw [e_y] at hl
      obtain ⟨hnj, hvj, hoj, he2j, hw2j⟩ := hI j h8j
      refine lv_aload_n hx hb dX3_areAlike_14 rfl (lv_at hl 0 rfl) ?_
      refine va_get (D := D) (ci := 3) (v := .ref (am 2)) (C := RX3) (T := TX3) (N := 10) hx hb hts inX3 hown hK hP q hM0 rfl 1 (by decide) (hts _ tw_251) (fun _ h9 => h9) rfl dX3_areAlike_15 ?_
      refine lv_iload_n hx hb dX3_areAlike_18 rfl (lv_at hl 1 rfl) ?_
      refine kx_nald hx hb hK hP (q + 2) hM2 rfl (i := i) (by omega) (by decide) dX3_areAlike_19 ?_
      refine lv_aload_n hx hb dX3_areAlike_20 rfl (lv_at hl 0 rfl) ?_
      refine va_get (D := D) (ci := 3) (v := .ref (am 2)) (C := RX3) (T := TX3) (N := 10) hx hb hts inX3 hown hK hP q hM0 rfl 1 (by decide) (hts _ tw_251) (fun _ h9 => h9) rfl dX3_areAlike_21 ?_
      refine lv_iload_n hx hb dX3_areAlike_24 rfl (lv_at hl 2 rfl) ?_
      refine kx_nald hx hb hK hP (q + 2) hM2 rfl (i := j) (by omega) (by decide) dX3_areAlike_25 ?_
      refine lv_icmp_ne (tgt := 33) hx hb dX3_areAlike_26 (by decide) (fun c_26 => ?_) (fun c_26 => ?_)
      · skip
        have hno : ¬ (∃ i j, i < 8 ∧ j < 8 ∧ mc i = mc j ∧ x = nI i ∧ y = nI j) := fun ⟨i2, j2, h0, h1, h2, h3, h4⟩ => by
          have hi2 : i2 = i := ((nI_eq (by omega) (by omega)).mp (h3.symm.trans e_x))
          have hj2 : j2 = j := ((nI_eq (by omega) (by omega)).mp (h4.symm.trans e_y))
          subst hi2; subst hj2
          exact c_26 (by rw [h2])
        refine lv_iconst (v := 0) hx hb dX3_areAlike_33 (by decide +kernel) ?_
        exact kx_iret (v := 0) hx hb hr rfl hlocks hK hP hD hS dX3_areAlike_34 (⟨by first | exact Or.inl ⟨rfl, hyes⟩ | exact Or.inr ⟨rfl, hno⟩, rfl⟩)
      · skip
        have hyes : (∃ i j, i < 8 ∧ j < 8 ∧ mc i = mc j ∧ x = nI i ∧ y = nI j) := ⟨i, j, h8i, h8j, (nI_eq (by omega) (by omega)).mp c_26, e_x, e_y⟩
        refine lv_iconst (v := 1) hx hb dX3_areAlike_29 (by decide +kernel) ?_
        refine lv_goto (tgt := 34) hx hb dX3_areAlike_30 (by decide) ?_
        exact kx_iret (v := 1) hx hb hr rfl hlocks hK hP hD hS dX3_areAlike_34 (⟨by first | exact Or.inl ⟨rfl, hyes⟩ | exact Or.inr ⟨rfl, hno⟩, rfl⟩)

set_option maxHeartbeats 4000000 in
set_option maxRecDepth 100000 in
/-- the model: edges -/
theorem m_edges (l : Launch) (D : va_G) (k0 : Nat → ClassId)  (w0 : va_W) (sz : Nat) (q : Nat) (am mv mc mo me : Nat → Nat) (mw : Nat → Int32) (mm : Nat → Nat) (mk : Nat) (mn fb sb : Nat → Nat) (hM : atM w0 q k0 am mv mc mo me mw mm mk mn fb sb) (hI : minv mv mc mo me mw) (x : Int32) : kx_i l yX3_edges wsX3_edges ({ frames := 1, cells := 0, slots := 0, locals := 24 } : Room) D (tyL k0) w0 sz [.ref (am 0), .int x] (fun (r : Int32) (u : va_W) => ((∃ i, i < 8 ∧ x = nI i ∧ r = nI (mc i)) ∨ ((¬ ∃ i, i < 8 ∧ x = nI i) ∧ r = -1)) ∧ u = w0) 0 0 := by
  refine kx_of (Qf := fun A => va_Qi (fun (r : Int32) (u : va_W) => ((∃ i, i < 8 ∧ x = nI i ∧ r = nI (mc i)) ∨ ((¬ ∃ i, i < 8 ∧ x = nI i) ∧ r = -1)) ∧ u = w0) (kx_B D (tyL k0) A) A) (cc := cX3_edges) (maxL := 2) (ret := (some .int)) (by decide +kernel) (Nat.le_of_ble_eq_true rfl) ?_
  intro p e s m below meth c A ls hx hb hml hown hts hr hlocks hnm hN hK hP hD hS hA hl
  have hown : s.vm.findClass RX3 = some m.cls := hown
  have hl : lv_has ls 2 [(0, .ref (am 0)), (1, .int x)] := hl
  skip
  obtain ⟨hM0, hM1, hM2, hM3, hM4, hM5, hM6, hM7, hM8, hM9⟩ := id hM
  refine lv_iload_n hx hb dX3_edges_0 rfl (lv_at hl 1 rfl) ?_
  refine kx_goi (va_runS (As := [.int x]) (rest := []) ⟨hx, hb, hml, hown, hts⟩ (m_isGraph l D k0 w0 _ x) ⟨(kg_B (k := 1) hts tw_289 tw_287 tw_22 (by decide +kernel) rfl rfl ⟨Nat.le_of_ble_eq_true rfl, Nat.le_of_ble_eq_true rfl⟩), hts _ tw_288⟩ (kx_preS hN hK hP hD) rfl rfl hl.1 rfl (lv_room (Nat.le_of_ble_eq_true rfl)) dX3_edges_1 ⟨Nat.le_of_ble_eq_true rfl, Nat.le_of_ble_eq_true rfl⟩) hD hS hA (fun r_2 u_3 H locs hp_1 hP hD hS => ?_)
  obtain ⟨hy_x, eu⟩ := hp_1
  rw [eu] at hP hD
  refine lv_if_eq (tgt := 16) hx hb dX3_edges_4 (by decide) (fun c_4 => ?_) (fun c_4 => ?_)
  · skip
    have hno := kg_0 hy_x c_4
    refine lv_iconst (v := -1) hx hb dX3_edges_16 (by decide +kernel) ?_
    exact kx_iret (v := -1) hx hb hr rfl hlocks hK hP hD hS dX3_edges_17 (⟨by first | exact Or.inl ⟨i, h8i, e_x, rfl⟩ | exact Or.inr ⟨hno, rfl⟩, rfl⟩)
  · skip
    obtain ⟨i, h8i, e_x⟩ := kg_1 hy_x c_4
    rw [e_x] at hl
    obtain ⟨hni, hvi, hoi, he2i, hw2i⟩ := hI i h8i
    refine lv_aload_n hx hb dX3_edges_7 rfl (lv_at hl 0 rfl) ?_
    refine va_get (D := D) (ci := 3) (v := .ref (am 2)) (C := RX3) (T := TX3) (N := 10) hx hb hts inX3 hown hK hP q hM0 rfl 1 (by decide) (hts _ tw_251) (fun _ h9 => h9) rfl dX3_edges_8 ?_
    refine lv_iload_n hx hb dX3_edges_11 rfl (lv_at hl 1 rfl) ?_
    refine kx_nald hx hb hK hP (q + 2) hM2 rfl (i := i) (by omega) (by decide) dX3_edges_12 ?_
    refine lv_goto (tgt := 17) hx hb dX3_edges_13 (by decide) ?_
    exact kx_iret (v := nI (mc i)) hx hb hr rfl hlocks hK hP hD hS dX3_edges_17 (⟨by first | exact Or.inl ⟨i, h8i, e_x, rfl⟩ | exact Or.inr ⟨hno, rfl⟩, rfl⟩)

set_option maxHeartbeats 4000000 in
set_option maxRecDepth 100000 in
/-- the model: weight -/
theorem m_weight (l : Launch) (D : va_G) (k0 : Nat → ClassId)  (w0 : va_W) (sz : Nat) (q : Nat) (am mv mc mo me : Nat → Nat) (mw : Nat → Int32) (mm : Nat → Nat) (mk : Nat) (mn fb sb : Nat → Nat) (hM : atM w0 q k0 am mv mc mo me mw mm mk mn fb sb) (hI : minv mv mc mo me mw) (x y : Int32) : kx_i l yX3_weight wsX3_weight ({ frames := 2, cells := 0, slots := 0, locals := 48 } : Room) D (tyL k0) w0 sz [.ref (am 0), .int x, .int y] (fun (r : Int32) (u : va_W) => ((∃ i e9, i < 8 ∧ e9 < mc i ∧ x = nI i ∧ y = nI e9 ∧ r = mw (12 * i + e9)) ∨ (¬ (∃ i e9, i < 8 ∧ e9 < mc i ∧ x = nI i ∧ y = nI e9) ∧ r = 0)) ∧ u = w0) 0 0 := by
  refine kx_of (Qf := fun A => va_Qi (fun (r : Int32) (u : va_W) => ((∃ i e9, i < 8 ∧ e9 < mc i ∧ x = nI i ∧ y = nI e9 ∧ r = mw (12 * i + e9)) ∨ (¬ (∃ i e9, i < 8 ∧ e9 < mc i ∧ x = nI i ∧ y = nI e9) ∧ r = 0)) ∧ u = w0) (kx_B D (tyL k0) A) A) (cc := cX3_weight) (maxL := 3) (ret := (some .int)) (by decide +kernel) (Nat.le_of_ble_eq_true rfl) ?_
  intro p e s m below meth c A ls hx hb hml hown hts hr hlocks hnm hN hK hP hD hS hA hl
  have hown : s.vm.findClass RX3 = some m.cls := hown
  have hl : lv_has ls 3 [(0, .ref (am 0)), (1, .int x), (2, .int y)] := hl
  skip
  obtain ⟨hM0, hM1, hM2, hM3, hM4, hM5, hM6, hM7, hM8, hM9⟩ := id hM
  refine lv_aload_n hx hb dX3_weight_0 rfl (lv_at hl 0 rfl) ?_
  refine lv_iload_n hx hb dX3_weight_1 rfl (lv_at hl 1 rfl) ?_
  refine lv_iload_n hx hb dX3_weight_2 rfl (lv_at hl 2 rfl) ?_
  refine kx_goi (va_runV (As := [.int x, .int y]) (rest := []) ⟨hx, hb, hml, hown, hts⟩ (m_isEdge l D k0 w0 _ q am mv mc mo me mw mm mk mn fb sb ⟨hM0, hM1, hM2, hM3, hM4, hM5, hM6, hM7, hM8, hM9⟩ hI x y) ⟨(kg_B (k := 2) hts tw_301 tw_298 tw_22 (by decide +kernel) rfl rfl ⟨Nat.le_of_ble_eq_true rfl, Nat.le_of_ble_eq_true rfl⟩), hts _ tw_300, hts _ tw_8⟩ (kx_preV hN hK hP hD rfl hM0) rfl rfl hl.1 rfl (lv_room (Nat.le_of_ble_eq_true rfl)) dX3_weight_3 ⟨Nat.le_of_ble_eq_true rfl, Nat.le_of_ble_eq_true rfl⟩) hD hS hA (fun r_2 u_3 H locs hp_1 hP hD hS => ?_)
  obtain ⟨hy_, eu⟩ := hp_1
  rw [eu] at hP hD
  refine lv_if_eq (tgt := 23) hx hb dX3_weight_6 (by decide) (fun c_6 => ?_) (fun c_6 => ?_)
  · skip
    have hno := kg_0 hy_ c_6
    refine lv_iconst (v := 0) hx hb dX3_weight_23 (by decide +kernel) ?_
    exact kx_iret (v := 0) hx hb hr rfl hlocks hK hP hD hS dX3_weight_24 (⟨by first | exact Or.inl ⟨i, e9, h8i, he9, e_x, e_y, rfl⟩ | exact Or.inr ⟨hno, rfl⟩, rfl⟩)
  · skip
    obtain ⟨i, e9, h8i, he9, e_x, e_y⟩ := kg_1 hy_ c_6
    rw [e_x, e_y] at hl
    obtain ⟨hni, hvi, hoi, he2i, hw2i⟩ := hI i h8i
    refine lv_aload_n hx hb dX3_weight_9 rfl (lv_at hl 0 rfl) ?_
    refine va_get (D := D) (ci := 3) (v := .ref (am 5)) (C := RX3) (T := TX3) (N := 10) hx hb hts inX3 hown hK hP q hM0 rfl 4 (by decide) (hts _ tw_254) (fun _ h9 => h9) rfl dX3_weight_10 ?_
    refine lv_bipush (v := nI 12) hx hb dX3_weight_13 (by decide +kernel) ?_
    refine lv_iload_n hx hb dX3_weight_15 rfl (lv_at hl 1 rfl) ?_
    refine lv_imul hx hb dX3_weight_16 ?_
    refine lv_topi (fun z_4 ez_4 => ?_)
    have ez_4 : z_4 = nI (12 * i) := by rw [ez_4]; exact pk_mul _ _
    subst ez_4
    refine lv_iload_n hx hb dX3_weight_17 rfl (lv_at hl 2 rfl) ?_
    refine lv_iadd hx hb dX3_weight_18 ?_
    refine lv_topi (fun z_5 ez_5 => ?_)
    have ez_5 : z_5 = nI (12 * i + e9) := by rw [ez_5]; exact nI_add _ _
    subst ez_5
    refine kx_iald hx hb hK hP (q + 5) hM5 rfl (i := (12 * i + e9)) (by omega) (by decide) dX3_weight_19 ?_
    refine lv_goto (tgt := 24) hx hb dX3_weight_20 (by decide) ?_
    exact kx_iret (v := mw (12 * i + e9)) hx hb hr rfl hlocks hK hP hD hS dX3_weight_24 (⟨by first | exact Or.inl ⟨i, e9, h8i, he9, e_x, e_y, rfl⟩ | exact Or.inr ⟨hno, rfl⟩, rfl⟩)

set_option maxHeartbeats 4000000 in
set_option maxRecDepth 100000 in
/-- the model: begin -/
theorem m_begin (l : Launch) (D : va_G) (k0 : Nat → ClassId)  (w0 : va_W) (sz : Nat) (q : Nat) (am mv mc mo me : Nat → Nat) (mw : Nat → Int32) (mm : Nat → Nat) (mk : Nat) (mn fb sb : Nat → Nat) (hM : atM w0 q k0 am mv mc mo me mw mm mk mn fb sb) (hI : minv mv mc mo me mw) (x y : Int32) : kx_i l yX3_begin wsX3_begin ({ frames := 1, cells := 0, slots := 0, locals := 24 } : Room) D (tyL k0) w0 sz [.ref (am 0), .int x, .int y] (fun (r : Int32) (u : va_W) => ((∃ i v, i < 8 ∧ 1 ≤ v ∧ v ≤ 13 ∧ x = nI i ∧ y = nI v ∧ r = 1 ∧ atM u q k0 am (fo_up mv i v) (fo_up mc i 0) (fo_up mo i 1) me mw mm mk mn fb sb) ∨ (¬ (∃ i v, i < 8 ∧ 1 ≤ v ∧ v ≤ 13 ∧ x = nI i ∧ y = nI v) ∧ r = 0 ∧ u = w0)) ∧ kx_fr w0 u (fun j => q ≤ j ∧ j < q + 10)) 0 0 := by
  refine kx_of (Qf := fun A => va_Qi (fun (r : Int32) (u : va_W) => ((∃ i v, i < 8 ∧ 1 ≤ v ∧ v ≤ 13 ∧ x = nI i ∧ y = nI v ∧ r = 1 ∧ atM u q k0 am (fo_up mv i v) (fo_up mc i 0) (fo_up mo i 1) me mw mm mk mn fb sb) ∨ (¬ (∃ i v, i < 8 ∧ 1 ≤ v ∧ v ≤ 13 ∧ x = nI i ∧ y = nI v) ∧ r = 0 ∧ u = w0)) ∧ kx_fr w0 u (fun j => q ≤ j ∧ j < q + 10)) (kx_B D (tyL k0) A) A) (cc := cX3_begin) (maxL := 3) (ret := (some .boolean)) (by decide +kernel) (Nat.le_of_ble_eq_true rfl) ?_
  intro p e s m below meth c A ls hx hb hml hown hts hr hlocks hnm hN hK hP hD hS hA hl
  have hown : s.vm.findClass RX3 = some m.cls := hown
  have hl : lv_has ls 3 [(0, .ref (am 0)), (1, .int x), (2, .int y)] := hl
  have hfr : kx_fr w0 w0 (fun j => q ≤ j ∧ j < q + 10) := kx_fr_rf _ _
  obtain ⟨hM0, hM1, hM2, hM3, hM4, hM5, hM6, hM7, hM8, hM9⟩ := id hM
  refine lv_iload_n hx hb dX3_begin_0 rfl (lv_at hl 1 rfl) ?_
  refine kx_goi (va_runS (As := [.int x]) (rest := []) ⟨hx, hb, hml, hown, hts⟩ (m_isGraph l D k0 w0 _ x) ⟨(kg_B (k := 1) hts tw_289 tw_287 tw_22 (by decide +kernel) rfl rfl ⟨Nat.le_of_ble_eq_true rfl, Nat.le_of_ble_eq_true rfl⟩), hts _ tw_288⟩ (kx_preS hN hK hP hD) rfl rfl hl.1 rfl (lv_room (Nat.le_of_ble_eq_true rfl)) dX3_begin_1 ⟨Nat.le_of_ble_eq_true rfl, Nat.le_of_ble_eq_true rfl⟩) hD hS hA (fun r_2 u_3 H locs hp_1 hP hD hS => ?_)
  obtain ⟨hy_x, eu⟩ := hp_1
  rw [eu] at hP hD
  refine lv_if_eq (tgt := 18) hx hb dX3_begin_4 (by decide) (fun c_4 => ?_) (fun c_4 => ?_)
  · skip
    have hno0 := kg_0 hy_x c_4
    have hno : ¬ (∃ i v, i < 8 ∧ 1 ≤ v ∧ v ≤ 13 ∧ x = nI i ∧ y = nI v) := fun ⟨i, _, h1, _, _, h2, _⟩ => hno0 ⟨i, h1, h2⟩
    refine lv_iconst (v := 0) hx hb dX3_begin_18 (by decide +kernel) ?_
    exact kx_iret (v := 0) hx hb hr rfl hlocks hK hP hD hS dX3_begin_19 (⟨Or.inr ⟨hno, rfl, rfl⟩, kx_fr_rf _ _⟩)
  · skip
    obtain ⟨i, h8i, e_x⟩ := kg_1 hy_x c_4
    rw [e_x] at hl
    obtain ⟨hni, hvi, hoi, he2i, hw2i⟩ := hI i h8i
    refine lv_iload_n hx hb dX3_begin_7 rfl (lv_at hl 2 rfl) ?_
    refine lv_iconst (v := nI 1) hx hb dX3_begin_8 (by decide +kernel) ?_
    refine lv_icmp_lt (tgt := 18) hx hb dX3_begin_9 (by decide) (fun c_9 => ?_) (fun c_9 => ?_)
    · skip
      have hno : ¬ (∃ i v, i < 8 ∧ 1 ≤ v ∧ v ≤ 13 ∧ x = nI i ∧ y = nI v) := fun ⟨_, v, _, h1, h2, _, h3⟩ => by
        rw [h3] at c_9
        have := (nI_ltI (by omega) (by omega)).mp c_9
        omega
      refine lv_iconst (v := 0) hx hb dX3_begin_18 (by decide +kernel) ?_
      exact kx_iret (v := 0) hx hb hr rfl hlocks hK hP hD hS dX3_begin_19 (⟨Or.inr ⟨hno, rfl, rfl⟩, kx_fr_rf _ _⟩)
    · skip
      refine lv_iload_n hx hb dX3_begin_12 rfl (lv_at hl 2 rfl) ?_
      refine lv_bipush (v := nI 13) hx hb dX3_begin_13 (by decide +kernel) ?_
      refine lv_icmp_le (tgt := 20) hx hb dX3_begin_15 (by decide) (fun c_15 => ?_) (fun c_15 => ?_)
      · skip
        obtain ⟨v, hv1, hv2, e_y⟩ : ∃ v : Nat, 1 ≤ v ∧ v ≤ 13 ∧ y = nI v := by
          have hp : ¬ y < 0 := fun h => c_9 (Int32.lt_trans h (by decide))
          obtain ⟨v, h1, h2⟩ := nI_of hp
          rw [h2] at c_9 c_15
          have h3 := (nI_leI (by omega) (by omega)).mp c_15
          refine ⟨v, ?_, h3, h2⟩
          rcases Nat.lt_or_ge v 1 with h | h
          · exact absurd ((nI_ltI (by omega) (by omega)).mpr h) c_9
          · exact h
        rw [e_y] at hl
        refine lv_aload_n hx hb dX3_begin_20 rfl (lv_at hl 0 rfl) ?_
        refine va_get (D := D) (ci := 3) (v := .ref (am 1)) (C := RX3) (T := TX3) (N := 10) hx hb hts inX3 hown hK hP q hM0 rfl 0 (by decide) (hts _ tw_250) (fun _ h9 => h9) rfl dX3_begin_21 ?_
        refine lv_iload_n hx hb dX3_begin_24 rfl (lv_at hl 1 rfl) ?_
        refine lv_iload_n hx hb dX3_begin_25 rfl (lv_at hl 2 rfl) ?_
        refine kx_nast hx hb hK hP hD hS (q + 1) hM1 rfl (i := i) (x := v) (by omega) (by decide) dX3_begin_26 (fun H locs hP hD hS => ?_)
        obtain ⟨w_4, ew_4⟩ : ∃ w, w = w0.set (q + 1) (am 1, .inl (k0 0, 8, .inl (fun y9 => nI ((fo_up mv i v) y9)))) := ⟨_, rfl⟩
        have hP : va_P D vwCl w_4 H := by rw [ew_4]; exact hP
        have hD : va_D A w_4 := by rw [ew_4]; exact hD
        have f_5 : w_4[q]? = some (am 0, .inr (3, [.ref (am 1), .ref (am 2), .ref (am 3), .ref (am 4), .ref (am 5), .ref (am 6), .int (nI mk), .ref (am 7), .ref (am 8), .ref (am 9)])) := by rw [ew_4]; exact kx_set_ne hM0 (by omega)
        have f_6 : w_4[q + 1]? = some (am 1, .inl (k0 0, 8, .inl (fun y9 => nI ((fo_up mv i v) y9)))) := by rw [ew_4]; exact kx_set_self hM1
        have f_7 : w_4[q + 2]? = some (am 2, .inl (k0 0, 8, .inl (fun y9 => nI (mc y9)))) := by rw [ew_4]; exact kx_set_ne hM2 (by omega)
        have f_8 : w_4[q + 3]? = some (am 3, .inl (k0 2, 8, .inl (fun y9 => nI (mo y9)))) := by rw [ew_4]; exact kx_set_ne hM3 (by omega)
        have f_9 : w_4[q + 4]? = some (am 4, .inl (k0 0, 192, .inl (fun y9 => nI (me y9)))) := by rw [ew_4]; exact kx_set_ne hM4 (by omega)
        have f_10 : w_4[q + 5]? = some (am 5, .inl (k0 0, 96, .inl mw)) := by rw [ew_4]; exact kx_set_ne hM5 (by omega)
        have f_11 : w_4[q + 6]? = some (am 6, .inl (k0 0, 24, .inl (fun y9 => nI (mm y9)))) := by rw [ew_4]; exact kx_set_ne hM6 (by omega)
        have f_12 : w_4[q + 7]? = some (am 7, .inl (k0 0, 32, .inl (fun y9 => nI (mn y9)))) := by rw [ew_4]; exact kx_set_ne hM7 (by omega)
        have f_13 : w_4[q + 8]? = some (am 8, .inl (k0 3, 4096, .inl (fun y9 => nI (fb y9)))) := by rw [ew_4]; exact kx_set_ne hM8 (by omega)
        have f_14 : w_4[q + 9]? = some (am 9, .inl (k0 3, 4096, .inl (fun y9 => nI (sb y9)))) := by rw [ew_4]; exact kx_set_ne hM9 (by omega)
        have hfr : kx_fr w0 w_4 (fun j => q ≤ j ∧ j < q + 10) := kx_fr_tr hfr (by rw [ew_4]; exact kx_fr_set (by omega))
        refine lv_aload_n hx hb dX3_begin_27 rfl (lv_at hl 0 rfl) ?_
        refine va_get (D := D) (ci := 3) (v := .ref (am 2)) (C := RX3) (T := TX3) (N := 10) hx hb hts inX3 hown hK hP q f_5 rfl 1 (by decide) (hts _ tw_251) (fun _ h9 => h9) rfl dX3_begin_28 ?_
        refine lv_iload_n hx hb dX3_begin_31 rfl (lv_at hl 1 rfl) ?_
        refine lv_iconst (v := nI 0) hx hb dX3_begin_32 (by decide +kernel) ?_
        refine kx_nast hx hb hK hP hD hS (q + 2) f_7 rfl (i := i) (x := 0) (by omega) (by decide) dX3_begin_33 (fun H locs hP hD hS => ?_)
        obtain ⟨w_15, ew_15⟩ : ∃ w, w = w_4.set (q + 2) (am 2, .inl (k0 0, 8, .inl (fun y9 => nI ((fo_up mc i 0) y9)))) := ⟨_, rfl⟩
        have hP : va_P D vwCl w_15 H := by rw [ew_15]; exact hP
        have hD : va_D A w_15 := by rw [ew_15]; exact hD
        have f_16 : w_15[q]? = some (am 0, .inr (3, [.ref (am 1), .ref (am 2), .ref (am 3), .ref (am 4), .ref (am 5), .ref (am 6), .int (nI mk), .ref (am 7), .ref (am 8), .ref (am 9)])) := by rw [ew_15]; exact kx_set_ne f_5 (by omega)
        have f_17 : w_15[q + 1]? = some (am 1, .inl (k0 0, 8, .inl (fun y9 => nI ((fo_up mv i v) y9)))) := by rw [ew_15]; exact kx_set_ne f_6 (by omega)
        have f_18 : w_15[q + 2]? = some (am 2, .inl (k0 0, 8, .inl (fun y9 => nI ((fo_up mc i 0) y9)))) := by rw [ew_15]; exact kx_set_self f_7
        have f_19 : w_15[q + 3]? = some (am 3, .inl (k0 2, 8, .inl (fun y9 => nI (mo y9)))) := by rw [ew_15]; exact kx_set_ne f_8 (by omega)
        have f_20 : w_15[q + 4]? = some (am 4, .inl (k0 0, 192, .inl (fun y9 => nI (me y9)))) := by rw [ew_15]; exact kx_set_ne f_9 (by omega)
        have f_21 : w_15[q + 5]? = some (am 5, .inl (k0 0, 96, .inl mw)) := by rw [ew_15]; exact kx_set_ne f_10 (by omega)
        have f_22 : w_15[q + 6]? = some (am 6, .inl (k0 0, 24, .inl (fun y9 => nI (mm y9)))) := by rw [ew_15]; exact kx_set_ne f_11 (by omega)
        have f_23 : w_15[q + 7]? = some (am 7, .inl (k0 0, 32, .inl (fun y9 => nI (mn y9)))) := by rw [ew_15]; exact kx_set_ne f_12 (by omega)
        have f_24 : w_15[q + 8]? = some (am 8, .inl (k0 3, 4096, .inl (fun y9 => nI (fb y9)))) := by rw [ew_15]; exact kx_set_ne f_13 (by omega)
        have f_25 : w_15[q + 9]? = some (am 9, .inl (k0 3, 4096, .inl (fun y9 => nI (sb y9)))) := by rw [ew_15]; exact kx_set_ne f_14 (by omega)
        have hfr : kx_fr w0 w_15 (fun j => q ≤ j ∧ j < q + 10) := kx_fr_tr hfr (by rw [ew_15]; exact kx_fr_set (by omega))
        refine lv_aload_n hx hb dX3_begin_34 rfl (lv_at hl 0 rfl) ?_
        refine va_get (D := D) (ci := 3) (v := .ref (am 3)) (C := RX3) (T := TX3) (N := 10) hx hb hts inX3 hown hK hP q f_16 rfl 2 (by decide) (hts _ tw_252) (fun _ h9 => h9) rfl dX3_begin_35 ?_
        refine lv_iload_n hx hb dX3_begin_38 rfl (lv_at hl 1 rfl) ?_
        refine lv_iconst (v := nI 1) hx hb dX3_begin_39 (by decide +kernel) ?_
        refine kx_znast hx hb hK hP hD hS (q + 3) f_19 rfl (i := i) (x := 1) (by omega) (by decide) (by omega) dX3_begin_40 (fun H locs hP hD hS => ?_)
        obtain ⟨w_26, ew_26⟩ : ∃ w, w = w_15.set (q + 3) (am 3, .inl (k0 2, 8, .inl (fun y9 => nI ((fo_up mo i 1) y9)))) := ⟨_, rfl⟩
        have hP : va_P D vwCl w_26 H := by rw [ew_26]; exact hP
        have hD : va_D A w_26 := by rw [ew_26]; exact hD
        have f_27 : w_26[q]? = some (am 0, .inr (3, [.ref (am 1), .ref (am 2), .ref (am 3), .ref (am 4), .ref (am 5), .ref (am 6), .int (nI mk), .ref (am 7), .ref (am 8), .ref (am 9)])) := by rw [ew_26]; exact kx_set_ne f_16 (by omega)
        have f_28 : w_26[q + 1]? = some (am 1, .inl (k0 0, 8, .inl (fun y9 => nI ((fo_up mv i v) y9)))) := by rw [ew_26]; exact kx_set_ne f_17 (by omega)
        have f_29 : w_26[q + 2]? = some (am 2, .inl (k0 0, 8, .inl (fun y9 => nI ((fo_up mc i 0) y9)))) := by rw [ew_26]; exact kx_set_ne f_18 (by omega)
        have f_30 : w_26[q + 3]? = some (am 3, .inl (k0 2, 8, .inl (fun y9 => nI ((fo_up mo i 1) y9)))) := by rw [ew_26]; exact kx_set_self f_19
        have f_31 : w_26[q + 4]? = some (am 4, .inl (k0 0, 192, .inl (fun y9 => nI (me y9)))) := by rw [ew_26]; exact kx_set_ne f_20 (by omega)
        have f_32 : w_26[q + 5]? = some (am 5, .inl (k0 0, 96, .inl mw)) := by rw [ew_26]; exact kx_set_ne f_21 (by omega)
        have f_33 : w_26[q + 6]? = some (am 6, .inl (k0 0, 24, .inl (fun y9 => nI (mm y9)))) := by rw [ew_26]; exact kx_set_ne f_22 (by omega)
        have f_34 : w_26[q + 7]? = some (am 7, .inl (k0 0, 32, .inl (fun y9 => nI (mn y9)))) := by rw [ew_26]; exact kx_set_ne f_23 (by omega)
        have f_35 : w_26[q + 8]? = some (am 8, .inl (k0 3, 4096, .inl (fun y9 => nI (fb y9)))) := by rw [ew_26]; exact kx_set_ne f_24 (by omega)
        have f_36 : w_26[q + 9]? = some (am 9, .inl (k0 3, 4096, .inl (fun y9 => nI (sb y9)))) := by rw [ew_26]; exact kx_set_ne f_25 (by omega)
        have hfr : kx_fr w0 w_26 (fun j => q ≤ j ∧ j < q + 10) := kx_fr_tr hfr (by rw [ew_26]; exact kx_fr_set (by omega))
        refine lv_iconst (v := 1) hx hb dX3_begin_41 (by decide +kernel) ?_
        exact kx_iret (v := 1) hx hb hr rfl hlocks hK hP hD hS dX3_begin_42 (⟨Or.inl ⟨i, v, h8i, hv1, hv2, e_x, e_y, rfl, ⟨f_27, f_28, f_29, f_30, f_31, f_32, f_33, f_34, f_35, f_36⟩⟩, hfr⟩)
      · skip
        have hno : ¬ (∃ i v, i < 8 ∧ 1 ≤ v ∧ v ≤ 13 ∧ x = nI i ∧ y = nI v) := fun ⟨_, v, _, h1, h2, _, h3⟩ => by
          rw [h3] at c_15
          exact c_15 ((nI_leI (by omega) (by omega)).mpr h2)
        refine lv_iconst (v := 0) hx hb dX3_begin_18 (by decide +kernel) ?_
        exact kx_iret (v := 0) hx hb hr rfl hlocks hK hP hD hS dX3_begin_19 (⟨Or.inr ⟨hno, rfl, rfl⟩, kx_fr_rf _ _⟩)

set_option maxHeartbeats 4000000 in
set_option maxRecDepth 100000 in
/-- the model: add -/
theorem m_add (l : Launch) (D : va_G) (k0 : Nat → ClassId)  (w0 : va_W) (sz : Nat) (q : Nat) (am mv mc mo me : Nat → Nat) (mw : Nat → Int32) (mm : Nat → Nat) (mk : Nat) (mn fb sb : Nat → Nat) (hM : atM w0 q k0 am mv mc mo me mw mm mk mn fb sb) (hI : minv mv mc mo me mw) (x y z : Int32) : kx_i l yX3_add wsX3_add ({ frames := 1, cells := 0, slots := 0, locals := 24 } : Room) D (tyL k0) w0 sz [.ref (am 0), .int x, .int y, .int z] (fun (r : Int32) (u : va_W) => ((∃ i a c9, i < 8 ∧ mo i ≠ 0 ∧ a < mv i ∧ c9 < mv i ∧ mc i < 12 ∧ x = nI i ∧ y = nI a ∧ z = nI c9 ∧ r = nI (mc i) ∧ atM u q k0 am mv (fo_up mc i (mc i + 1)) mo (fo_up (fo_up me (24 * i + 2 * mc i) a) (24 * i + 2 * mc i + 1) c9) (upd mw (12 * i + mc i) 0) mm mk mn fb sb) ∨ (¬ (∃ i a c9, i < 8 ∧ mo i ≠ 0 ∧ a < mv i ∧ c9 < mv i ∧ mc i < 12 ∧ x = nI i ∧ y = nI a ∧ z = nI c9) ∧ r = -1 ∧ u = w0)) ∧ kx_fr w0 u (fun j => q ≤ j ∧ j < q + 10)) 0 0 := by
  refine kx_of (Qf := fun A => va_Qi (fun (r : Int32) (u : va_W) => ((∃ i a c9, i < 8 ∧ mo i ≠ 0 ∧ a < mv i ∧ c9 < mv i ∧ mc i < 12 ∧ x = nI i ∧ y = nI a ∧ z = nI c9 ∧ r = nI (mc i) ∧ atM u q k0 am mv (fo_up mc i (mc i + 1)) mo (fo_up (fo_up me (24 * i + 2 * mc i) a) (24 * i + 2 * mc i + 1) c9) (upd mw (12 * i + mc i) 0) mm mk mn fb sb) ∨ (¬ (∃ i a c9, i < 8 ∧ mo i ≠ 0 ∧ a < mv i ∧ c9 < mv i ∧ mc i < 12 ∧ x = nI i ∧ y = nI a ∧ z = nI c9) ∧ r = -1 ∧ u = w0)) ∧ kx_fr w0 u (fun j => q ≤ j ∧ j < q + 10)) (kx_B D (tyL k0) A) A) (cc := cX3_add) (maxL := 5) (ret := (some .int)) (by decide +kernel) (Nat.le_of_ble_eq_true rfl) ?_
  intro p e s m below meth c A ls hx hb hml hown hts hr hlocks hnm hN hK hP hD hS hA hl
  have hown : s.vm.findClass RX3 = some m.cls := hown
  have hl : lv_has ls 5 [(0, .ref (am 0)), (1, .int x), (2, .int y), (3, .int z)] := hl
  have hfr : kx_fr w0 w0 (fun j => q ≤ j ∧ j < q + 10) := kx_fr_rf _ _
  obtain ⟨hM0, hM1, hM2, hM3, hM4, hM5, hM6, hM7, hM8, hM9⟩ := id hM
  refine lv_iload_n hx hb dX3_add_0 rfl (lv_at hl 1 rfl) ?_
  refine kx_goi (va_runS (As := [.int x]) (rest := []) ⟨hx, hb, hml, hown, hts⟩ (m_isGraph l D k0 w0 _ x) ⟨(kg_B (k := 1) hts tw_289 tw_287 tw_22 (by decide +kernel) rfl rfl ⟨Nat.le_of_ble_eq_true rfl, Nat.le_of_ble_eq_true rfl⟩), hts _ tw_288⟩ (kx_preS hN hK hP hD) rfl rfl hl.1 rfl (lv_room (Nat.le_of_ble_eq_true rfl)) dX3_add_1 ⟨Nat.le_of_ble_eq_true rfl, Nat.le_of_ble_eq_true rfl⟩) hD hS hA (fun r_2 u_3 H locs hp_1 hP hD hS => ?_)
  obtain ⟨hy_x, eu⟩ := hp_1
  rw [eu] at hP hD
  refine lv_if_eq (tgt := 55) hx hb dX3_add_4 (by decide) (fun c_4 => ?_) (fun c_4 => ?_)
  · skip
    have hno0 := kg_0 hy_x c_4
    have hno : ¬ (∃ i a c9, i < 8 ∧ mo i ≠ 0 ∧ a < mv i ∧ c9 < mv i ∧ mc i < 12 ∧ x = nI i ∧ y = nI a ∧ z = nI c9) := fun ⟨i, _, _, h1, _, _, _, _, h2, _⟩ => hno0 ⟨i, h1, h2⟩
    refine lv_iconst (v := -1) hx hb dX3_add_55 (by decide +kernel) ?_
    exact kx_iret (v := -1) hx hb hr rfl hlocks hK hP hD hS dX3_add_56 (⟨Or.inr ⟨hno, rfl, rfl⟩, kx_fr_rf _ _⟩)
  · skip
    obtain ⟨i, h8i, e_x⟩ := kg_1 hy_x c_4
    rw [e_x] at hl
    obtain ⟨hni, hvi, hoi, he2i, hw2i⟩ := hI i h8i
    refine lv_aload_n hx hb dX3_add_7 rfl (lv_at hl 0 rfl) ?_
    refine va_get (D := D) (ci := 3) (v := .ref (am 3)) (C := RX3) (T := TX3) (N := 10) hx hb hts inX3 hown hK hP q hM0 rfl 2 (by decide) (hts _ tw_252) (fun _ h9 => h9) rfl dX3_add_8 ?_
    refine lv_iload_n hx hb dX3_add_11 rfl (lv_at hl 1 rfl) ?_
    refine kx_zald hx hb hK hP (q + 3) hM3 rfl (i := i) (by omega) (by decide) dX3_add_12 ?_
    refine lv_if_eq (tgt := 55) hx hb dX3_add_13 (by decide) (fun c_13 => ?_) (fun c_13 => ?_)
    · skip
      have h13 := (kb_eq0 (by omega)).mp c_13
      have hno : ¬ (∃ i a c9, i < 8 ∧ mo i ≠ 0 ∧ a < mv i ∧ c9 < mv i ∧ mc i < 12 ∧ x = nI i ∧ y = nI a ∧ z = nI c9) := fun ⟨i2, _, _, _, h2, _, _, _, h5, _, _⟩ => by
        have hi2 : i2 = i := ((nI_eq (by omega) (by omega)).mp (h5.symm.trans e_x))
        subst hi2
        exact h2 h13
      refine lv_iconst (v := -1) hx hb dX3_add_55 (by decide +kernel) ?_
      exact kx_iret (v := -1) hx hb hr rfl hlocks hK hP hD hS dX3_add_56 (⟨Or.inr ⟨hno, rfl, rfl⟩, kx_fr_rf _ _⟩)
    · skip
      have hop : mo i ≠ 0 := fun h => c_13 ((kb_eq0 (by omega)).mpr h)
      refine lv_aload_n hx hb dX3_add_16 rfl (lv_at hl 0 rfl) ?_
      refine va_get (D := D) (ci := 3) (v := .ref (am 2)) (C := RX3) (T := TX3) (N := 10) hx hb hts inX3 hown hK hP q hM0 rfl 1 (by decide) (hts _ tw_251) (fun _ h9 => h9) rfl dX3_add_17 ?_
      refine lv_iload_n hx hb dX3_add_20 rfl (lv_at hl 1 rfl) ?_
      refine kx_nald hx hb hK hP (q + 2) hM2 rfl (i := i) (by omega) (by decide) dX3_add_21 ?_
      refine lv_bipush (v := nI 12) hx hb dX3_add_22 (by decide +kernel) ?_
      refine lv_icmp_eq (tgt := 55) hx hb dX3_add_24 (by decide) (fun c_24 => ?_) (fun c_24 => ?_)
      · skip
        have h24 := (nI_eq (by omega) (by omega)).mp c_24
        have hno : ¬ (∃ i a c9, i < 8 ∧ mo i ≠ 0 ∧ a < mv i ∧ c9 < mv i ∧ mc i < 12 ∧ x = nI i ∧ y = nI a ∧ z = nI c9) := fun ⟨i2, _, _, _, _, _, _, h4, h5, _, _⟩ => by
          have hi2 : i2 = i := ((nI_eq (by omega) (by omega)).mp (h5.symm.trans e_x))
          subst hi2
          omega
        refine lv_iconst (v := -1) hx hb dX3_add_55 (by decide +kernel) ?_
        exact kx_iret (v := -1) hx hb hr rfl hlocks hK hP hD hS dX3_add_56 (⟨Or.inr ⟨hno, rfl, rfl⟩, kx_fr_rf _ _⟩)
      · skip
        have h12 : mc i < 12 := by
          rcases Nat.lt_or_ge (mc i) 12 with h | h
          · exact h
          · exact absurd (show nI (mc i) = nI 12 by rw [show mc i = 12 by omega]) c_24
        refine lv_iload_n hx hb dX3_add_27 rfl (lv_at hl 2 rfl) ?_
        refine lv_if_lt (tgt := 55) hx hb dX3_add_28 (by decide) (fun c_28 => ?_) (fun c_28 => ?_)
        · skip
          have hno : ¬ (∃ i a c9, i < 8 ∧ mo i ≠ 0 ∧ a < mv i ∧ c9 < mv i ∧ mc i < 12 ∧ x = nI i ∧ y = nI a ∧ z = nI c9) := fun ⟨i2, a, _, h0, _, h3, _, _, _, h6, _⟩ => nI_pos (n := a) (by have := (hI i2 h0).2.1; omega) (by rw [← h6]; exact c_28)
          refine lv_iconst (v := -1) hx hb dX3_add_55 (by decide +kernel) ?_
          exact kx_iret (v := -1) hx hb hr rfl hlocks hK hP hD hS dX3_add_56 (⟨Or.inr ⟨hno, rfl, rfl⟩, kx_fr_rf _ _⟩)
        · skip
          refine lv_iload_n hx hb dX3_add_31 rfl (lv_at hl 3 rfl) ?_
          refine lv_if_lt (tgt := 55) hx hb dX3_add_32 (by decide) (fun c_32 => ?_) (fun c_32 => ?_)
          · skip
            have hno : ¬ (∃ i a c9, i < 8 ∧ mo i ≠ 0 ∧ a < mv i ∧ c9 < mv i ∧ mc i < 12 ∧ x = nI i ∧ y = nI a ∧ z = nI c9) := fun ⟨i2, _, c9, h0, _, _, h3, _, _, _, h6⟩ => nI_pos (n := c9) (by have := (hI i2 h0).2.1; omega) (by rw [← h6]; exact c_32)
            refine lv_iconst (v := -1) hx hb dX3_add_55 (by decide +kernel) ?_
            exact kx_iret (v := -1) hx hb hr rfl hlocks hK hP hD hS dX3_add_56 (⟨Or.inr ⟨hno, rfl, rfl⟩, kx_fr_rf _ _⟩)
          · skip
            refine lv_iload_n hx hb dX3_add_35 rfl (lv_at hl 2 rfl) ?_
            refine lv_aload_n hx hb dX3_add_36 rfl (lv_at hl 0 rfl) ?_
            refine va_get (D := D) (ci := 3) (v := .ref (am 1)) (C := RX3) (T := TX3) (N := 10) hx hb hts inX3 hown hK hP q hM0 rfl 0 (by decide) (hts _ tw_250) (fun _ h9 => h9) rfl dX3_add_37 ?_
            refine lv_iload_n hx hb dX3_add_40 rfl (lv_at hl 1 rfl) ?_
            refine kx_nald hx hb hK hP (q + 1) hM1 rfl (i := i) (by omega) (by decide) dX3_add_41 ?_
            refine lv_icmp_ge (tgt := 55) hx hb dX3_add_42 (by decide) (fun c_42 => ?_) (fun c_42 => ?_)
            · skip
              have hno : ¬ (∃ i a c9, i < 8 ∧ mo i ≠ 0 ∧ a < mv i ∧ c9 < mv i ∧ mc i < 12 ∧ x = nI i ∧ y = nI a ∧ z = nI c9) := fun ⟨i2, a, _, _, _, h3, _, _, h5, h6, _⟩ => by
                have hi2 : i2 = i := ((nI_eq (by omega) (by omega)).mp (h5.symm.trans e_x))
                subst hi2
                exact nI_ge (a := a) (b := mv i2) h3 (by omega) (by rw [← h6]; exact c_42)
              refine lv_iconst (v := -1) hx hb dX3_add_55 (by decide +kernel) ?_
              exact kx_iret (v := -1) hx hb hr rfl hlocks hK hP hD hS dX3_add_56 (⟨Or.inr ⟨hno, rfl, rfl⟩, kx_fr_rf _ _⟩)
            · skip
              obtain ⟨a, h_a, e_y⟩ : ∃ a, a < mv i ∧ y = nI a := by
                rcases pk_ix y (n := mv i) (by omega) with h | h | h
                · exact absurd h c_28
                · exact absurd h c_42
                · exact h
              refine lv_iload_n hx hb dX3_add_45 rfl (lv_at hl 3 rfl) ?_
              refine lv_aload_n hx hb dX3_add_46 rfl (lv_at hl 0 rfl) ?_
              refine va_get (D := D) (ci := 3) (v := .ref (am 1)) (C := RX3) (T := TX3) (N := 10) hx hb hts inX3 hown hK hP q hM0 rfl 0 (by decide) (hts _ tw_250) (fun _ h9 => h9) rfl dX3_add_47 ?_
              refine lv_iload_n hx hb dX3_add_50 rfl (lv_at hl 1 rfl) ?_
              refine kx_nald hx hb hK hP (q + 1) hM1 rfl (i := i) (by omega) (by decide) dX3_add_51 ?_
              refine lv_icmp_lt (tgt := 57) hx hb dX3_add_52 (by decide) (fun c_52 => ?_) (fun c_52 => ?_)
              · skip
                obtain ⟨c9, h_c9, e_z⟩ : ∃ c9, c9 < mv i ∧ z = nI c9 := by
                  rcases pk_ix z (n := mv i) (by omega) with h | h | h
                  · exact absurd h c_32
                  · exact absurd c_52 (Int32.not_lt.mpr h)
                  · exact h
                rw [e_y, e_z] at hl
                refine lv_aload_n hx hb dX3_add_57 rfl (lv_at hl 0 rfl) ?_
                refine va_get (D := D) (ci := 3) (v := .ref (am 2)) (C := RX3) (T := TX3) (N := 10) hx hb hts inX3 hown hK hP q hM0 rfl 1 (by decide) (hts _ tw_251) (fun _ h9 => h9) rfl dX3_add_58 ?_
                refine lv_iload_n hx hb dX3_add_61 rfl (lv_at hl 1 rfl) ?_
                refine kx_nald hx hb hK hP (q + 2) hM2 rfl (i := i) (by omega) (by decide) dX3_add_62 ?_
                refine lv_istore (lv' := [(4, .int (nI (mc i))), (0, .ref (am 0)), (1, .int (nI i)), (2, .int (nI a)), (3, .int (nI c9))]) hx hb dX3_add_63 hl (by decide) rfl (fun ls hl => ?_)
                refine lv_aload_n hx hb dX3_add_65 rfl (lv_at hl 1 rfl) ?_
                refine va_get (D := D) (ci := 3) (v := .ref (am 4)) (C := RX3) (T := TX3) (N := 10) hx hb hts inX3 hown hK hP q hM0 rfl 3 (by decide) (hts _ tw_253) (fun _ h9 => h9) rfl dX3_add_66 ?_
                refine lv_bipush (v := nI 24) hx hb dX3_add_69 (by decide +kernel) ?_
                refine lv_iload_n hx hb dX3_add_71 rfl (lv_at hl 2 rfl) ?_
                refine lv_imul hx hb dX3_add_72 ?_
                refine lv_topi (fun z_4 ez_4 => ?_)
                have ez_4 : z_4 = nI (24 * i) := by rw [ez_4]; exact pk_mul _ _
                subst ez_4
                refine lv_iconst (v := nI 2) hx hb dX3_add_73 (by decide +kernel) ?_
                refine lv_iload hx hb dX3_add_74 (lv_at hl 0 rfl) ?_
                refine lv_imul hx hb dX3_add_76 ?_
                refine lv_topi (fun z_5 ez_5 => ?_)
                have ez_5 : z_5 = nI (2 * mc i) := by rw [ez_5]; exact pk_mul _ _
                subst ez_5
                refine lv_iadd hx hb dX3_add_77 ?_
                refine lv_topi (fun z_6 ez_6 => ?_)
                have ez_6 : z_6 = nI (24 * i + 2 * mc i) := by rw [ez_6]; exact nI_add _ _
                subst ez_6
                refine lv_iload_n hx hb dX3_add_78 rfl (lv_at hl 3 rfl) ?_
                refine kx_nast hx hb hK hP hD hS (q + 4) hM4 rfl (i := (24 * i + 2 * mc i)) (x := a) (by omega) (by decide) dX3_add_79 (fun H locs hP hD hS => ?_)
                obtain ⟨w_7, ew_7⟩ : ∃ w, w = w0.set (q + 4) (am 4, .inl (k0 0, 192, .inl (fun y9 => nI ((fo_up me (24 * i + 2 * mc i) a) y9)))) := ⟨_, rfl⟩
                have hP : va_P D vwCl w_7 H := by rw [ew_7]; exact hP
                have hD : va_D A w_7 := by rw [ew_7]; exact hD
                have f_8 : w_7[q]? = some (am 0, .inr (3, [.ref (am 1), .ref (am 2), .ref (am 3), .ref (am 4), .ref (am 5), .ref (am 6), .int (nI mk), .ref (am 7), .ref (am 8), .ref (am 9)])) := by rw [ew_7]; exact kx_set_ne hM0 (by omega)
                have f_9 : w_7[q + 1]? = some (am 1, .inl (k0 0, 8, .inl (fun y9 => nI (mv y9)))) := by rw [ew_7]; exact kx_set_ne hM1 (by omega)
                have f_10 : w_7[q + 2]? = some (am 2, .inl (k0 0, 8, .inl (fun y9 => nI (mc y9)))) := by rw [ew_7]; exact kx_set_ne hM2 (by omega)
                have f_11 : w_7[q + 3]? = some (am 3, .inl (k0 2, 8, .inl (fun y9 => nI (mo y9)))) := by rw [ew_7]; exact kx_set_ne hM3 (by omega)
                have f_12 : w_7[q + 4]? = some (am 4, .inl (k0 0, 192, .inl (fun y9 => nI ((fo_up me (24 * i + 2 * mc i) a) y9)))) := by rw [ew_7]; exact kx_set_self hM4
                have f_13 : w_7[q + 5]? = some (am 5, .inl (k0 0, 96, .inl mw)) := by rw [ew_7]; exact kx_set_ne hM5 (by omega)
                have f_14 : w_7[q + 6]? = some (am 6, .inl (k0 0, 24, .inl (fun y9 => nI (mm y9)))) := by rw [ew_7]; exact kx_set_ne hM6 (by omega)
                have f_15 : w_7[q + 7]? = some (am 7, .inl (k0 0, 32, .inl (fun y9 => nI (mn y9)))) := by rw [ew_7]; exact kx_set_ne hM7 (by omega)
                have f_16 : w_7[q + 8]? = some (am 8, .inl (k0 3, 4096, .inl (fun y9 => nI (fb y9)))) := by rw [ew_7]; exact kx_set_ne hM8 (by omega)
                have f_17 : w_7[q + 9]? = some (am 9, .inl (k0 3, 4096, .inl (fun y9 => nI (sb y9)))) := by rw [ew_7]; exact kx_set_ne hM9 (by omega)
                have hfr : kx_fr w0 w_7 (fun j => q ≤ j ∧ j < q + 10) := kx_fr_tr hfr (by rw [ew_7]; exact kx_fr_set (by omega))
                refine lv_aload_n hx hb dX3_add_80 rfl (lv_at hl 1 rfl) ?_
                refine va_get (D := D) (ci := 3) (v := .ref (am 4)) (C := RX3) (T := TX3) (N := 10) hx hb hts inX3 hown hK hP q f_8 rfl 3 (by decide) (hts _ tw_253) (fun _ h9 => h9) rfl dX3_add_81 ?_
                refine lv_bipush (v := nI 24) hx hb dX3_add_84 (by decide +kernel) ?_
                refine lv_iload_n hx hb dX3_add_86 rfl (lv_at hl 2 rfl) ?_
                refine lv_imul hx hb dX3_add_87 ?_
                refine lv_topi (fun z_18 ez_18 => ?_)
                have ez_18 : z_18 = nI (24 * i) := by rw [ez_18]; exact pk_mul _ _
                subst ez_18
                refine lv_iconst (v := nI 2) hx hb dX3_add_88 (by decide +kernel) ?_
                refine lv_iload hx hb dX3_add_89 (lv_at hl 0 rfl) ?_
                refine lv_imul hx hb dX3_add_91 ?_
                refine lv_topi (fun z_19 ez_19 => ?_)
                have ez_19 : z_19 = nI (2 * mc i) := by rw [ez_19]; exact pk_mul _ _
                subst ez_19
                refine lv_iadd hx hb dX3_add_92 ?_
                refine lv_topi (fun z_20 ez_20 => ?_)
                have ez_20 : z_20 = nI (24 * i + 2 * mc i) := by rw [ez_20]; exact nI_add _ _
                subst ez_20
                refine lv_iconst (v := nI 1) hx hb dX3_add_93 (by decide +kernel) ?_
                refine lv_iadd hx hb dX3_add_94 ?_
                refine lv_topi (fun z_21 ez_21 => ?_)
                have ez_21 : z_21 = nI (24 * i + 2 * mc i + 1) := by rw [ez_21]; exact nI_add _ _
                subst ez_21
                refine lv_iload_n hx hb dX3_add_95 rfl (lv_at hl 4 rfl) ?_
                refine kx_nast hx hb hK hP hD hS (q + 4) f_12 rfl (i := (24 * i + 2 * mc i + 1)) (x := c9) (by omega) (by decide) dX3_add_96 (fun H locs hP hD hS => ?_)
                obtain ⟨w_22, ew_22⟩ : ∃ w, w = w_7.set (q + 4) (am 4, .inl (k0 0, 192, .inl (fun y9 => nI ((fo_up (fo_up me (24 * i + 2 * mc i) a) (24 * i + 2 * mc i + 1) c9) y9)))) := ⟨_, rfl⟩
                have hP : va_P D vwCl w_22 H := by rw [ew_22]; exact hP
                have hD : va_D A w_22 := by rw [ew_22]; exact hD
                have f_23 : w_22[q]? = some (am 0, .inr (3, [.ref (am 1), .ref (am 2), .ref (am 3), .ref (am 4), .ref (am 5), .ref (am 6), .int (nI mk), .ref (am 7), .ref (am 8), .ref (am 9)])) := by rw [ew_22]; exact kx_set_ne f_8 (by omega)
                have f_24 : w_22[q + 1]? = some (am 1, .inl (k0 0, 8, .inl (fun y9 => nI (mv y9)))) := by rw [ew_22]; exact kx_set_ne f_9 (by omega)
                have f_25 : w_22[q + 2]? = some (am 2, .inl (k0 0, 8, .inl (fun y9 => nI (mc y9)))) := by rw [ew_22]; exact kx_set_ne f_10 (by omega)
                have f_26 : w_22[q + 3]? = some (am 3, .inl (k0 2, 8, .inl (fun y9 => nI (mo y9)))) := by rw [ew_22]; exact kx_set_ne f_11 (by omega)
                have f_27 : w_22[q + 4]? = some (am 4, .inl (k0 0, 192, .inl (fun y9 => nI ((fo_up (fo_up me (24 * i + 2 * mc i) a) (24 * i + 2 * mc i + 1) c9) y9)))) := by rw [ew_22]; exact kx_set_self f_12
                have f_28 : w_22[q + 5]? = some (am 5, .inl (k0 0, 96, .inl mw)) := by rw [ew_22]; exact kx_set_ne f_13 (by omega)
                have f_29 : w_22[q + 6]? = some (am 6, .inl (k0 0, 24, .inl (fun y9 => nI (mm y9)))) := by rw [ew_22]; exact kx_set_ne f_14 (by omega)
                have f_30 : w_22[q + 7]? = some (am 7, .inl (k0 0, 32, .inl (fun y9 => nI (mn y9)))) := by rw [ew_22]; exact kx_set_ne f_15 (by omega)
                have f_31 : w_22[q + 8]? = some (am 8, .inl (k0 3, 4096, .inl (fun y9 => nI (fb y9)))) := by rw [ew_22]; exact kx_set_ne f_16 (by omega)
                have f_32 : w_22[q + 9]? = some (am 9, .inl (k0 3, 4096, .inl (fun y9 => nI (sb y9)))) := by rw [ew_22]; exact kx_set_ne f_17 (by omega)
                have hfr : kx_fr w0 w_22 (fun j => q ≤ j ∧ j < q + 10) := kx_fr_tr hfr (by rw [ew_22]; exact kx_fr_set (by omega))
                refine lv_aload_n hx hb dX3_add_97 rfl (lv_at hl 1 rfl) ?_
                refine va_get (D := D) (ci := 3) (v := .ref (am 5)) (C := RX3) (T := TX3) (N := 10) hx hb hts inX3 hown hK hP q f_23 rfl 4 (by decide) (hts _ tw_254) (fun _ h9 => h9) rfl dX3_add_98 ?_
                refine lv_bipush (v := nI 12) hx hb dX3_add_101 (by decide +kernel) ?_
                refine lv_iload_n hx hb dX3_add_103 rfl (lv_at hl 2 rfl) ?_
                refine lv_imul hx hb dX3_add_104 ?_
                refine lv_topi (fun z_33 ez_33 => ?_)
                have ez_33 : z_33 = nI (12 * i) := by rw [ez_33]; exact pk_mul _ _
                subst ez_33
                refine lv_iload hx hb dX3_add_105 (lv_at hl 0 rfl) ?_
                refine lv_iadd hx hb dX3_add_107 ?_
                refine lv_topi (fun z_34 ez_34 => ?_)
                have ez_34 : z_34 = nI (12 * i + mc i) := by rw [ez_34]; exact nI_add _ _
                subst ez_34
                refine lv_iconst (v := 0) hx hb dX3_add_108 (by decide +kernel) ?_
                refine kx_iast hx hb hK hP hD hS (q + 5) f_28 rfl (i := (12 * i + mc i)) (x := 0) (by omega) (by decide) dX3_add_109 (fun H locs hP hD hS => ?_)
                obtain ⟨w_35, ew_35⟩ : ∃ w, w = w_22.set (q + 5) (am 5, .inl (k0 0, 96, .inl (upd mw (12 * i + mc i) 0))) := ⟨_, rfl⟩
                have hP : va_P D vwCl w_35 H := by rw [ew_35]; exact hP
                have hD : va_D A w_35 := by rw [ew_35]; exact hD
                have f_36 : w_35[q]? = some (am 0, .inr (3, [.ref (am 1), .ref (am 2), .ref (am 3), .ref (am 4), .ref (am 5), .ref (am 6), .int (nI mk), .ref (am 7), .ref (am 8), .ref (am 9)])) := by rw [ew_35]; exact kx_set_ne f_23 (by omega)
                have f_37 : w_35[q + 1]? = some (am 1, .inl (k0 0, 8, .inl (fun y9 => nI (mv y9)))) := by rw [ew_35]; exact kx_set_ne f_24 (by omega)
                have f_38 : w_35[q + 2]? = some (am 2, .inl (k0 0, 8, .inl (fun y9 => nI (mc y9)))) := by rw [ew_35]; exact kx_set_ne f_25 (by omega)
                have f_39 : w_35[q + 3]? = some (am 3, .inl (k0 2, 8, .inl (fun y9 => nI (mo y9)))) := by rw [ew_35]; exact kx_set_ne f_26 (by omega)
                have f_40 : w_35[q + 4]? = some (am 4, .inl (k0 0, 192, .inl (fun y9 => nI ((fo_up (fo_up me (24 * i + 2 * mc i) a) (24 * i + 2 * mc i + 1) c9) y9)))) := by rw [ew_35]; exact kx_set_ne f_27 (by omega)
                have f_41 : w_35[q + 5]? = some (am 5, .inl (k0 0, 96, .inl (upd mw (12 * i + mc i) 0))) := by rw [ew_35]; exact kx_set_self f_28
                have f_42 : w_35[q + 6]? = some (am 6, .inl (k0 0, 24, .inl (fun y9 => nI (mm y9)))) := by rw [ew_35]; exact kx_set_ne f_29 (by omega)
                have f_43 : w_35[q + 7]? = some (am 7, .inl (k0 0, 32, .inl (fun y9 => nI (mn y9)))) := by rw [ew_35]; exact kx_set_ne f_30 (by omega)
                have f_44 : w_35[q + 8]? = some (am 8, .inl (k0 3, 4096, .inl (fun y9 => nI (fb y9)))) := by rw [ew_35]; exact kx_set_ne f_31 (by omega)
                have f_45 : w_35[q + 9]? = some (am 9, .inl (k0 3, 4096, .inl (fun y9 => nI (sb y9)))) := by rw [ew_35]; exact kx_set_ne f_32 (by omega)
                have hfr : kx_fr w0 w_35 (fun j => q ≤ j ∧ j < q + 10) := kx_fr_tr hfr (by rw [ew_35]; exact kx_fr_set (by omega))
                refine lv_aload_n hx hb dX3_add_110 rfl (lv_at hl 1 rfl) ?_
                refine va_get (D := D) (ci := 3) (v := .ref (am 2)) (C := RX3) (T := TX3) (N := 10) hx hb hts inX3 hown hK hP q f_36 rfl 1 (by decide) (hts _ tw_251) (fun _ h9 => h9) rfl dX3_add_111 ?_
                refine lv_iload_n hx hb dX3_add_114 rfl (lv_at hl 2 rfl) ?_
                refine lv_iload hx hb dX3_add_115 (lv_at hl 0 rfl) ?_
                refine lv_iconst (v := nI 1) hx hb dX3_add_117 (by decide +kernel) ?_
                refine lv_iadd hx hb dX3_add_118 ?_
                refine lv_topi (fun z_46 ez_46 => ?_)
                have ez_46 : z_46 = nI (mc i + 1) := by rw [ez_46]; exact nI_add _ _
                subst ez_46
                refine kx_nast hx hb hK hP hD hS (q + 2) f_38 rfl (i := i) (x := (mc i + 1)) (by omega) (by decide) dX3_add_119 (fun H locs hP hD hS => ?_)
                obtain ⟨w_47, ew_47⟩ : ∃ w, w = w_35.set (q + 2) (am 2, .inl (k0 0, 8, .inl (fun y9 => nI ((fo_up mc i (mc i + 1)) y9)))) := ⟨_, rfl⟩
                have hP : va_P D vwCl w_47 H := by rw [ew_47]; exact hP
                have hD : va_D A w_47 := by rw [ew_47]; exact hD
                have f_48 : w_47[q]? = some (am 0, .inr (3, [.ref (am 1), .ref (am 2), .ref (am 3), .ref (am 4), .ref (am 5), .ref (am 6), .int (nI mk), .ref (am 7), .ref (am 8), .ref (am 9)])) := by rw [ew_47]; exact kx_set_ne f_36 (by omega)
                have f_49 : w_47[q + 1]? = some (am 1, .inl (k0 0, 8, .inl (fun y9 => nI (mv y9)))) := by rw [ew_47]; exact kx_set_ne f_37 (by omega)
                have f_50 : w_47[q + 2]? = some (am 2, .inl (k0 0, 8, .inl (fun y9 => nI ((fo_up mc i (mc i + 1)) y9)))) := by rw [ew_47]; exact kx_set_self f_38
                have f_51 : w_47[q + 3]? = some (am 3, .inl (k0 2, 8, .inl (fun y9 => nI (mo y9)))) := by rw [ew_47]; exact kx_set_ne f_39 (by omega)
                have f_52 : w_47[q + 4]? = some (am 4, .inl (k0 0, 192, .inl (fun y9 => nI ((fo_up (fo_up me (24 * i + 2 * mc i) a) (24 * i + 2 * mc i + 1) c9) y9)))) := by rw [ew_47]; exact kx_set_ne f_40 (by omega)
                have f_53 : w_47[q + 5]? = some (am 5, .inl (k0 0, 96, .inl (upd mw (12 * i + mc i) 0))) := by rw [ew_47]; exact kx_set_ne f_41 (by omega)
                have f_54 : w_47[q + 6]? = some (am 6, .inl (k0 0, 24, .inl (fun y9 => nI (mm y9)))) := by rw [ew_47]; exact kx_set_ne f_42 (by omega)
                have f_55 : w_47[q + 7]? = some (am 7, .inl (k0 0, 32, .inl (fun y9 => nI (mn y9)))) := by rw [ew_47]; exact kx_set_ne f_43 (by omega)
                have f_56 : w_47[q + 8]? = some (am 8, .inl (k0 3, 4096, .inl (fun y9 => nI (fb y9)))) := by rw [ew_47]; exact kx_set_ne f_44 (by omega)
                have f_57 : w_47[q + 9]? = some (am 9, .inl (k0 3, 4096, .inl (fun y9 => nI (sb y9)))) := by rw [ew_47]; exact kx_set_ne f_45 (by omega)
                have hfr : kx_fr w0 w_47 (fun j => q ≤ j ∧ j < q + 10) := kx_fr_tr hfr (by rw [ew_47]; exact kx_fr_set (by omega))
                refine lv_iload hx hb dX3_add_120 (lv_at hl 0 rfl) ?_
                exact kx_iret (v := nI (mc i)) hx hb hr rfl hlocks hK hP hD hS dX3_add_122 (⟨Or.inl ⟨i, a, c9, h8i, hop, h_a, h_c9, h12, e_x, e_y, e_z, rfl, ⟨f_48, f_49, f_50, f_51, f_52, f_53, f_54, f_55, f_56, f_57⟩⟩, hfr⟩)
              · skip
                have hno : ¬ (∃ i a c9, i < 8 ∧ mo i ≠ 0 ∧ a < mv i ∧ c9 < mv i ∧ mc i < 12 ∧ x = nI i ∧ y = nI a ∧ z = nI c9) := fun ⟨i2, _, c9, _, _, _, h3, _, h5, _, h6⟩ => by
                  have hi2 : i2 = i := ((nI_eq (by omega) (by omega)).mp (h5.symm.trans e_x))
                  subst hi2
                  exact c_52 (by rw [h6]; exact nI_lt h3 (by omega))
                refine lv_iconst (v := -1) hx hb dX3_add_55 (by decide +kernel) ?_
                exact kx_iret (v := -1) hx hb hr rfl hlocks hK hP hD hS dX3_add_56 (⟨Or.inr ⟨hno, rfl, rfl⟩, kx_fr_rf _ _⟩)

set_option maxHeartbeats 4000000 in
set_option maxRecDepth 100000 in
/-- the model: weigh -/
theorem m_weigh (l : Launch) (D : va_G) (k0 : Nat → ClassId)  (w0 : va_W) (sz : Nat) (q : Nat) (am mv mc mo me : Nat → Nat) (mw : Nat → Int32) (mm : Nat → Nat) (mk : Nat) (mn fb sb : Nat → Nat) (hM : atM w0 q k0 am mv mc mo me mw mm mk mn fb sb) (hI : minv mv mc mo me mw) (x y z : Int32) : kx_i l yX3_weigh wsX3_weigh ({ frames := 2, cells := 0, slots := 0, locals := 48 } : Room) D (tyL k0) w0 sz [.ref (am 0), .int x, .int y, .int z] (fun (r : Int32) (u : va_W) => ((∃ i e9, i < 8 ∧ e9 < mc i ∧ x = nI i ∧ y = nI e9 ∧ -999 ≤ z.toInt ∧ z.toInt ≤ 999 ∧ r = 1 ∧ atM u q k0 am mv mc mo me (upd mw (12 * i + e9) z) mm mk mn fb sb) ∨ (¬ (∃ i e9, i < 8 ∧ e9 < mc i ∧ x = nI i ∧ y = nI e9 ∧ -999 ≤ z.toInt ∧ z.toInt ≤ 999) ∧ r = 0 ∧ u = w0)) ∧ kx_fr w0 u (fun j => q ≤ j ∧ j < q + 10)) 0 0 := by
  refine kx_of (Qf := fun A => va_Qi (fun (r : Int32) (u : va_W) => ((∃ i e9, i < 8 ∧ e9 < mc i ∧ x = nI i ∧ y = nI e9 ∧ -999 ≤ z.toInt ∧ z.toInt ≤ 999 ∧ r = 1 ∧ atM u q k0 am mv mc mo me (upd mw (12 * i + e9) z) mm mk mn fb sb) ∨ (¬ (∃ i e9, i < 8 ∧ e9 < mc i ∧ x = nI i ∧ y = nI e9 ∧ -999 ≤ z.toInt ∧ z.toInt ≤ 999) ∧ r = 0 ∧ u = w0)) ∧ kx_fr w0 u (fun j => q ≤ j ∧ j < q + 10)) (kx_B D (tyL k0) A) A) (cc := cX3_weigh) (maxL := 4) (ret := (some .boolean)) (by decide +kernel) (Nat.le_of_ble_eq_true rfl) ?_
  intro p e s m below meth c A ls hx hb hml hown hts hr hlocks hnm hN hK hP hD hS hA hl
  have hown : s.vm.findClass RX3 = some m.cls := hown
  have hl : lv_has ls 4 [(0, .ref (am 0)), (1, .int x), (2, .int y), (3, .int z)] := hl
  have hfr : kx_fr w0 w0 (fun j => q ≤ j ∧ j < q + 10) := kx_fr_rf _ _
  obtain ⟨hM0, hM1, hM2, hM3, hM4, hM5, hM6, hM7, hM8, hM9⟩ := id hM
  refine lv_aload_n hx hb dX3_weigh_0 rfl (lv_at hl 0 rfl) ?_
  refine lv_iload_n hx hb dX3_weigh_1 rfl (lv_at hl 1 rfl) ?_
  refine lv_iload_n hx hb dX3_weigh_2 rfl (lv_at hl 2 rfl) ?_
  refine kx_goi (va_runV (As := [.int x, .int y]) (rest := []) ⟨hx, hb, hml, hown, hts⟩ (m_isEdge l D k0 w0 _ q am mv mc mo me mw mm mk mn fb sb ⟨hM0, hM1, hM2, hM3, hM4, hM5, hM6, hM7, hM8, hM9⟩ hI x y) ⟨(kg_B (k := 2) hts tw_301 tw_298 tw_22 (by decide +kernel) rfl rfl ⟨Nat.le_of_ble_eq_true rfl, Nat.le_of_ble_eq_true rfl⟩), hts _ tw_300, hts _ tw_8⟩ (kx_preV hN hK hP hD rfl hM0) rfl rfl hl.1 rfl (lv_room (Nat.le_of_ble_eq_true rfl)) dX3_weigh_3 ⟨Nat.le_of_ble_eq_true rfl, Nat.le_of_ble_eq_true rfl⟩) hD hS hA (fun r_2 u_3 H locs hp_1 hP hD hS => ?_)
  obtain ⟨hy_, eu⟩ := hp_1
  rw [eu] at hP hD
  refine lv_if_eq (tgt := 23) hx hb dX3_weigh_6 (by decide) (fun c_6 => ?_) (fun c_6 => ?_)
  · skip
    have hno0 := kg_0 hy_ c_6
    have hno : ¬ (∃ i e9, i < 8 ∧ e9 < mc i ∧ x = nI i ∧ y = nI e9 ∧ -999 ≤ z.toInt ∧ z.toInt ≤ 999) := fun ⟨i, e9, h1, h2, h3, h4, _⟩ => hno0 ⟨i, e9, h1, h2, h3, h4⟩
    refine lv_iconst (v := 0) hx hb dX3_weigh_23 (by decide +kernel) ?_
    exact kx_iret (v := 0) hx hb hr rfl hlocks hK hP hD hS dX3_weigh_24 (⟨Or.inr ⟨hno, rfl, rfl⟩, kx_fr_rf _ _⟩)
  · skip
    obtain ⟨i, e9, h8i, he9, e_x, e_y⟩ := kg_1 hy_ c_6
    rw [e_x, e_y] at hl
    obtain ⟨hni, hvi, hoi, he2i, hw2i⟩ := hI i h8i
    refine lv_iload_n hx hb dX3_weigh_9 rfl (lv_at hl 3 rfl) ?_
    refine lv_sipush (v := -999) hx hb dX3_weigh_10 (by decide +kernel) ?_
    refine lv_icmp_lt (tgt := 23) hx hb dX3_weigh_13 (by decide) (fun c_13 => ?_) (fun c_13 => ?_)
    · skip
      have hno : ¬ (∃ i e9, i < 8 ∧ e9 < mc i ∧ x = nI i ∧ y = nI e9 ∧ -999 ≤ z.toInt ∧ z.toInt ≤ 999) := fun ⟨_, _, _, _, _, _, h1, _⟩ => by
        rw [Int32.lt_iff_toInt_lt, show ((-999 : Int32)).toInt = -999 by decide] at c_13
        omega
      refine lv_iconst (v := 0) hx hb dX3_weigh_23 (by decide +kernel) ?_
      exact kx_iret (v := 0) hx hb hr rfl hlocks hK hP hD hS dX3_weigh_24 (⟨Or.inr ⟨hno, rfl, rfl⟩, kx_fr_rf _ _⟩)
    · skip
      have hz1 : -999 ≤ z.toInt := by
        rw [Int32.lt_iff_toInt_lt, show ((-999 : Int32)).toInt = -999 by decide] at c_13
        omega
      refine lv_iload_n hx hb dX3_weigh_16 rfl (lv_at hl 3 rfl) ?_
      refine lv_sipush (v := 999) hx hb dX3_weigh_17 (by decide +kernel) ?_
      refine lv_icmp_le (tgt := 25) hx hb dX3_weigh_20 (by decide) (fun c_20 => ?_) (fun c_20 => ?_)
      · skip
        have hz2 : z.toInt ≤ 999 := by
          rw [Int32.le_iff_toInt_le, show ((999 : Int32)).toInt = 999 by decide] at c_20
          exact c_20
        refine lv_aload_n hx hb dX3_weigh_25 rfl (lv_at hl 0 rfl) ?_
        refine va_get (D := D) (ci := 3) (v := .ref (am 5)) (C := RX3) (T := TX3) (N := 10) hx hb hts inX3 hown hK hP q hM0 rfl 4 (by decide) (hts _ tw_254) (fun _ h9 => h9) rfl dX3_weigh_26 ?_
        refine lv_bipush (v := nI 12) hx hb dX3_weigh_29 (by decide +kernel) ?_
        refine lv_iload_n hx hb dX3_weigh_31 rfl (lv_at hl 1 rfl) ?_
        refine lv_imul hx hb dX3_weigh_32 ?_
        refine lv_topi (fun z_4 ez_4 => ?_)
        have ez_4 : z_4 = nI (12 * i) := by rw [ez_4]; exact pk_mul _ _
        subst ez_4
        refine lv_iload_n hx hb dX3_weigh_33 rfl (lv_at hl 2 rfl) ?_
        refine lv_iadd hx hb dX3_weigh_34 ?_
        refine lv_topi (fun z_5 ez_5 => ?_)
        have ez_5 : z_5 = nI (12 * i + e9) := by rw [ez_5]; exact nI_add _ _
        subst ez_5
        refine lv_iload_n hx hb dX3_weigh_35 rfl (lv_at hl 3 rfl) ?_
        refine kx_iast hx hb hK hP hD hS (q + 5) hM5 rfl (i := (12 * i + e9)) (x := z) (by omega) (by decide) dX3_weigh_36 (fun H locs hP hD hS => ?_)
        obtain ⟨w_6, ew_6⟩ : ∃ w, w = w0.set (q + 5) (am 5, .inl (k0 0, 96, .inl (upd mw (12 * i + e9) z))) := ⟨_, rfl⟩
        have hP : va_P D vwCl w_6 H := by rw [ew_6]; exact hP
        have hD : va_D A w_6 := by rw [ew_6]; exact hD
        have f_7 : w_6[q]? = some (am 0, .inr (3, [.ref (am 1), .ref (am 2), .ref (am 3), .ref (am 4), .ref (am 5), .ref (am 6), .int (nI mk), .ref (am 7), .ref (am 8), .ref (am 9)])) := by rw [ew_6]; exact kx_set_ne hM0 (by omega)
        have f_8 : w_6[q + 1]? = some (am 1, .inl (k0 0, 8, .inl (fun y9 => nI (mv y9)))) := by rw [ew_6]; exact kx_set_ne hM1 (by omega)
        have f_9 : w_6[q + 2]? = some (am 2, .inl (k0 0, 8, .inl (fun y9 => nI (mc y9)))) := by rw [ew_6]; exact kx_set_ne hM2 (by omega)
        have f_10 : w_6[q + 3]? = some (am 3, .inl (k0 2, 8, .inl (fun y9 => nI (mo y9)))) := by rw [ew_6]; exact kx_set_ne hM3 (by omega)
        have f_11 : w_6[q + 4]? = some (am 4, .inl (k0 0, 192, .inl (fun y9 => nI (me y9)))) := by rw [ew_6]; exact kx_set_ne hM4 (by omega)
        have f_12 : w_6[q + 5]? = some (am 5, .inl (k0 0, 96, .inl (upd mw (12 * i + e9) z))) := by rw [ew_6]; exact kx_set_self hM5
        have f_13 : w_6[q + 6]? = some (am 6, .inl (k0 0, 24, .inl (fun y9 => nI (mm y9)))) := by rw [ew_6]; exact kx_set_ne hM6 (by omega)
        have f_14 : w_6[q + 7]? = some (am 7, .inl (k0 0, 32, .inl (fun y9 => nI (mn y9)))) := by rw [ew_6]; exact kx_set_ne hM7 (by omega)
        have f_15 : w_6[q + 8]? = some (am 8, .inl (k0 3, 4096, .inl (fun y9 => nI (fb y9)))) := by rw [ew_6]; exact kx_set_ne hM8 (by omega)
        have f_16 : w_6[q + 9]? = some (am 9, .inl (k0 3, 4096, .inl (fun y9 => nI (sb y9)))) := by rw [ew_6]; exact kx_set_ne hM9 (by omega)
        have hfr : kx_fr w0 w_6 (fun j => q ≤ j ∧ j < q + 10) := kx_fr_tr hfr (by rw [ew_6]; exact kx_fr_set (by omega))
        refine lv_iconst (v := 1) hx hb dX3_weigh_37 (by decide +kernel) ?_
        exact kx_iret (v := 1) hx hb hr rfl hlocks hK hP hD hS dX3_weigh_38 (⟨Or.inl ⟨i, e9, h8i, he9, e_x, e_y, hz1, hz2, rfl, ⟨f_7, f_8, f_9, f_10, f_11, f_12, f_13, f_14, f_15, f_16⟩⟩, hfr⟩)
      · skip
        have hno : ¬ (∃ i e9, i < 8 ∧ e9 < mc i ∧ x = nI i ∧ y = nI e9 ∧ -999 ≤ z.toInt ∧ z.toInt ≤ 999) := fun ⟨_, _, _, _, _, _, _, h1⟩ => by
          rw [Int32.le_iff_toInt_le, show ((999 : Int32)).toInt = 999 by decide] at c_20
          omega
        refine lv_iconst (v := 0) hx hb dX3_weigh_23 (by decide +kernel) ?_
        exact kx_iret (v := 0) hx hb hr rfl hlocks hK hP hD hS dX3_weigh_24 (⟨Or.inr ⟨hno, rfl, rfl⟩, kx_fr_rf _ _⟩)

set_option maxHeartbeats 4000000 in
set_option maxRecDepth 100000 in
/-- the model: size -/
theorem m_size (l : Launch) (D : va_G) (k0 : Nat → ClassId)  (w0 : va_W) (sz : Nat) (S : Nat) (hSb : S < 2 ^ 31) : kx_i l yX3_size wsX3_size ({ frames := 0, cells := 0, slots := 0, locals := 0 } : Room) D (tyL k0) w0 sz [.int (nI S)] (fun (r : Int32) (u : va_W) => r = nI (cf_card 12 S) ∧ u = w0) 0 0 := by
  refine kx_of (Qf := fun A => va_Qi (fun (r : Int32) (u : va_W) => r = nI (cf_card 12 S) ∧ u = w0) (kx_B D (tyL k0) A) A) (cc := cX3_size) (maxL := 3) (ret := (some .int)) (by decide +kernel) (Nat.le_of_ble_eq_true rfl) ?_
  intro p e s m below meth c A ls hx hb hml hown hts hr hlocks hnm hN hK hP hD hS hA hl
  have hown : s.vm.findClass RX3 = some m.cls := hown
  have hl : lv_has ls 3 [(0, .int (nI S))] := hl
  skip
  refine lv_iconst (v := nI 0) hx hb dX3_size_0 (by decide +kernel) ?_
  refine lv_istore_n (lv' := [(1, .int (nI 0)), (0, .int (nI S))]) hx hb dX3_size_1 rfl hl (by decide) rfl (fun ls hl => ?_)
  refine lv_iconst (v := nI 0) hx hb dX3_size_2 (by decide +kernel) ?_
  refine lv_istore_n (lv' := [(2, .int (nI 0)), (1, .int (nI 0)), (0, .int (nI S))]) hx hb dX3_size_3 rfl hl (by decide) rfl (fun ls hl => ?_)
  have loop_4 : ∀ (n4 : Nat) (e9 : Nat), (e9 ≤ 12) → (13 ≤ e9 + n4) → ∀ (H : Heap) (locs : List Loc), va_P D vwCl w0 H → va_D A w0 → va_S A s.heap H locs → ∀ (ls : Array Slot), lv_has ls 3 [(2, .int (nI e9)), (1, .int (nI (cf_card e9 S))), (0, .int (nI S))] → W p l e ({ frames := 0, cells := 0, slots := 0, locals := 0 } : Room) s m ([.int (nI S)] : List Value).toArray below meth c H locs 0 0 (MQ below (va_Qi (fun (r : Int32) (u : va_W) => r = nI (cf_card 12 S) ∧ u = w0) (kx_B D (tyL k0) A) A) ([.int (nI S)] : List Value).toArray s 0 0 A) (F0 m 4 ls []) := by
    intro n4
    induction n4 with
    | zero =>
      intro e9 he hme
      exact absurd hme (by omega)
    | succ n4 ih4 =>
      intro e9 he hme  H locs hP hD hS ls hl
      refine lv_iload_n hx hb dX3_size_4 rfl (lv_at hl 0 rfl) ?_
      refine lv_bipush (v := nI 12) hx hb dX3_size_5 (by decide +kernel) ?_
      refine lv_icmp_ge (tgt := 24) hx hb dX3_size_7 (by decide) (fun c_7 => ?_) (fun c_7 => ?_)
      · skip
        have hik : e9 = 12 := by
          have := (nI_leI (by omega) (by omega)).mp c_7
          omega
        subst hik
        refine lv_iload_n hx hb dX3_size_24 rfl (lv_at hl 1 rfl) ?_
        exact kx_iret (v := nI (cf_card 12 S)) hx hb hr rfl hlocks hK hP hD hS dX3_size_25 (⟨rfl, rfl⟩)
      · skip
        have hik : e9 < 12 := by
          rcases Nat.lt_or_ge (e9) (12) with h | h
          · exact h
          · exact absurd ((nI_leI (by omega) (by omega)).mpr h) c_7
        refine lv_iload_n hx hb dX3_size_10 rfl (lv_at hl 1 rfl) ?_
        refine lv_iload_n hx hb dX3_size_11 rfl (lv_at hl 2 rfl) ?_
        refine lv_iload_n hx hb dX3_size_12 rfl (lv_at hl 0 rfl) ?_
        refine lv_ishr hx hb dX3_size_13 ?_
        refine lv_iconst (v := 1) hx hb dX3_size_14 (by decide +kernel) ?_
        refine lv_iand hx hb dX3_size_15 ?_
        refine lv_topi (fun z_1 ez_1 => ?_)
        have ez_1 : z_1 = nI (if S.testBit e9 = true then 1 else 0) := by rw [ez_1]; exact kb_has (by omega) (by omega)
        subst ez_1
        refine lv_iadd hx hb dX3_size_16 ?_
        refine lv_topi (fun z_2 ez_2 => ?_)
        have ez_2 : z_2 = nI (cf_card (e9 + 1) S) := by rw [ez_2]; exact nI_add _ _
        subst ez_2
        refine lv_istore_n (lv' := [(1, .int (nI (cf_card (e9 + 1) S))), (2, .int (nI e9)), (0, .int (nI S))]) hx hb dX3_size_17 rfl hl (by decide) rfl (fun ls hl => ?_)
        refine lv_iinc (v := nI (e9 + 1)) (lv' := [(2, .int (nI (e9 + 1))), (1, .int (nI (cf_card (e9 + 1) S))), (0, .int (nI S))]) hx hb dX3_size_18 hl (k := 1) rfl (nI_1 _) (by decide) rfl (fun ls hl => ?_)
        refine lv_goto (tgt := 4) hx hb dX3_size_21 (by decide) ?_
        exact ih4 (e9 + 1) (by omega) (by omega) _ _ hP hD hS _ (lv_sub hl [0, 1, 2] rfl)
  exact loop_4 (13) 0 (by omega) (by omega) _ _ hP hD hS _ (lv_sub hl [0, 1, 2] rfl)

theorem kb_biteq (a b : Bool) : nI (if a = true then 1 else 0) = nI (if b = true then 1 else 0) ↔ a = b := by cases a <;> cases b <;> decide
theorem kb_bit1 (a : Bool) : nI (if a = true then 1 else 0) = (1 : Int32) ↔ a = true := by cases a <;> decide
theorem mo_no {a b : Nat} (ha : a < 2 ^ 12) (hb : b < 2 ^ 12) (h : ∀ j, j < 12 → a.testBit j = b.testBit j) : ¬ mo_lt a b := by
  have e : a = b := Nat.eq_of_testBit_eq fun i => by
    rcases Nat.lt_or_ge i 12 with q | q
    · exact h i q
    · rw [Nat.testBit_lt_two_pow (Nat.lt_of_lt_of_le ha (Nat.pow_le_pow_right (by omega) q)), Nat.testBit_lt_two_pow (Nat.lt_of_lt_of_le hb (Nat.pow_le_pow_right (by omega) q))]
  subst e
  rintro (q | ⟨_, q⟩)
  · omega
  · exact cf_lex_ir q

set_option maxHeartbeats 4000000 in
set_option maxRecDepth 100000 in
/-- the model: comesFirst -/
theorem m_comesFirst (l : Launch) (D : va_G) (k0 : Nat → ClassId)  (w0 : va_W) (sz : Nat) (a b : Nat) (ha : a < 2 ^ 12) (hb9 : b < 2 ^ 12) : kx_i l yX3_comesFirst wsX3_comesFirst ({ frames := 1, cells := 0, slots := 0, locals := 24 } : Room) D (tyL k0) w0 sz [.int (nI a), .int (nI b)] (fun (r : Int32) (u : va_W) => ((r = 1 ∧ mo_lt a b) ∨ (r = 0 ∧ ¬ mo_lt a b)) ∧ u = w0) 0 0 := by
  refine kx_of (Qf := fun A => va_Qi (fun (r : Int32) (u : va_W) => ((r = 1 ∧ mo_lt a b) ∨ (r = 0 ∧ ¬ mo_lt a b)) ∧ u = w0) (kx_B D (tyL k0) A) A) (cc := cX3_comesFirst) (maxL := 3) (ret := (some .boolean)) (by decide +kernel) (Nat.le_of_ble_eq_true rfl) ?_
  intro p e s m below meth c A ls hx hb hml hown hts hr hlocks hnm hN hK hP hD hS hA hl
  have hown : s.vm.findClass RX3 = some m.cls := hown
  have hl : lv_has ls 3 [(0, .int (nI a)), (1, .int (nI b))] := hl
  skip
  have ca := cf_card_le 12 a
  have cb := cf_card_le 12 b
  refine lv_iload_n hx hb dX3_comesFirst_0 rfl (lv_at hl 0 rfl) ?_
  refine kx_goi (va_runS (As := [.int (nI a)]) (rest := []) ⟨hx, hb, hml, hown, hts⟩ (m_size l D k0 w0 _ a (by omega)) ⟨(kg_B (k := 1) hts tw_356 tw_354 tw_22 (by decide +kernel) rfl rfl ⟨Nat.le_of_ble_eq_true rfl, Nat.le_of_ble_eq_true rfl⟩), hts _ tw_355⟩ (kx_preS hN hK hP hD) rfl rfl hl.1 rfl (lv_room (Nat.le_of_ble_eq_true rfl)) dX3_comesFirst_1 ⟨Nat.le_of_ble_eq_true rfl, Nat.le_of_ble_eq_true rfl⟩) hD hS hA (fun r_2 u_3 H locs hp_1 hP hD hS => ?_)
  obtain ⟨er_2, eu_3⟩ := hp_1
  rw [eu_3] at hP hD; subst er_2
  refine lv_iload_n hx hb dX3_comesFirst_4 rfl (lv_at hl 1 rfl) ?_
  refine kx_goi (va_runS (As := [.int (nI b)]) (rest := [.int (nI (cf_card 12 a))]) ⟨hx, hb, hml, hown, hts⟩ (m_size l D k0 w0 _ b (by omega)) ⟨(kg_B (k := 1) hts tw_356 tw_354 tw_22 (by decide +kernel) rfl rfl ⟨Nat.le_of_ble_eq_true rfl, Nat.le_of_ble_eq_true rfl⟩), hts _ tw_355⟩ (kx_preS hN hK hP hD) rfl rfl hl.1 rfl (lv_room (Nat.le_of_ble_eq_true rfl)) dX3_comesFirst_5 ⟨Nat.le_of_ble_eq_true rfl, Nat.le_of_ble_eq_true rfl⟩) hD hS hA (fun r_5 u_6 H locs hp_4 hP hD hS => ?_)
  obtain ⟨er_5, eu_6⟩ := hp_4
  rw [eu_6] at hP hD; subst er_5
  refine lv_icmp_eq (tgt := 28) hx hb dX3_comesFirst_8 (by decide) (fun c_8 => ?_) (fun c_8 => ?_)
  · skip
    have hce : cf_card 12 a = cf_card 12 b := (nI_eq (by omega) (by omega)).mp c_8
    refine lv_iconst (v := nI 0) hx hb dX3_comesFirst_28 (by decide +kernel) ?_
    refine lv_istore_n (lv' := [(2, .int (nI 0)), (0, .int (nI a)), (1, .int (nI b))]) hx hb dX3_comesFirst_29 rfl hl (by decide) rfl (fun ls hl => ?_)
    have loop_30 : ∀ (n30 : Nat) (e9 : Nat), (e9 ≤ 12) → (∀ j, j < e9 → a.testBit j = b.testBit j) → (13 ≤ e9 + n30) → ∀ (H : Heap) (locs : List Loc), va_P D vwCl w0 H → va_D A w0 → va_S A s.heap H locs → ∀ (ls : Array Slot), lv_has ls 3 [(2, .int (nI e9)), (0, .int (nI a)), (1, .int (nI b))] → W p l e ({ frames := 1, cells := 0, slots := 0, locals := 24 } : Room) s m ([.int (nI a), .int (nI b)] : List Value).toArray below meth c H locs 0 0 (MQ below (va_Qi (fun (r : Int32) (u : va_W) => ((r = 1 ∧ mo_lt a b) ∨ (r = 0 ∧ ¬ mo_lt a b)) ∧ u = w0) (kx_B D (tyL k0) A) A) ([.int (nI a), .int (nI b)] : List Value).toArray s 0 0 A) (F0 m 30 ls []) := by
      intro n30
      induction n30 with
      | zero =>
        intro e9 he hsm hme
        exact absurd hme (by omega)
      | succ n30 ih30 =>
        intro e9 he hsm hme  H locs hP hD hS ls hl
        refine lv_iload_n hx hb dX3_comesFirst_30 rfl (lv_at hl 0 rfl) ?_
        refine lv_bipush (v := nI 12) hx hb dX3_comesFirst_31 (by decide +kernel) ?_
        refine lv_icmp_ge (tgt := 70) hx hb dX3_comesFirst_33 (by decide) (fun c_33 => ?_) (fun c_33 => ?_)
        · skip
          have hik : e9 = 12 := by
            have := (nI_leI (by omega) (by omega)).mp c_33
            omega
          subst hik
          have hno : ¬ mo_lt a b := mo_no ha hb9 hsm
          refine lv_iconst (v := 0) hx hb dX3_comesFirst_70 (by decide +kernel) ?_
          exact kx_iret (v := 0) hx hb hr rfl hlocks hK hP hD hS dX3_comesFirst_71 (⟨by first | exact Or.inl ⟨rfl, hyes⟩ | exact Or.inr ⟨rfl, hno⟩, rfl⟩)
        · skip
          have hik : e9 < 12 := by
            rcases Nat.lt_or_ge (e9) (12) with h | h
            · exact h
            · exact absurd ((nI_leI (by omega) (by omega)).mpr h) c_33
          refine lv_iload_n hx hb dX3_comesFirst_36 rfl (lv_at hl 1 rfl) ?_
          refine lv_iload_n hx hb dX3_comesFirst_37 rfl (lv_at hl 0 rfl) ?_
          refine lv_ishr hx hb dX3_comesFirst_38 ?_
          refine lv_iconst (v := 1) hx hb dX3_comesFirst_39 (by decide +kernel) ?_
          refine lv_iand hx hb dX3_comesFirst_40 ?_
          refine lv_topi (fun z_7 ez_7 => ?_)
          have ez_7 : z_7 = nI (if a.testBit e9 = true then 1 else 0) := by rw [ez_7]; exact kb_has (by omega) (by omega)
          subst ez_7
          refine lv_iload_n hx hb dX3_comesFirst_41 rfl (lv_at hl 2 rfl) ?_
          refine lv_iload_n hx hb dX3_comesFirst_42 rfl (lv_at hl 0 rfl) ?_
          refine lv_ishr hx hb dX3_comesFirst_43 ?_
          refine lv_iconst (v := 1) hx hb dX3_comesFirst_44 (by decide +kernel) ?_
          refine lv_iand hx hb dX3_comesFirst_45 ?_
          refine lv_topi (fun z_8 ez_8 => ?_)
          have ez_8 : z_8 = nI (if b.testBit e9 = true then 1 else 0) := by rw [ez_8]; exact kb_has (by omega) (by omega)
          subst ez_8
          refine lv_icmp_eq (tgt := 64) hx hb dX3_comesFirst_46 (by decide) (fun c_46 => ?_) (fun c_46 => ?_)
          · skip
            have hbe : a.testBit e9 = b.testBit e9 := (kb_biteq _ _).mp c_46
            refine lv_iinc (v := nI (e9 + 1)) (lv' := [(2, .int (nI (e9 + 1))), (0, .int (nI a)), (1, .int (nI b))]) hx hb dX3_comesFirst_64 hl (k := 0) rfl (nI_1 _) (by decide) rfl (fun ls hl => ?_)
            refine lv_goto (tgt := 30) hx hb dX3_comesFirst_67 (by decide) ?_
            exact ih30 (e9 + 1) (by omega) (fun j h => by
                rcases Nat.lt_or_ge j e9 with h2 | h2
                · exact hsm j h2
                · rw [show j = e9 by omega]; exact hbe) (by omega) _ _ hP hD hS _ (lv_sub hl [0, 1, 2] rfl)
          · skip
            have hbn : a.testBit e9 ≠ b.testBit e9 := fun h => c_46 ((kb_biteq _ _).mpr h)
            refine lv_iload_n hx hb dX3_comesFirst_49 rfl (lv_at hl 1 rfl) ?_
            refine lv_iload_n hx hb dX3_comesFirst_50 rfl (lv_at hl 0 rfl) ?_
            refine lv_ishr hx hb dX3_comesFirst_51 ?_
            refine lv_iconst (v := 1) hx hb dX3_comesFirst_52 (by decide +kernel) ?_
            refine lv_iand hx hb dX3_comesFirst_53 ?_
            refine lv_topi (fun z_9 ez_9 => ?_)
            have ez_9 : z_9 = nI (if a.testBit e9 = true then 1 else 0) := by rw [ez_9]; exact kb_has (by omega) (by omega)
            subst ez_9
            refine lv_iconst (v := 1) hx hb dX3_comesFirst_54 (by decide +kernel) ?_
            refine lv_icmp_ne (tgt := 62) hx hb dX3_comesFirst_55 (by decide) (fun c_55 => ?_) (fun c_55 => ?_)
            · skip
              have ha0 : a.testBit e9 = false := by
                cases hq9 : a.testBit e9 with
                | false => rfl
                | true => exact absurd ((kb_bit1 _).mpr hq9) c_55
              have hno : ¬ mo_lt a b := by
                rintro (h | ⟨_, z, h1, h2, h3⟩)
                · omega
                · rcases Nat.lt_trichotomy z e9 with h | h | h
                  · rw [hsm z h, h2] at h1; cases h1
                  · rw [h, ha0] at h1; cases h1
                  · exact hbn (h3 e9 h)
              refine lv_iconst (v := 0) hx hb dX3_comesFirst_62 (by decide +kernel) ?_
              exact kx_iret (v := 0) hx hb hr rfl hlocks hK hP hD hS dX3_comesFirst_63 (⟨by first | exact Or.inl ⟨rfl, hyes⟩ | exact Or.inr ⟨rfl, hno⟩, rfl⟩)
            · skip
              have ha1 : a.testBit e9 = true := (kb_bit1 _).mp c_55
              have hyes : mo_lt a b := Or.inr ⟨hce, e9, ha1, by
                cases hq9 : b.testBit e9 with
                | false => rfl
                | true => rw [ha1, hq9] at hbn; exact absurd rfl hbn, hsm⟩
              refine lv_iconst (v := 1) hx hb dX3_comesFirst_58 (by decide +kernel) ?_
              refine lv_goto (tgt := 63) hx hb dX3_comesFirst_59 (by decide) ?_
              exact kx_iret (v := 1) hx hb hr rfl hlocks hK hP hD hS dX3_comesFirst_63 (⟨by first | exact Or.inl ⟨rfl, hyes⟩ | exact Or.inr ⟨rfl, hno⟩, rfl⟩)
    exact loop_30 (13) 0 (by omega) (fun j h => absurd h (Nat.not_lt_zero j)) (by omega) _ _ hP hD hS _ (lv_sub hl [0, 1, 2] rfl)
  · skip
    have hce : cf_card 12 a ≠ cf_card 12 b := fun h => c_8 (by rw [h])
    refine lv_iload_n hx hb dX3_comesFirst_11 rfl (lv_at hl 0 rfl) ?_
    refine kx_goi (va_runS (As := [.int (nI a)]) (rest := []) ⟨hx, hb, hml, hown, hts⟩ (m_size l D k0 w0 _ a (by omega)) ⟨(kg_B (k := 1) hts tw_356 tw_354 tw_22 (by decide +kernel) rfl rfl ⟨Nat.le_of_ble_eq_true rfl, Nat.le_of_ble_eq_true rfl⟩), hts _ tw_355⟩ (kx_preS hN hK hP hD) rfl rfl hl.1 rfl (lv_room (Nat.le_of_ble_eq_true rfl)) dX3_comesFirst_12 ⟨Nat.le_of_ble_eq_true rfl, Nat.le_of_ble_eq_true rfl⟩) hD hS hA (fun r_11 u_12 H locs hp_10 hP hD hS => ?_)
    obtain ⟨er_11, eu_12⟩ := hp_10
    rw [eu_12] at hP hD; subst er_11
    refine lv_iload_n hx hb dX3_comesFirst_15 rfl (lv_at hl 1 rfl) ?_
    refine kx_goi (va_runS (As := [.int (nI b)]) (rest := [.int (nI (cf_card 12 a))]) ⟨hx, hb, hml, hown, hts⟩ (m_size l D k0 w0 _ b (by omega)) ⟨(kg_B (k := 1) hts tw_356 tw_354 tw_22 (by decide +kernel) rfl rfl ⟨Nat.le_of_ble_eq_true rfl, Nat.le_of_ble_eq_true rfl⟩), hts _ tw_355⟩ (kx_preS hN hK hP hD) rfl rfl hl.1 rfl (lv_room (Nat.le_of_ble_eq_true rfl)) dX3_comesFirst_16 ⟨Nat.le_of_ble_eq_true rfl, Nat.le_of_ble_eq_true rfl⟩) hD hS hA (fun r_14 u_15 H locs hp_13 hP hD hS => ?_)
    obtain ⟨er_14, eu_15⟩ := hp_13
    rw [eu_15] at hP hD; subst er_14
    refine lv_icmp_ge (tgt := 26) hx hb dX3_comesFirst_19 (by decide) (fun c_19 => ?_) (fun c_19 => ?_)
    · skip
      have hno : ¬ mo_lt a b := by
        have := (nI_leI (by omega) (by omega)).mp c_19
        rintro (h | ⟨h, _⟩)
        · omega
        · exact hce h
      refine lv_iconst (v := 0) hx hb dX3_comesFirst_26 (by decide +kernel) ?_
      exact kx_iret (v := 0) hx hb hr rfl hlocks hK hP hD hS dX3_comesFirst_27 (⟨by first | exact Or.inl ⟨rfl, hyes⟩ | exact Or.inr ⟨rfl, hno⟩, rfl⟩)
    · skip
      have hyes : mo_lt a b := Or.inl (by
        rcases Nat.lt_or_ge (cf_card 12 a) (cf_card 12 b) with h | h
        · exact h
        · exact absurd ((nI_leI (by omega) (by omega)).mpr h) c_19)
      refine lv_iconst (v := 1) hx hb dX3_comesFirst_22 (by decide +kernel) ?_
      refine lv_goto (tgt := 27) hx hb dX3_comesFirst_23 (by decide) ?_
      exact kx_iret (v := 1) hx hb hr rfl hlocks hK hP hD hS dX3_comesFirst_27 (⟨by first | exact Or.inl ⟨rfl, hyes⟩ | exact Or.inr ⟨rfl, hno⟩, rfl⟩)
