set_option maxHeartbeats 4000000 in
set_option maxRecDepth 100000 in
/-- Forest() -/
theorem c_Finit (l : Launch) (D : va_G) (k0 : Nat → ClassId)  (w0 : va_W) (sz : Nat) (q f : Nat) (hF : w0[q]? = some (f, .inr (0, [.null, .null, .int 0]))) (hlen : w0.length = q + 1) : kx_v l yX0_init wsX0_init ({ frames := 1, cells := 2, slots := 24, locals := 24 } : Room) D (tyL k0) w0 sz [.ref f] (fun (u : va_W) => ∃ ra pa, atF u q k0 f ra pa (fun _ => 0) (fun _ => 0) 0 ∧ u.length = q + 3 ∧ kx_fr w0 u (fun j => q ≤ j)) 2 24 := by
  refine kx_of (Qf := fun A => va_Qv (fun (u : va_W) => ∃ ra pa, atF u q k0 f ra pa (fun _ => 0) (fun _ => 0) 0 ∧ u.length = q + 3 ∧ kx_fr w0 u (fun j => q ≤ j)) (kx_B D (tyL k0) A) A) (cc := cX0_init) (maxL := 1) (ret := none) (by decide +kernel) (Nat.le_of_ble_eq_true rfl) ?_
  intro p e s m below meth c A ls hx hb hml hown hts hr hlocks hnm hN hK hP hD hS hA hl
  have hown : s.vm.findClass RX0 = some m.cls := hown
  have hl : lv_has ls 1 [(0, .ref f)] := hl
  have hfr : kx_fr w0 w0 (fun j => q ≤ j) := kx_fr_rf _ _
  refine lv_aload_n hx hb dX0_init_0 rfl (lv_at hl 0 rfl) ?_
  refine W.objInit hx hb hown (hts _ tw_40) (hts _ tw_31) (hts _ tw_obj) rfl (by rw [hml]; exact hl.1) rfl dX0_init_1 (Nat.le_of_ble_eq_true rfl) (Nat.le_of_ble_eq_true rfl) ?_
  refine W.eq (g2 := F0 m 4 ls []) rfl ?_
  refine lv_aload_n hx hb dX0_init_4 rfl (lv_at hl 0 rfl) ?_
  refine lv_bipush (v := nI 12) hx hb dX0_init_5 (by decide +kernel) ?_
  refine kx_newi hx hb (hts _ tw_51) hK hP hD hS hA (n := 12) (by decide) (by show 0 + 1 ≤ (2 : Nat); omega) (by show 0 + 12 ≤ (24 : Nat); omega) dX0_init_7 (fun qa_1 H hP hD hS => ?_)
  obtain ⟨w_2, ew_2⟩ : ∃ w, w = w0 ++ [(qa_1, .inl (k0 0, 12, .inl (fun y9 => nI ((fun _ => 0) y9))))] := ⟨_, rfl⟩
  have hP : va_P D vwCl w_2 H := by rw [ew_2]; exact hP
  have hD : va_D A w_2 := by rw [ew_2]; exact hD
  have f_3 : w_2[q]? = some (f, .inr (0, [.null, .null, .int 0])) := by rw [ew_2]; exact kx_push_old hF
  have f_4 : w_2[q + 1]? = some (qa_1, .inl (k0 0, 12, .inl (fun y9 => nI ((fun _ => 0) y9)))) := by rw [ew_2]; exact kx_push_new hlen
  have hfr : kx_fr w0 w_2 (fun j => q ≤ j) := kx_fr_tr hfr (by rw [ew_2]; exact kx_fr_push (by rw [hlen]; omega))
  have hlen : w_2.length = q + 2 := by rw [ew_2]; exact kx_push_len hlen
  refine va_putF (D := D) (ci := 0) (v := .ref qa_1) (ty := .array .int) (C := RX0) (T := TX0) (N := 3) hx hb hts inX0 tyX0 tyX0_ok nmX0 hown hK hP hD hS q f_3 rfl 0 (by decide) (hts _ tw_41) (fun _ h9 => h9) rfl hnm rfl (by decide +kernel) rfl rfl (Nat.le_of_ble_eq_true rfl) dX0_init_9 (fun H locs hP hD hS => ?_)
  obtain ⟨w_5, ew_5⟩ : ∃ w, w = w_2.set q (f, .inr (0, [.ref qa_1, .null, .int 0])) := ⟨_, rfl⟩
  have hP : va_P D vwCl w_5 H := by rw [ew_5]; exact hP
  have hD : va_D A w_5 := by rw [ew_5]; exact hD
  have f_6 : w_5[q]? = some (f, .inr (0, [.ref qa_1, .null, .int 0])) := by rw [ew_5]; exact kx_set_self f_3
  have f_7 : w_5[q + 1]? = some (qa_1, .inl (k0 0, 12, .inl (fun y9 => nI ((fun _ => 0) y9)))) := by rw [ew_5]; exact kx_set_ne f_4 (by omega)
  have hfr : kx_fr w0 w_5 (fun j => q ≤ j) := kx_fr_tr hfr (by rw [ew_5]; exact kx_fr_set (by omega))
  have hlen : w_5.length = q + 2 := by rw [ew_5]; exact kx_set_len hlen
  refine lv_aload_n hx hb dX0_init_12 rfl (lv_at hl 0 rfl) ?_
  refine lv_bipush (v := nI 12) hx hb dX0_init_13 (by decide +kernel) ?_
  refine kx_newi hx hb (hts _ tw_51) hK hP hD hS hA (n := 12) (by decide) (by show (0 + 1) + 1 ≤ (2 : Nat); omega) (by show (0 + 12) + 12 ≤ (24 : Nat); omega) dX0_init_15 (fun qa_8 H hP hD hS => ?_)
  obtain ⟨w_9, ew_9⟩ : ∃ w, w = w_5 ++ [(qa_8, .inl (k0 0, 12, .inl (fun y9 => nI ((fun _ => 0) y9))))] := ⟨_, rfl⟩
  have hP : va_P D vwCl w_9 H := by rw [ew_9]; exact hP
  have hD : va_D A w_9 := by rw [ew_9]; exact hD
  have f_10 : w_9[q]? = some (f, .inr (0, [.ref qa_1, .null, .int 0])) := by rw [ew_9]; exact kx_push_old f_6
  have f_11 : w_9[q + 1]? = some (qa_1, .inl (k0 0, 12, .inl (fun y9 => nI ((fun _ => 0) y9)))) := by rw [ew_9]; exact kx_push_old f_7
  have f_12 : w_9[q + 2]? = some (qa_8, .inl (k0 0, 12, .inl (fun y9 => nI ((fun _ => 0) y9)))) := by rw [ew_9]; exact kx_push_new hlen
  have hfr : kx_fr w0 w_9 (fun j => q ≤ j) := kx_fr_tr hfr (by rw [ew_9]; exact kx_fr_push (by rw [hlen]; omega))
  have hlen : w_9.length = q + 3 := by rw [ew_9]; exact kx_push_len hlen
  refine va_putF (D := D) (ci := 0) (v := .ref qa_8) (ty := .array .int) (C := RX0) (T := TX0) (N := 3) hx hb hts inX0 tyX0 tyX0_ok nmX0 hown hK hP hD hS q f_10 rfl 1 (by decide) (hts _ tw_42) (fun _ h9 => h9) rfl hnm rfl (by decide +kernel) rfl rfl (Nat.le_of_ble_eq_true rfl) dX0_init_17 (fun H locs hP hD hS => ?_)
  obtain ⟨w_13, ew_13⟩ : ∃ w, w = w_9.set q (f, .inr (0, [.ref qa_1, .ref qa_8, .int 0])) := ⟨_, rfl⟩
  have hP : va_P D vwCl w_13 H := by rw [ew_13]; exact hP
  have hD : va_D A w_13 := by rw [ew_13]; exact hD
  have f_14 : w_13[q]? = some (f, .inr (0, [.ref qa_1, .ref qa_8, .int 0])) := by rw [ew_13]; exact kx_set_self f_10
  have f_15 : w_13[q + 1]? = some (qa_1, .inl (k0 0, 12, .inl (fun y9 => nI ((fun _ => 0) y9)))) := by rw [ew_13]; exact kx_set_ne f_11 (by omega)
  have f_16 : w_13[q + 2]? = some (qa_8, .inl (k0 0, 12, .inl (fun y9 => nI ((fun _ => 0) y9)))) := by rw [ew_13]; exact kx_set_ne f_12 (by omega)
  have hfr : kx_fr w0 w_13 (fun j => q ≤ j) := kx_fr_tr hfr (by rw [ew_13]; exact kx_fr_set (by omega))
  have hlen : w_13.length = q + 3 := by rw [ew_13]; exact kx_set_len hlen
  refine lv_aload_n hx hb dX0_init_20 rfl (lv_at hl 0 rfl) ?_
  refine lv_iconst (v := nI 0) hx hb dX0_init_21 (by decide +kernel) ?_
  refine va_put (D := D) (ci := 0) (v := .int (nI 0)) (ty := .int) (C := RX0) (T := TX0) (N := 3) hx hb hts inX0 tyX0 tyX0_ok nmX0 hown hK hP hD hS q f_14 rfl 2 (by decide) (hts _ tw_43) (fun _ h9 => h9) rfl (by decide +kernel) rfl rfl (Nat.le_of_ble_eq_true rfl) dX0_init_22 (fun H locs hP hD hS => ?_)
  obtain ⟨w_17, ew_17⟩ : ∃ w, w = w_13.set q (f, .inr (0, [.ref qa_1, .ref qa_8, .int (nI 0)])) := ⟨_, rfl⟩
  have hP : va_P D vwCl w_17 H := by rw [ew_17]; exact hP
  have hD : va_D A w_17 := by rw [ew_17]; exact hD
  have f_18 : w_17[q]? = some (f, .inr (0, [.ref qa_1, .ref qa_8, .int (nI 0)])) := by rw [ew_17]; exact kx_set_self f_14
  have f_19 : w_17[q + 1]? = some (qa_1, .inl (k0 0, 12, .inl (fun y9 => nI ((fun _ => 0) y9)))) := by rw [ew_17]; exact kx_set_ne f_15 (by omega)
  have f_20 : w_17[q + 2]? = some (qa_8, .inl (k0 0, 12, .inl (fun y9 => nI ((fun _ => 0) y9)))) := by rw [ew_17]; exact kx_set_ne f_16 (by omega)
  have hfr : kx_fr w0 w_17 (fun j => q ≤ j) := kx_fr_tr hfr (by rw [ew_17]; exact kx_fr_set (by omega))
  have hlen : w_17.length = q + 3 := by rw [ew_17]; exact kx_set_len hlen
  refine W.widen (k := 2) (n := 24) (by omega) (by omega) ?_
  exact kx_vret hx hb hr hlocks hK hP hD hS dX0_init_25 (⟨_, _, ⟨f_18, by first | exact f_8 | assumption, by assumption⟩, hlen, hfr⟩)

set_option maxHeartbeats 4000000 in
set_option maxRecDepth 100000 in
/-- Graph() -/
theorem c_Ginit (l : Launch) (D : va_G) (k0 : Nat → ClassId)  (w0 : va_W) (sz : Nat) (qg g : Nat) (hG : w0[qg]? = some (g, .inr (1, [.null, .null, .int 0, .int 0, .int 0]))) (hlen : w0.length = qg + 1) : kx_v l yX1_init wsX1_init ({ frames := 1, cells := 2, slots := 24, locals := 24 } : Room) D (tyL k0) w0 sz [.ref g] (fun (u : va_W) => ∃ ga gb, atG u qg k0 g ga gb (fun _ => 0) (fun _ => nI 0) 0 (nI 1) 1 ∧ u.length = qg + 3 ∧ kx_fr w0 u (fun j => qg ≤ j)) 2 24 := by
  refine kx_of (Qf := fun A => va_Qv (fun (u : va_W) => ∃ ga gb, atG u qg k0 g ga gb (fun _ => 0) (fun _ => nI 0) 0 (nI 1) 1 ∧ u.length = qg + 3 ∧ kx_fr w0 u (fun j => qg ≤ j)) (kx_B D (tyL k0) A) A) (cc := cX1_init) (maxL := 1) (ret := none) (by decide +kernel) (Nat.le_of_ble_eq_true rfl) ?_
  intro p e s m below meth c A ls hx hb hml hown hts hr hlocks hnm hN hK hP hD hS hA hl
  have hown : s.vm.findClass RX1 = some m.cls := hown
  have hl : lv_has ls 1 [(0, .ref g)] := hl
  have hfr : kx_fr w0 w0 (fun j => qg ≤ j) := kx_fr_rf _ _
  refine lv_aload_n hx hb dX1_init_0 rfl (lv_at hl 0 rfl) ?_
  refine W.objInit hx hb hown (hts _ tw_56) (hts _ tw_31) (hts _ tw_obj) rfl (by rw [hml]; exact hl.1) rfl dX1_init_1 (Nat.le_of_ble_eq_true rfl) (Nat.le_of_ble_eq_true rfl) ?_
  refine W.eq (g2 := F0 m 4 ls []) rfl ?_
  refine lv_aload_n hx hb dX1_init_4 rfl (lv_at hl 0 rfl) ?_
  refine lv_bipush (v := nI 12) hx hb dX1_init_5 (by decide +kernel) ?_
  refine kx_newi hx hb (hts _ tw_51) hK hP hD hS hA (n := 12) (by decide) (by show 0 + 1 ≤ (2 : Nat); omega) (by show 0 + 12 ≤ (24 : Nat); omega) dX1_init_7 (fun qa_1 H hP hD hS => ?_)
  obtain ⟨w_2, ew_2⟩ : ∃ w, w = w0 ++ [(qa_1, .inl (k0 0, 12, .inl (fun y9 => nI ((fun _ => 0) y9))))] := ⟨_, rfl⟩
  have hP : va_P D vwCl w_2 H := by rw [ew_2]; exact hP
  have hD : va_D A w_2 := by rw [ew_2]; exact hD
  have f_3 : w_2[qg]? = some (g, .inr (1, [.null, .null, .int 0, .int 0, .int 0])) := by rw [ew_2]; exact kx_push_old hG
  have f_4 : w_2[qg + 1]? = some (qa_1, .inl (k0 0, 12, .inl (fun y9 => nI ((fun _ => 0) y9)))) := by rw [ew_2]; exact kx_push_new hlen
  have hfr : kx_fr w0 w_2 (fun j => qg ≤ j) := kx_fr_tr hfr (by rw [ew_2]; exact kx_fr_push (by rw [hlen]; omega))
  have hlen : w_2.length = qg + 2 := by rw [ew_2]; exact kx_push_len hlen
  refine va_putF (D := D) (ci := 1) (v := .ref qa_1) (ty := .array .int) (C := RX1) (T := TX1) (N := 5) hx hb hts inX1 tyX1 tyX1_ok nmX1 hown hK hP hD hS qg f_3 rfl 0 (by decide) (hts _ tw_57) (fun _ h9 => h9) rfl hnm rfl (by decide +kernel) rfl rfl (Nat.le_of_ble_eq_true rfl) dX1_init_9 (fun H locs hP hD hS => ?_)
  obtain ⟨w_5, ew_5⟩ : ∃ w, w = w_2.set qg (g, .inr (1, [.ref qa_1, .null, .int 0, .int 0, .int 0])) := ⟨_, rfl⟩
  have hP : va_P D vwCl w_5 H := by rw [ew_5]; exact hP
  have hD : va_D A w_5 := by rw [ew_5]; exact hD
  have f_6 : w_5[qg]? = some (g, .inr (1, [.ref qa_1, .null, .int 0, .int 0, .int 0])) := by rw [ew_5]; exact kx_set_self f_3
  have f_7 : w_5[qg + 1]? = some (qa_1, .inl (k0 0, 12, .inl (fun y9 => nI ((fun _ => 0) y9)))) := by rw [ew_5]; exact kx_set_ne f_4 (by omega)
  have hfr : kx_fr w0 w_5 (fun j => qg ≤ j) := kx_fr_tr hfr (by rw [ew_5]; exact kx_fr_set (by omega))
  have hlen : w_5.length = qg + 2 := by rw [ew_5]; exact kx_set_len hlen
  refine lv_aload_n hx hb dX1_init_12 rfl (lv_at hl 0 rfl) ?_
  refine lv_bipush (v := nI 12) hx hb dX1_init_13 (by decide +kernel) ?_
  refine kx_newi hx hb (hts _ tw_51) hK hP hD hS hA (n := 12) (by decide) (by show (0 + 1) + 1 ≤ (2 : Nat); omega) (by show (0 + 12) + 12 ≤ (24 : Nat); omega) dX1_init_15 (fun qa_8 H hP hD hS => ?_)
  obtain ⟨w_9, ew_9⟩ : ∃ w, w = w_5 ++ [(qa_8, .inl (k0 0, 12, .inl (fun _ => nI 0)))] := ⟨_, rfl⟩
  have hP : va_P D vwCl w_9 H := by rw [ew_9]; exact hP
  have hD : va_D A w_9 := by rw [ew_9]; exact hD
  have f_10 : w_9[qg]? = some (g, .inr (1, [.ref qa_1, .null, .int 0, .int 0, .int 0])) := by rw [ew_9]; exact kx_push_old f_6
  have f_11 : w_9[qg + 1]? = some (qa_1, .inl (k0 0, 12, .inl (fun y9 => nI ((fun _ => 0) y9)))) := by rw [ew_9]; exact kx_push_old f_7
  have f_12 : w_9[qg + 2]? = some (qa_8, .inl (k0 0, 12, .inl (fun _ => nI 0))) := by rw [ew_9]; exact kx_push_new hlen
  have hfr : kx_fr w0 w_9 (fun j => qg ≤ j) := kx_fr_tr hfr (by rw [ew_9]; exact kx_fr_push (by rw [hlen]; omega))
  have hlen : w_9.length = qg + 3 := by rw [ew_9]; exact kx_push_len hlen
  refine va_putF (D := D) (ci := 1) (v := .ref qa_8) (ty := .array .int) (C := RX1) (T := TX1) (N := 5) hx hb hts inX1 tyX1 tyX1_ok nmX1 hown hK hP hD hS qg f_10 rfl 1 (by decide) (hts _ tw_60) (fun _ h9 => h9) rfl hnm rfl (by decide +kernel) rfl rfl (Nat.le_of_ble_eq_true rfl) dX1_init_17 (fun H locs hP hD hS => ?_)
  obtain ⟨w_13, ew_13⟩ : ∃ w, w = w_9.set qg (g, .inr (1, [.ref qa_1, .ref qa_8, .int 0, .int 0, .int 0])) := ⟨_, rfl⟩
  have hP : va_P D vwCl w_13 H := by rw [ew_13]; exact hP
  have hD : va_D A w_13 := by rw [ew_13]; exact hD
  have f_14 : w_13[qg]? = some (g, .inr (1, [.ref qa_1, .ref qa_8, .int 0, .int 0, .int 0])) := by rw [ew_13]; exact kx_set_self f_10
  have f_15 : w_13[qg + 1]? = some (qa_1, .inl (k0 0, 12, .inl (fun y9 => nI ((fun _ => 0) y9)))) := by rw [ew_13]; exact kx_set_ne f_11 (by omega)
  have f_16 : w_13[qg + 2]? = some (qa_8, .inl (k0 0, 12, .inl (fun _ => nI 0))) := by rw [ew_13]; exact kx_set_ne f_12 (by omega)
  have hfr : kx_fr w0 w_13 (fun j => qg ≤ j) := kx_fr_tr hfr (by rw [ew_13]; exact kx_fr_set (by omega))
  have hlen : w_13.length = qg + 3 := by rw [ew_13]; exact kx_set_len hlen
  refine lv_aload_n hx hb dX1_init_20 rfl (lv_at hl 0 rfl) ?_
  refine lv_iconst (v := nI 0) hx hb dX1_init_21 (by decide +kernel) ?_
  refine va_put (D := D) (ci := 1) (v := .int (nI 0)) (ty := .int) (C := RX1) (T := TX1) (N := 5) hx hb hts inX1 tyX1 tyX1_ok nmX1 hown hK hP hD hS qg f_14 rfl 2 (by decide) (hts _ tw_62) (fun _ h9 => h9) rfl (by decide +kernel) rfl rfl (Nat.le_of_ble_eq_true rfl) dX1_init_22 (fun H locs hP hD hS => ?_)
  obtain ⟨w_17, ew_17⟩ : ∃ w, w = w_13.set qg (g, .inr (1, [.ref qa_1, .ref qa_8, .int (nI 0), .int 0, .int 0])) := ⟨_, rfl⟩
  have hP : va_P D vwCl w_17 H := by rw [ew_17]; exact hP
  have hD : va_D A w_17 := by rw [ew_17]; exact hD
  have f_18 : w_17[qg]? = some (g, .inr (1, [.ref qa_1, .ref qa_8, .int (nI 0), .int 0, .int 0])) := by rw [ew_17]; exact kx_set_self f_14
  have f_19 : w_17[qg + 1]? = some (qa_1, .inl (k0 0, 12, .inl (fun y9 => nI ((fun _ => 0) y9)))) := by rw [ew_17]; exact kx_set_ne f_15 (by omega)
  have f_20 : w_17[qg + 2]? = some (qa_8, .inl (k0 0, 12, .inl (fun _ => nI 0))) := by rw [ew_17]; exact kx_set_ne f_16 (by omega)
  have hfr : kx_fr w0 w_17 (fun j => qg ≤ j) := kx_fr_tr hfr (by rw [ew_17]; exact kx_fr_set (by omega))
  have hlen : w_17.length = qg + 3 := by rw [ew_17]; exact kx_set_len hlen
  refine lv_aload_n hx hb dX1_init_25 rfl (lv_at hl 0 rfl) ?_
  refine lv_iconst (v := nI 1) hx hb dX1_init_26 (by decide +kernel) ?_
  refine va_put (D := D) (ci := 1) (v := .int (nI 1)) (ty := .int) (C := RX1) (T := TX1) (N := 5) hx hb hts inX1 tyX1 tyX1_ok nmX1 hown hK hP hD hS qg f_18 rfl 3 (by decide) (hts _ tw_65) (fun _ h9 => h9) rfl (by decide +kernel) rfl rfl (Nat.le_of_ble_eq_true rfl) dX1_init_27 (fun H locs hP hD hS => ?_)
  obtain ⟨w_21, ew_21⟩ : ∃ w, w = w_17.set qg (g, .inr (1, [.ref qa_1, .ref qa_8, .int (nI 0), .int (nI 1), .int 0])) := ⟨_, rfl⟩
  have hP : va_P D vwCl w_21 H := by rw [ew_21]; exact hP
  have hD : va_D A w_21 := by rw [ew_21]; exact hD
  have f_22 : w_21[qg]? = some (g, .inr (1, [.ref qa_1, .ref qa_8, .int (nI 0), .int (nI 1), .int 0])) := by rw [ew_21]; exact kx_set_self f_18
  have f_23 : w_21[qg + 1]? = some (qa_1, .inl (k0 0, 12, .inl (fun y9 => nI ((fun _ => 0) y9)))) := by rw [ew_21]; exact kx_set_ne f_19 (by omega)
  have f_24 : w_21[qg + 2]? = some (qa_8, .inl (k0 0, 12, .inl (fun _ => nI 0))) := by rw [ew_21]; exact kx_set_ne f_20 (by omega)
  have hfr : kx_fr w0 w_21 (fun j => qg ≤ j) := kx_fr_tr hfr (by rw [ew_21]; exact kx_fr_set (by omega))
  have hlen : w_21.length = qg + 3 := by rw [ew_21]; exact kx_set_len hlen
  refine lv_aload_n hx hb dX1_init_30 rfl (lv_at hl 0 rfl) ?_
  refine lv_iconst (v := 1) hx hb dX1_init_31 (by decide +kernel) ?_
  refine va_put (D := D) (ci := 1) (v := .int 1) (ty := .boolean) (C := RX1) (T := TX1) (N := 5) hx hb hts inX1 tyX1 tyX1_ok nmX1 hown hK hP hD hS qg f_22 rfl 4 (by decide) (hts _ tw_66) (fun _ h9 => h9) rfl (by decide +kernel) rfl rfl (Nat.le_of_ble_eq_true rfl) dX1_init_32 (fun H locs hP hD hS => ?_)
  obtain ⟨w_25, ew_25⟩ : ∃ w, w = w_21.set qg (g, .inr (1, [.ref qa_1, .ref qa_8, .int (nI 0), .int (nI 1), .int 1])) := ⟨_, rfl⟩
  have hP : va_P D vwCl w_25 H := by rw [ew_25]; exact hP
  have hD : va_D A w_25 := by rw [ew_25]; exact hD
  have f_26 : w_25[qg]? = some (g, .inr (1, [.ref qa_1, .ref qa_8, .int (nI 0), .int (nI 1), .int 1])) := by rw [ew_25]; exact kx_set_self f_22
  have f_27 : w_25[qg + 1]? = some (qa_1, .inl (k0 0, 12, .inl (fun y9 => nI ((fun _ => 0) y9)))) := by rw [ew_25]; exact kx_set_ne f_23 (by omega)
  have f_28 : w_25[qg + 2]? = some (qa_8, .inl (k0 0, 12, .inl (fun _ => nI 0))) := by rw [ew_25]; exact kx_set_ne f_24 (by omega)
  have hfr : kx_fr w0 w_25 (fun j => qg ≤ j) := kx_fr_tr hfr (by rw [ew_25]; exact kx_fr_set (by omega))
  have hlen : w_25.length = qg + 3 := by rw [ew_25]; exact kx_set_len hlen
  refine W.widen (k := 2) (n := 24) (by omega) (by omega) ?_
  exact kx_vret hx hb hr hlocks hK hP hD hS dX1_init_35 (⟨_, _, ⟨f_26, by assumption, by assumption⟩, hlen, hfr⟩)
